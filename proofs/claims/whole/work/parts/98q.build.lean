/-! THE PURE LEVEL, 75: the builder of the class -/
section RAW
variable {S : HpT} {a κ k : Nat} {x : Int32}
theorem isK_S (hk : hK S a = κ) : isK S (some a) κ = some () := if_pos hk
theorem gI_S (hk : hK S a = κ) : gI S (some a) κ k = some (hI S a k) := if_pos hk
theorem gR_S {r : Option Nat} (hk : hK S a = κ) (hr : hR S a k = r) : gR S (some a) κ k = some r := by
  show (if hK S a = κ then some (hR S a k) else none) = _
  rw [if_pos hk, hr]
theorem pI_S (hk : hK S a = κ) (ha : a < hN S) : pI S (some a) κ k x = some (wI S a k x) := if_pos ⟨hk, ha⟩
theorem pR_S {r : Option Nat} (hk : hK S a = κ) (ha : a < hN S) : pR S (some a) κ k r = some (wR S a k r) := if_pos ⟨hk, ha⟩
theorem aL_S (hk : hK S a = κ) : aL S (some a) κ = some (nI (hZ S a)) := if_pos hk
end RAW
/-- the builder holds T; the rest is as in S0 -/
def TXS (S0 : HpT) (t0 : Nat) (T : tI) (S : HpT) (tx i j : Nat) : Prop :=
  (hK S 77 = 6 ∧ hR S 77 0 = some 78 ∧ hK S 78 = 11 ∧ hR S 78 0 = some tx ∧ 91 ≤ hN S0 ∧ hN S0 + 40100 < BIG) ∧
  (hK S tx = 22 ∧ tx < hN S ∧ (tx = t0 ∨ hN S0 ≤ tx) ∧ 16 ≤ hZ S tx ∧ hZ S tx ≤ 40002 ∧ tx ≠ 78) ∧
  (hI S 78 3 = nI T.1 ∧ hI S 78 1 = 0 ∧ T.1 ≤ hZ S tx ∧ (∀ k, k < T.1 → hI S tx k = T.2 k) ∧ T.1 ≤ 20000 ∧ TY T) ∧
  (hN S0 ≤ hN S ∧ ∀ a, a < hN S0 → hK S a = hK S0 a ∧ hZ S a = hZ S0 a ∧ (a ≠ 78 → ∀ k, hR S a k = hR S0 a k) ∧ (a ≠ 78 → a ≠ t0 → S.2.2.2.1 a = S0.2.2.2.1 a) ∧ S.2.2.2.2.1 a = S0.2.2.2.2.1 a) ∧
  (hZ S0 t0 ≤ hZ S tx ∧ hN S + hZ S0 t0 ≤ hN S0 + hZ S tx ∧ i + hZ S0 t0 ≤ hZ S tx ∧ j + 2 * hZ S0 t0 ≤ 2 * hZ S tx)
def TOP {α : Type} (S0 : HpT) (t0 : Nat) (o : AT α) (v : α) (T' : tI) (i j : Nat) : Prop := ∃ S' tx' i' j', o = some (.ok v, S', i', j') ∧ TXS S0 t0 T' S' tx' (i + i') (j + j')
section TOPS
variable {α β : Type} {S0 S : HpT} {t0 tx i j : Nat} {T T1 T2 : tI}
theorem top_ret {v : α} (h : TXS S0 t0 T S tx i j) : TOP S0 t0 (some (.ok v, S, 0, 0)) v T i j := ⟨S, tx, 0, 0, rfl, h⟩
theorem top_bind {o : AT α} {v : α} {w : β} {g : α → HpT → AT β} (h : TOP S0 t0 o v T1 i j) (hg : ∀ S1 tx1 i1 j1, TXS S0 t0 T1 S1 tx1 i1 j1 → TOP S0 t0 (g v S1) w T2 i1 j1) : TOP S0 t0 (bnA o g) w T2 i j := by
  obtain ⟨S1, tx1, i1, j1, e, h1⟩ := h
  obtain ⟨S2, tx2, i2, j2, e2, h2⟩ := hg S1 tx1 _ _ h1
  refine ⟨S2, tx2, i1 + i2, j1 + j2, by rw [e, bnA_ok, e2]; rfl, ?_⟩
  rw [← Nat.add_assoc, ← Nat.add_assoc]
  exact h2
theorem top_loop_go {f : α → HpT → AT (α ⊕ β)} {r : β} (s : Nat → α) (Tk : Nat → tI) (m : Nat) (hs : ∀ k, k < m → ∀ S tx i j, TXS S0 t0 (Tk k) S tx i j → TOP S0 t0 (f (s k) S) (.inl (s (k + 1))) (Tk (k + 1)) i j) (he : ∀ S tx i j, TXS S0 t0 (Tk m) S tx i j → TOP S0 t0 (f (s m) S) (.inr r) (Tk m) i j) : ∀ n k F, k + n = m → n < F → ∀ S tx i j, TXS S0 t0 (Tk k) S tx i j → TOP S0 t0 (lpA f F (s k) S) r (Tk m) i j := by
  intro n
  induction n with
  | zero =>
    intro k F hk hF S tx i j h
    obtain rfl : k = m := by omega
    obtain ⟨F, rfl⟩ : ∃ F', F = F' + 1 := ⟨F - 1, by omega⟩
    obtain ⟨S1, tx1, i1, j1, e, h1⟩ := he S tx i j h
    exact ⟨S1, tx1, i1, j1, lpA_e F e, h1⟩
  | succ n ih =>
    intro k F hk hF S tx i j h
    obtain ⟨F, rfl⟩ : ∃ F', F = F' + 1 := ⟨F - 1, by omega⟩
    obtain ⟨S1, tx1, i1, j1, e, h1⟩ := hs k (by omega) S tx i j h
    obtain ⟨S2, tx2, i2, j2, e2, h2⟩ := ih (k + 1) F (by omega) (by omega) S1 tx1 _ _ h1
    refine ⟨S2, tx2, i1 + i2, j1 + j2, by rw [lpA_ok F e, e2]; rfl, ?_⟩
    rw [← Nat.add_assoc, ← Nat.add_assoc]
    exact h2
theorem top_loop {f : α → HpT → AT (α ⊕ β)} {r : β} {a : α} (s : Nat → α) (Tk : Nat → tI) (m : Nat) (ha : s 0 = a) (hT : Tk 0 = T) (hm : m < 200000) (hs : ∀ k, k < m → ∀ S tx i j, TXS S0 t0 (Tk k) S tx i j → TOP S0 t0 (f (s k) S) (.inl (s (k + 1))) (Tk (k + 1)) i j) (he : ∀ S tx i j, TXS S0 t0 (Tk m) S tx i j → TOP S0 t0 (f (s m) S) (.inr r) (Tk m) i j) (h : TXS S0 t0 T S tx i j) : TOP S0 t0 (lpA f FUEL a S) r (Tk m) i j := by
  subst ha
  subst hT
  exact top_loop_go s Tk m hs he m 0 FUEL (Nat.zero_add m) hm S tx i j h
theorem tx_c {i' j' : Nat} (h : TXS S0 t0 T S tx i j) (hi : i = i') (hj : j = j') : TXS S0 t0 T S tx i' j' := hi ▸ hj ▸ h
/-- another text with the same beginning -/
theorem tx_T {T' : tI} (h : TXS S0 t0 T S tx i j) (h1 : T'.1 = T.1) (h2 : ∀ k, k < T.1 → T'.2 k = T.2 k) : TXS S0 t0 T' S tx i j := by
  obtain ⟨a, b, ⟨c1, c2, c3, c4, c5, c6⟩, d⟩ := h
  refine ⟨a, b, ⟨by rw [h1]; exact c1, c2, by rw [h1]; exact c3, fun k hk => ?_, by rw [h1]; exact c5, fun k hk => ?_⟩, d⟩
  · rw [h1] at hk
    rw [h2 k hk]
    exact c4 k hk
  · rw [h1] at hk
    rw [h2 k hk]
    exact c6 k hk
theorem s0_a : ((0 : Int32) &&& 31) = 0 := by decide
theorem shr0 {n : Nat} (h : n < 2 ^ 31) : nI n >>> ((0 : Int32) &&& 31) = nI n := by
  rw [pk_shrN h _ 0 (by decide), Nat.pow_zero, Nat.div_one]
theorem shl0 {n : Nat} (h : n < 2 ^ 31) : nI n <<< ((0 : Int32) &&& 31) = nI n := by
  rw [pk_shlN _ 0 (by decide) (by omega), Nat.pow_zero, Nat.mul_one]
theorem sub_le {n c : Nat} (hn : n < 2 ^ 30) (hc : c < 2 ^ 30) : nI n - nI c ≤ 0 ↔ n ≤ c := by
  rw [Int32.le_iff_toInt_le, pk_sub_toInt hn hc, show (0 : Int32).toInt = 0 from rfl]
  omega
/-- room is made -/
theorem t_ens (h : TXS S0 t0 T S tx i j) {n : Nat} (hn : n ≤ T.1 + 2) (hn2 : n ≤ 20000) : ∃ S' tx' i' j', fJ5_ensureCapacityInternal_d00df (some 78) (nI n) S = some (.ok (), S', i', j') ∧ TXS S0 t0 T S' tx' (i + i') (j + j') ∧ n ≤ hZ S' tx' := by
  obtain ⟨⟨a1, a2, a3, a4, a5, a6⟩, ⟨b1, b2, b3, b4, b5, b6⟩, ⟨c1, c2, c3, c4, c5, c6⟩, ⟨d1, d2⟩, ⟨e1, e2, e3, e4⟩⟩ := id h
  have n78 : 78 < hN S := by omega
  unfold fJ5_ensureCapacityInternal_d00df
  rw [isK_S a3, bnP_1, gR_S a3 a4, bnP_1, aL_S b1, bnP_1, gI_S a3, bnP_1, c2, shr0 (by omega)]
  by_cases z : n ≤ hZ S tx
  · rw [if_pos ((sub_le (by omega) (by omega)).mpr z)]
    exact ⟨S, tx, 0, 0, rfl, h, z⟩
  · rw [if_neg (fun q => z ((sub_le (by omega) (by omega)).mp q)), bnP_1]
    generalize hc : hZ S tx = cap at *
    have enc : fJ5_newCapacity_0f7a4 (some 78) (nI n) S = some (.ok (nI (2 * cap + 2)), S, 0, 0) := by
      have el : fJ8_newLength_cabcc (nI cap) (nI n - nI cap) (nI cap + 2) S = some (nI (2 * cap + 2)) := by
        have em : nI cap + mmx (nI n - nI cap) (nI cap + 2) = nI (2 * cap + 2) := by
          rw [nI_sub (by omega), show nI cap + 2 = nI (cap + 2) from nI_add cap 2]
          unfold mmx
          rw [if_pos (nI_lt (by omega) (by omega)), nI_add]
          congr 1
          omega
        unfold fJ8_newLength_cabcc
        rw [em, if_neg (show ¬ nI (2 * cap + 2) ≤ 0 from nI_ge (a := 0) (by omega) (by omega)), if_neg (show ¬ 2147483639 < nI (2 * cap + 2) from nI_nlt (a := 2147483639) (by omega) (by decide))]
      unfold fJ5_newCapacity_0f7a4
      rw [isK_S a3, bnP_1, gR_S a3 a4, bnP_1, aL_S b1, bnP_1, gI_S a3, bnP_1, bnP_1, c2, hc, shl0 (by omega), show (2 : Int32) <<< ((0 : Int32) &&& 31) = 2 from by decide, el, bnP_1, if_neg (show ¬ nI (2 * cap + 2) = 2147483647 from fun q => absurd ((nI_eq (b := 2147483647) (by omega) (by decide)).mp q) (by omega)), bnP_1, shr0 (by omega)]
    rw [enc, bnA_ok, gI_S a3, bnP_1, c2, shl0 (by omega)]
    generalize hf : va_cpy (hI (wN S 22 (2 * cap + 2)) tx) (hI (wN S 22 (2 * cap + 2)) (hN S)) 0 0 cap = f
    have ec : fJ7_copyOf_9075b (some tx) (nI (2 * cap + 2)) S = some (.ok (some (hN S)), wIr (wN S 22 (2 * cap + 2)) (hN S) f, 1, 2 * cap + 2) := by
      have enw : nwR 22 (nI (2 * cap + 2)) S = some (.ok (some (hN S)), wN S 22 (2 * cap + 2), 1, 2 * cap + 2) := by
        unfold nwR
        rw [if_pos ⟨by omega, by rw [nI_toInt (by omega)]; omega, by rw [nI_toInt (by omega)]; omega⟩, nI_clamp (by omega)]
      have k1 : hK (wN S 22 (2 * cap + 2)) tx = 22 := by rw [hK_wN, if_neg (by omega)]; exact b1
      have k2 : hK (wN S 22 (2 * cap + 2)) (hN S) = 22 := by rw [hK_wN, if_pos rfl]
      have z1 : hZ (wN S 22 (2 * cap + 2)) tx = cap := by rw [hZ_wN, if_neg (by omega)]; exact hc
      have z2 : hZ (wN S 22 (2 * cap + 2)) (hN S) = 2 * cap + 2 := by rw [hZ_wN, if_pos rfl]
      have emn : mmn (nI cap) (nI (2 * cap + 2)) = nI cap := by
        unfold mmn
        rw [if_neg (nI_nlt (by omega) (by omega))]
      have ecp : cpI 22 (wN S 22 (2 * cap + 2)) (some tx) 0 (some (hN S)) 0 (nI cap) = some (wIr (wN S 22 (2 * cap + 2)) (hN S) f) := by
        unfold cpI
        dsimp only
        rw [if_pos ⟨k1, k2, by rw [hN_wN]; omega, by rw [hN_wN]; omega, by decide, by decide, by rw [nI_toInt (by omega)]; omega, by rw [nI_clamp (by omega), z1]; show 0 + cap ≤ cap; omega, by rw [nI_clamp (by omega), z2]; show 0 + cap ≤ 2 * cap + 2; omega⟩, nI_clamp (by omega), show (0 : Int32).toNatClampNeg = 0 from rfl, hf]
      unfold fJ7_copyOf_9075b
      rw [aL_S b1, bnP_1, hc, if_neg (show ¬ nI (2 * cap + 2) = nI cap from fun q => absurd ((nI_eq (by omega) (by omega)).mp q) (by omega)), enw, bnA_ok, aL_S k1, bnP_1, z1, emn, ecp, bnP_1, addC_1]
    rw [ec, bnA_ok]
    generalize hS2 : wIr (wN S 22 (2 * cap + 2)) (hN S) f = S2
    have n2 : hN S2 = hN S + 1 := by rw [← hS2]; rfl
    have kK : ∀ a, hK S2 a = if a = hN S then 22 else hK S a := fun a => by rw [← hS2, hK_wIr, hK_wN]
    have kZ : ∀ a, hZ S2 a = if a = hN S then 2 * cap + 2 else hZ S a := fun a => by rw [← hS2, hZ_wIr, hZ_wN]
    have kR : ∀ a k, hR S2 a k = if a = hN S then none else hR S a k := fun a k => by rw [← hS2, hR_wIr, hR_wN]
    have kI : ∀ a k, hI S2 a k = if a = hN S then f k else hI S a k := fun a k => by
      rw [← hS2, hI_wIr _ _ _ _ _ (by rw [hN_wN]; omega)]
      by_cases q : a = hN S
      · rw [if_pos q, if_pos q]
      · rw [if_neg q, if_neg q, hI_wN, if_neg q]
    have kG : ∀ a, a < hN S → S2.2.2.2.1 a = S.2.2.2.1 a ∧ S2.2.2.2.2.1 a = S.2.2.2.2.1 a := fun a ha => by
      have q : ¬ a = S.1 := by
        have : hN S = S.1 := rfl
        omega
      rw [← hS2]
      refine ⟨funext fun j => ?_, funext fun j => ?_⟩
      · show (if a = S.1 then f j else (if a = S.1 then 0 else S.2.2.2.1 a j)) = _
        rw [if_neg q, if_neg q]
      · show (if a = S.1 then 0 else S.2.2.2.2.1 a j) = _
        rw [if_neg q]
    have hf2 : ∀ k, k < cap → f k = hI S tx k := fun k hk => by
      rw [← hf, cpy_in hk, hI_wN, if_neg (by omega)]
    rw [pR_S (by rw [kK, if_neg (by omega)]; exact a3) (by omega), bnP_1, addC_1, addC_1]
    generalize hS3 : wR S2 78 0 (some (hN S)) = S3
    have n3 : hN S3 = hN S + 1 := by rw [← hS3]; exact n2
    have jK : ∀ a, hK S3 a = if a = hN S then 22 else hK S a := fun a => by rw [← hS3, hK_wR, kK]
    have jZ : ∀ a, hZ S3 a = if a = hN S then 2 * cap + 2 else hZ S a := fun a => by rw [← hS3, hZ_wR, kZ]
    have jI : ∀ a k, hI S3 a k = if a = hN S then f k else hI S a k := fun a k => by rw [← hS3, hI_wR, kI]
    have jR : ∀ a k, hR S3 a k = if a = 78 ∧ k = 0 then some (hN S) else if a = hN S then none else hR S a k := fun a k => by rw [← hS3, hR_wR _ _ _ _ _ _ (by omega), kR]
    have jG : ∀ a, a < hN S → S3.2.2.2.1 a = S.2.2.2.1 a ∧ S3.2.2.2.2.1 a = S.2.2.2.2.1 a := fun a ha => by rw [← hS3]; exact kG a ha
    refine ⟨S3, hN S, _, _, rfl, ⟨⟨?_, ?_, ?_, ?_, a5, a6⟩, ⟨?_, by omega, Or.inr d1, ?_, ?_, by omega⟩, ⟨?_, ?_, ?_, fun k hk => ?_, c5, c6⟩, ⟨by omega, fun a ha => ⟨?_, ?_, fun q k => ?_, fun q1 q2 => ?_, ?_⟩⟩, ⟨?_, ?_, ?_, ?_⟩⟩, ?_⟩
    · rw [jK, if_neg (by omega)]
      exact a1
    · rw [jR, if_neg (by omega), if_neg (by omega)]
      exact a2
    · rw [jK, if_neg (by omega)]
      exact a3
    · rw [jR, if_pos ⟨rfl, rfl⟩]
    · rw [jK, if_pos rfl]
    · rw [jZ, if_pos rfl]
      omega
    · rw [jZ, if_pos rfl]
      omega
    · rw [jI, if_neg (by omega)]
      exact c1
    · rw [jI, if_neg (by omega)]
      exact c2
    · rw [jZ, if_pos rfl]
      omega
    · rw [jI, if_pos rfl, hf2 k (by omega)]
      exact c4 k hk
    · rw [jK, if_neg (by omega)]
      exact (d2 a ha).1
    · rw [jZ, if_neg (by omega)]
      exact (d2 a ha).2.1
    · rw [jR, if_neg (by omega), if_neg (by omega)]
      exact (d2 a ha).2.2.1 q k
    · rw [(jG a (by omega)).1]
      exact (d2 a ha).2.2.2.1 q1 q2
    · rw [(jG a (by omega)).2]
      exact (d2 a ha).2.2.2.2
    · rw [jZ, if_pos rfl]
      omega
    · rw [jZ, if_pos rfl, n3]
      omega
    · rw [jZ, if_pos rfl]
      omega
    · rw [jZ, if_pos rfl]
      omega
    · rw [jZ, if_pos rfl]
      omega
/-- a byte goes in, at the end or in room that there is -/
theorem tx_put (h : TXS S0 t0 T S tx i j) {d : Nat} (hd : d < 128) (hc : T.1 + 1 ≤ hZ S tx) (h2 : T.1 + 1 ≤ 20000) : TXS S0 t0 (tA T d) (wI (wI S 78 3 (nI (T.1 + 1))) tx T.1 (nI d)) tx i j := by
  obtain ⟨⟨a1, a2, a3, a4, a5, a6⟩, ⟨b1, b2, b3, b4, b5, b6⟩, ⟨c1, c2, c3, c4, c5, c6⟩, ⟨d1, d2⟩, e⟩ := id h
  have kI : ∀ a k, hI (wI (wI S 78 3 (nI (T.1 + 1))) tx T.1 (nI d)) a k = if a = tx ∧ k = T.1 then nI d else if a = 78 ∧ k = 3 then nI (T.1 + 1) else hI S a k := fun a k => by
    rw [hI_wI _ _ _ _ _ _ (show tx < hN (wI S 78 3 (nI (T.1 + 1))) from b2), hI_wI _ _ _ _ _ _ (show 78 < hN S by omega)]
  refine ⟨⟨a1, a2, a3, a4, a5, a6⟩, ⟨b1, b2, b3, b4, b5, b6⟩, ⟨?_, ?_, hc, fun k hk => ?_, h2, ty_A c6 hd⟩, ⟨d1, fun a ha => ⟨(d2 a ha).1, (d2 a ha).2.1, (d2 a ha).2.2.1, fun q1 q2 => ?_, (d2 a ha).2.2.2.2⟩⟩, e⟩
  · rw [kI, if_neg (by omega), if_pos ⟨rfl, rfl⟩]
    rfl
  · rw [kI, if_neg (by omega), if_neg (by decide)]
    exact c2
  · have hk : k < T.1 + 1 := hk
    show _ = u1 T.2 T.1 (nI d) k
    rw [kI]
    by_cases z : k = T.1
    · rw [if_pos ⟨rfl, z⟩, z, u1_e]
    · rw [if_neg (by omega), if_neg (by omega), u1_k z]
      exact c4 k (by omega)
  · rw [← (d2 a ha).2.2.2.1 q1 q2]
    funext k
    have qa : a ≠ tx := by omega
    show (if a = tx ∧ k = T.1 then nI d else (if a = 78 ∧ k = 3 then nI (T.1 + 1) else S.2.2.2.1 a k)) = _
    rw [if_neg (fun q => qa q.1), if_neg (fun q => q1 q.1)]
theorem t_app (h : TXS S0 t0 T S tx i j) {d : Nat} (hd : d < 128) (h2 : T.1 + 1 ≤ 20000) : TOP S0 t0 (fJ4_append_cf468 (some 78) (nI d) S) (some 78) (tA T d) i j := by
  have a3 := h.1.2.2.1
  have c1 := h.2.2.1.1
  obtain ⟨S1, tx1, i1, j1, e1, h1, hz⟩ := t_ens h (n := T.1 + 1) (by omega) h2
  obtain ⟨⟨p1, p2, p3, p4, p5, p6⟩, ⟨q1, q2, q3, q4, q5, q6⟩, ⟨r1, r2, r3, r4, r5, r6⟩, ⟨s1, s2⟩, e⟩ := id h1
  have hp := tx_put h1 hd hz h2
  refine ⟨_, tx1, i1 + 0, j1 + 0, ?_, hp⟩
  have el : fJ5_isLatin1_aae02 (some 78) S1 = some true := by
    unfold fJ5_isLatin1_aae02
    rw [isK_S p3, bnP_1, gI_S p3, bnP_1, r2, if_pos rfl]
  have esb : sB (wI S1 78 3 (nI (T.1 + 1))) (some tx1) (nI T.1) (nI d) = some (wI (wI S1 78 3 (nI (T.1 + 1))) tx1 T.1 (nI d)) := by
    unfold sB
    dsimp only
    rw [if_pos ⟨⟨q1, by rw [show hZ (wI S1 78 3 (nI (T.1 + 1))) tx1 = hZ S1 tx1 from rfl]; exact inb_nI (by omega) (by omega)⟩, q2⟩, nI_clamp (by omega), by_ok d hd]
  have ea : fJ5_append_3fe6f (some 78) (nI d) S = some (.ok (some 78), wI (wI S1 78 3 (nI (T.1 + 1))) tx1 T.1 (nI d), i1 + 0, j1 + 0) := by
    unfold fJ5_append_3fe6f fJ1_canEncode_fc78d
    rw [isK_S a3, bnP_1, gI_S a3, bnP_1, c1, nI_a1, e1, bnA_ok, el, bnP_1, if_pos rfl, if_neg (show ¬ 255 < nI d from nI_nlt (a := 255) (by omega) (by decide)), bnP_1, if_pos rfl, gR_S p3 p4, bnP_1, gI_S p3, bnP_1, r1, nI_a1, pI_S p3 (by omega), bnP_1, by_ok d hd, esb, bnP_1, addC_1]
  unfold fJ4_append_cf468
  rw [isK_S a3, bnP_1, ea, bnA_ok, addC_1]
theorem t_len (h : TXS S0 t0 T S tx i j) : fJ4_length_8abf5 (some 78) S = some (nI T.1) := by
  unfold fJ4_length_8abf5 fJ5_length_8abf5
  rw [isK_S h.1.2.2.1, bnP_1, bnP_1, gI_S h.1.2.2.1, bnP_1, bnP_1, h.2.2.1.1]
/-- the text begins anew -/
theorem t_start (h : TXS S0 t0 T S tx i j) (f : Nat → Int32) : TOP S0 t0 (fX6_startText (some 77) S) () (0, f) i j := by
  obtain ⟨⟨a1, a2, a3, a4, a5, a6⟩, ⟨b1, b2, b3, b4, b5, b6⟩, ⟨c1, c2, c3, c4, c5, c6⟩, ⟨d1, d2⟩, e⟩ := id h
  have en : fJ5_ensureCapacityInternal_d00df (some 78) 0 S = some (.ok (), S, 0, 0) := by
    unfold fJ5_ensureCapacityInternal_d00df
    rw [isK_S a3, bnP_1, gR_S a3 a4, bnP_1, aL_S b1, bnP_1, gI_S a3, bnP_1, c2, shr0 (by omega), if_pos (show 0 - nI (hZ S tx) ≤ 0 from (sub_le (n := 0) (by omega) (by omega)).mpr (Nat.zero_le _))]
  obtain ⟨S1, e1, hS1⟩ : ∃ S1, (if 0 ≤ nI T.1 then bnP (some (nI T.1)) (fun x15 => (if x15 ≤ 0 then some ((), S) else bnP (pZ S (some 78) 11 2 1) (fun s19 => some ((), s19)))) else bnP (fJ5_isLatin1_aae02 (some 78) S) (fun x20 => (if x20 = true then bnP (gR S (some 78) 11 0) (fun x26 => bnP (some (nI T.1)) (fun x28 => none)) else bnP (gR S (some 78) 11 0) (fun x22 => bnP (some (nI T.1)) (fun x24 => none))))) = some ((), S1) ∧ (S1 = S ∨ S1 = wI S 78 2 1) := by
    rw [if_pos (nI_pos' (by omega)), bnP_1]
    by_cases z : nI T.1 ≤ 0
    · rw [if_pos z]
      exact ⟨S, rfl, Or.inl rfl⟩
    · rw [if_neg z]
      unfold pZ
      rw [if_pos (Or.inr rfl), pI_S a3 (by omega), bnP_1]
      exact ⟨_, rfl, Or.inr rfl⟩
  have k78 : hK S1 78 = 11 := by
    rcases hS1 with rfl | rfl
    · exact a3
    · exact a3
  have n78 : 78 < hN S1 := by
    rcases hS1 with rfl | rfl
    · omega
    · show 78 < hN S
      omega
  refine ⟨wI S1 78 3 0, tx, 0, 0, ?_, ?_⟩
  · unfold fX6_startText fJ4_setLength_d00df fJ5_setLength_d00df
    rw [isK_S a1, bnP_1, gR_S a1 a2, bnP_1, isK_S a3, bnP_1, bnP_1, if_pos (by decide), en, bnA_ok, gI_S a3, bnP_1, c1, e1, bnS_1, pI_S k78 n78, bnP_1, addC_1, bnA_ok, addC_1, bnA_ok, addC_1]
  · have hkeep : hK (wI S1 78 3 0) = hK S ∧ hZ (wI S1 78 3 0) = hZ S ∧ hR (wI S1 78 3 0) = hR S ∧ hN (wI S1 78 3 0) = hN S ∧ (wI S1 78 3 0).2.2.2.2.1 = S.2.2.2.2.1 ∧ (∀ a, a ≠ 78 → (wI S1 78 3 0).2.2.2.1 a = S.2.2.2.1 a) ∧ hI (wI S1 78 3 0) 78 3 = 0 ∧ hI (wI S1 78 3 0) 78 1 = hI S 78 1 := by
      rcases hS1 with rfl | rfl
      · refine ⟨rfl, rfl, rfl, rfl, rfl, fun a ha => ?_, ?_, ?_⟩
        · funext k
          exact if_neg (fun q => ha q.1)
        · rw [hI_wI _ _ _ _ _ _ n78, if_pos ⟨rfl, rfl⟩]
        · rw [hI_wI _ _ _ _ _ _ n78, if_neg (by decide)]
      · refine ⟨rfl, rfl, rfl, rfl, rfl, fun a ha => ?_, ?_, ?_⟩
        · funext k
          show (if a = 78 ∧ k = 3 then 0 else (if a = 78 ∧ k = 2 then 1 else S.2.2.2.1 a k)) = _
          rw [if_neg (fun q => ha q.1), if_neg (fun q => ha q.1)]
        · rw [hI_wI _ _ _ _ _ _ n78, if_pos ⟨rfl, rfl⟩]
        · rw [hI_wI _ _ _ _ _ _ n78, if_neg (by decide), hI_wI _ _ _ _ _ _ (by omega), if_neg (by decide)]
    obtain ⟨k1, k2, k3, k4, k5, k6, k7, k8⟩ := hkeep
    unfold TXS
    rw [k1, k2, k3, k4, k5, k7, k8]
    exact ⟨⟨a1, a2, a3, a4, a5, a6⟩, ⟨b1, b2, b3, b4, b5, b6⟩, ⟨rfl, c2, Nat.zero_le _, fun k hk => absurd hk (Nat.not_lt_zero k), Nat.zero_le _, fun k hk => absurd hk (Nat.not_lt_zero k)⟩, ⟨d1, fun a ha => ⟨(d2 a ha).1, (d2 a ha).2.1, (d2 a ha).2.2.1, fun q1 q2 => by rw [k6 a q1]; exact (d2 a ha).2.2.2.1 q1 q2, (d2 a ha).2.2.2.2⟩⟩, e⟩
end TOPS
