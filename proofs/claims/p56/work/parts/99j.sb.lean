/-! p56, pure: texts by hand: builders, strings, rows of objects -/
/-- a run that goes well: it makes i cells, of at most 700 slots each -/
def HOA {α : Type} (o : AT α) (σ : HpT) (Q : α → HpT → Prop) : Prop := ∃ v σ' i j, o = some (.ok v, σ', i, j) ∧ hN σ + i = hN σ' ∧ j ≤ 700 * i ∧ Q v σ'
section HOAS
variable {α β : Type} {σ σ' : HpT} {Q : α → HpT → Prop} {R : β → HpT → Prop}
theorem hoa_ret {v : α} (h : Q v σ) : HOA (some (.ok v, σ, 0, 0)) σ Q := ⟨v, σ, 0, 0, rfl, rfl, by omega, h⟩
theorem hoa_A {o : AT α} {f : α → HpT → AT β} (h : HOA o σ Q) (hf : ∀ v σ', hN σ ≤ hN σ' → Q v σ' → HOA (f v σ') σ' R) : HOA (bnA o f) σ R := by
  obtain ⟨v, σ1, i, j, e, h1, h2, q⟩ := h
  obtain ⟨u, σ2, i2, j2, e2, h3, h4, r⟩ := hf v σ1 (by omega) q
  refine ⟨u, σ2, i + i2, j + j2, ?_, by omega, by omega, r⟩
  rw [e, bnA_ok, e2]
  rfl
theorem hoa_O {o : AT α} {f : α → HpT → AT β} (h : HOA o σ Q) (hf : ∀ v σ', hN σ ≤ hN σ' → Q v σ' → HOA (f v σ') σ' R) : HOA (bnO o f) σ R := by
  obtain ⟨v, σ1, i, j, e, h1, h2, q⟩ := h
  obtain ⟨u, σ2, i2, j2, e2, h3, h4, r⟩ := hf v σ1 (by omega) q
  refine ⟨u, σ2, i + i2, j + j2, ?_, by omega, by omega, r⟩
  rw [e, bnO_ok, e2]
  rfl
theorem hoa_w {o : AT α} {Q' : α → HpT → Prop} (h : HOA o σ Q) (hq : ∀ v σ', hN σ ≤ hN σ' → Q v σ' → Q' v σ') : HOA o σ Q' := by
  obtain ⟨v, σ1, i, j, e, h1, h2, q⟩ := h
  exact ⟨v, σ1, i, j, e, h1, h2, hq v σ1 (by omega) q⟩
/-- the same counts from a heap with as many cells -/
theorem hoa_s {o : AT α} (h : HOA o σ' Q) (hn : hN σ' = hN σ) : HOA o σ Q := by
  obtain ⟨v, σ1, i, j, e, h1, h2, q⟩ := h
  exact ⟨v, σ1, i, j, e, by omega, h2, q⟩
end HOAS
/-- cells below the top but those of S stay -/
def FR (σ σ' : HpT) (S : Nat → Prop) : Prop := hN σ ≤ hN σ' ∧ ∀ a, a < hN σ → hK σ' a = hK σ a ∧ hZ σ' a = hZ σ a ∧ (¬ S a → ∀ k, hI σ' a k = hI σ a k ∧ hR σ' a k = hR σ a k)
theorem sub_le {n c : Nat} (hn : n < 2 ^ 30) (hc : c < 2 ^ 30) : nI n - nI c ≤ 0 ↔ n ≤ c := by
  rw [Int32.le_iff_toInt_le, pk_sub_toInt hn hc, show (0 : Int32).toInt = 0 from rfl]
  omega
theorem shl0 {n : Nat} (h : n < 2 ^ 31) : nI n <<< ((0 : Int32) &&& 31) = nI n := by
  rw [pk_shlN _ 0 (by decide) (by omega), Nat.pow_zero, Nat.mul_one]
section P56J
variable {σ σ' σ2 : HpT} {S S' : Nat → Prop} {a b x y t tv l e n k c d : Nat} {L L2 : List Nat} {f g : Nat → Nat}
theorem fr_rf (σ : HpT) (S : Nat → Prop) : FR σ σ S := ⟨Nat.le_refl _, fun _ _ => ⟨rfl, rfl, fun _ _ => ⟨rfl, rfl⟩⟩⟩
theorem fr_tr (h : FR σ σ' S) (h2 : FR σ' σ2 S') (hs : ∀ a, a < hN σ → S' a → S a) : FR σ σ2 S := by
  refine ⟨Nat.le_trans h.1 h2.1, fun a ha => ?_⟩
  obtain ⟨p1, p2, p3⟩ := h.2 a ha
  obtain ⟨q1, q2, q3⟩ := h2.2 a (Nat.lt_of_lt_of_le ha h.1)
  refine ⟨q1.trans p1, q2.trans p2, fun hn k => ?_⟩
  have u := p3 hn k
  have v := q3 (fun q => hn (hs a ha q)) k
  exact ⟨v.1.trans u.1, v.2.trans u.2⟩
theorem fr_m (h : FR σ σ' S) (hs : ∀ a, a < hN σ → S a → S' a) : FR σ σ' S' := ⟨h.1, fun a ha => ⟨(h.2 a ha).1, (h.2 a ha).2.1, fun hn => (h.2 a ha).2.2 (fun q => hn (hs a ha q))⟩⟩
theorem fr_wI (ha : a < hN σ) (k : Nat) (v : Int32) : FR σ (wI σ a k v) (fun c => c = a) := ⟨Nat.le_refl _, fun c hc => ⟨rfl, rfl, fun hn j => ⟨by rw [hI_wI _ _ _ _ _ _ ha, if_neg (fun q => hn q.1)], rfl⟩⟩⟩
theorem fr_wR (ha : a < hN σ) (k : Nat) (v : Option Nat) : FR σ (wR σ a k v) (fun c => c = a) := ⟨Nat.le_refl _, fun c hc => ⟨rfl, rfl, fun hn j => ⟨rfl, by rw [hR_wR _ _ _ _ _ _ ha, if_neg (fun q => hn q.1)]⟩⟩⟩
theorem fr_wIr (ha : a < hN σ) (v : Nat → Int32) : FR σ (wIr σ a v) (fun c => c = a) := ⟨Nat.le_refl _, fun c hc => ⟨rfl, rfl, fun hn j => ⟨by rw [hI_wIr _ _ _ _ _ ha, if_neg hn], rfl⟩⟩⟩
theorem fr_wN (σ : HpT) (κ z : Nat) (S : Nat → Prop) : FR σ (wN σ κ z) S := ⟨by rw [hN_wN]; omega, fun c hc => ⟨by rw [hK_wN, if_neg (by omega)], by rw [hZ_wN, if_neg (by omega)], fun _ j => ⟨by rw [hI_wN, if_neg (by omega)], by rw [hR_wN, if_neg (by omega)]⟩⟩⟩
theorem nwA_1 {κ : Nat} (h : hN σ < BIG) : nwA κ σ = some (.ok (some (hN σ)), wN σ κ 0, 1, nF κ) := if_pos h
theorem nwR_1 {κ n : Nat} (h : hN σ < BIG) (hn : n ≤ 1000000) : nwR κ (nI n) σ = some (.ok (some (hN σ)), wN σ κ n, 1, n) := by
  unfold nwR
  rw [if_pos ⟨h, by rw [nI_toInt (by omega)]; omega, by rw [nI_toInt (by omega)]; omega⟩, nI_clamp (by omega)]
theorem hoa_nA {κ : Nat} (h : hN σ < BIG) (hκ : nF κ ≤ 700) : HOA (nwA κ σ) σ (fun v σ' => v = some (hN σ) ∧ σ' = wN σ κ 0) := ⟨_, _, _, _, nwA_1 h, rfl, by omega, rfl, rfl⟩
theorem hoa_nR {κ n : Nat} (h : hN σ < BIG) (hn : n ≤ 700) : HOA (nwR κ (nI n) σ) σ (fun v σ' => v = some (hN σ) ∧ σ' = wN σ κ n) := ⟨_, _, _, _, nwR_1 h (by omega), rfl, by omega, rfl, rfl⟩
/-- a builder with its bytes -/
def SBI (σ : HpT) (t tv : Nat) (L : List Nat) : Prop := (hK σ t = 11 ∧ t < hN σ ∧ hR σ t 0 = some tv ∧ hI σ t 3 = nI L.length ∧ hI σ t 1 = 0) ∧ (hK σ tv = 22 ∧ tv < hN σ ∧ L.length ≤ hZ σ tv ∧ hZ σ tv ≤ 700) ∧ (∀ k, k < L.length → hI σ tv k = nI (L.getD k 0)) ∧ (∀ x ∈ L, x < 128) ∧ L.length ≤ 300
theorem sb_fr (h : SBI σ t tv L) (f : FR σ σ' S) (h1 : ¬ S t) (h2 : ¬ S tv) : SBI σ' t tv L := by
  obtain ⟨⟨a1, a2, a3, a4, a5⟩, ⟨b1, b2, b3, b4⟩, c, d⟩ := h
  obtain ⟨p1, p2, p3⟩ := f.2 t a2
  obtain ⟨q1, q2, q3⟩ := f.2 tv b2
  have p3 := p3 h1
  have q3 := q3 h2
  have hn := f.1
  exact ⟨⟨p1.trans a1, by omega, by rw [(p3 0).2]; exact a3, by rw [(p3 3).1]; exact a4, by rw [(p3 1).1]; exact a5⟩, ⟨q1.trans b1, by omega, by rw [q2]; exact b3, by rw [q2]; exact b4⟩, fun k hk => by rw [(q3 k).1]; exact c k hk, d⟩
/-- room is made -/
theorem sb_ens (h : SBI σ t tv L) (hn : n ≤ 300) (hB : hN σ < BIG) : HOA (fJ5_ensureCapacityInternal_d00df (some t) (nI n) σ) σ (fun _ σ' => ∃ tv', SBI σ' t tv' L ∧ n ≤ hZ σ' tv' ∧ (tv' = tv ∨ hN σ ≤ tv') ∧ hN σ' ≤ hN σ + 1 ∧ FR σ σ' (fun a => a = t)) := by
  obtain ⟨⟨a1, a2, a3, a4, a5⟩, ⟨b1, b2, b3, b4⟩, c1, c2, c3⟩ := id h
  unfold fJ5_ensureCapacityInternal_d00df
  rw [isK_S a1, bnP_1, gR_S a1 a3, bnP_1, aL_S b1, bnP_1, gI_S a1, bnP_1, a5, shr0 (by omega)]
  by_cases z : n ≤ hZ σ tv
  · rw [if_pos ((sub_le (by omega) (by omega)).mpr z)]
    exact hoa_ret ⟨tv, h, z, Or.inl rfl, by omega, fr_rf _ _⟩
  · rw [if_neg (fun q => z ((sub_le (by omega) (by omega)).mp q)), bnP_1]
    obtain ⟨cap, hc⟩ : ∃ cap, cap = hZ σ tv := ⟨_, rfl⟩
    rw [← hc] at z b3 b4
    obtain ⟨cp, hcp, hcn⟩ : ∃ cp, cp = (if n - cap < cap + 2 then 2 * cap + 2 else n) ∧ n ≤ cp ∧ cp ≤ 602 := by
      refine ⟨_, rfl, ?_⟩
      split <;> omega
    have enc : fJ5_newCapacity_0f7a4 (some t) (nI n) σ = some (.ok (nI cp), σ, 0, 0) := by
      have el : fJ8_newLength_cabcc (nI cap) (nI n - nI cap) (nI cap + 2) σ = some (nI cp) := by
        have em : nI cap + mmx (nI n - nI cap) (nI cap + 2) = nI cp := by
          rw [nI_sub (by omega), show nI cap + 2 = nI (cap + 2) from nI_add cap 2]
          unfold mmx
          by_cases y : n - cap < cap + 2
          · rw [if_pos (nI_lt y (by omega)), nI_add, hcp, if_pos y]
            congr 1
            omega
          · rw [if_neg (nI_nlt (by omega) (by omega)), nI_add, hcp, if_neg y]
            congr 1
            omega
        unfold fJ8_newLength_cabcc
        rw [em, if_neg (show ¬ nI cp ≤ 0 from nI_ge (a := 0) (by omega) (by omega)), if_neg (show ¬ 2147483639 < nI cp from nI_nlt (a := 2147483639) (by omega) (by decide))]
      unfold fJ5_newCapacity_0f7a4
      rw [isK_S a1, bnP_1, gR_S a1 a3, bnP_1, aL_S b1, bnP_1, gI_S a1, bnP_1, bnP_1, a5, ← hc, shl0 (by omega), show (2 : Int32) <<< ((0 : Int32) &&& 31) = 2 from by decide, el, bnP_1, if_neg (show ¬ nI cp = 2147483647 from fun q => absurd ((nI_eq (b := 2147483647) (by omega) (by decide)).mp q) (by omega)), bnP_1, shr0 (by omega)]
    rw [enc, bnA_ok, gI_S a1, bnP_1, a5, shl0 (by omega)]
    generalize hf : va_cpy (hI (wN σ 22 cp) tv) (hI (wN σ 22 cp) (hN σ)) 0 0 cap = f
    have ec : fJ7_copyOf_9075b (some tv) (nI cp) σ = some (.ok (some (hN σ)), wIr (wN σ 22 cp) (hN σ) f, 1, cp) := by
      have k1 : hK (wN σ 22 cp) tv = 22 := by rw [hK_wN, if_neg (by omega)]; exact b1
      have k2 : hK (wN σ 22 cp) (hN σ) = 22 := by rw [hK_wN, if_pos rfl]
      have z1 : hZ (wN σ 22 cp) tv = cap := by rw [hZ_wN, if_neg (by omega)]; exact hc.symm
      have z2 : hZ (wN σ 22 cp) (hN σ) = cp := by rw [hZ_wN, if_pos rfl]
      have emn : mmn (nI cap) (nI cp) = nI cap := by
        unfold mmn
        rw [if_neg (nI_nlt (by omega) (by omega))]
      have ecp : cpI 22 (wN σ 22 cp) (some tv) 0 (some (hN σ)) 0 (nI cap) = some (wIr (wN σ 22 cp) (hN σ) f) := by
        unfold cpI
        dsimp only
        rw [if_pos ⟨k1, k2, by rw [hN_wN]; omega, by rw [hN_wN]; omega, by decide, by decide, by rw [nI_toInt (by omega)]; omega, by rw [nI_clamp (by omega), z1]; show 0 + cap ≤ cap; omega, by rw [nI_clamp (by omega), z2]; show 0 + cap ≤ cp; omega⟩, nI_clamp (by omega), show (0 : Int32).toNatClampNeg = 0 from rfl, hf]
      unfold fJ7_copyOf_9075b
      rw [aL_S b1, bnP_1, ← hc, if_neg (show ¬ nI cp = nI cap from fun q => absurd ((nI_eq (by omega) (by omega)).mp q) (by omega)), nwR_1 hB (by omega), bnA_ok, aL_S k1, bnP_1, z1, emn, ecp, bnP_1, addC_1]
      rfl
    rw [ec, bnA_ok]
    generalize hS2 : wIr (wN σ 22 cp) (hN σ) f = S2
    have f1 : FR σ S2 (fun _ => False) := by
      rw [← hS2]
      exact fr_tr (fr_wN σ 22 cp _) (fr_wIr (a := hN σ) (by rw [hN_wN]; omega) f) (fun a ha q => by omega)
    have n2 : hN S2 = hN σ + 1 := by rw [← hS2]; rfl
    have kt : hK S2 t = 11 := (f1.2 t a2).1.trans a1
    have e3 : pR S2 (some t) 11 0 (some (hN σ)) = some (wR S2 t 0 (some (hN σ))) := pR_S kt (by omega)
    rw [e3, bnP_1]
    have f2 : FR σ (wR S2 t 0 (some (hN σ))) (fun a => a = t) := fr_tr (fr_m f1 (fun _ _ q => q.elim)) (fr_wR (by omega) 0 _) (fun a _ q => q)
    refine ⟨(), _, _, _, rfl, by show hN σ + (0 + (1 + 0)) = hN S2; omega, by show 0 + (cp + 0) ≤ 700 * (0 + (1 + 0)); omega, hN σ, ?_, ?_, Or.inr (Nat.le_refl _), by rw [hN_wR, n2]; omega, f2⟩
    · have kk : hK (wR S2 t 0 (some (hN σ))) (hN σ) = 22 := by rw [hK_wR, ← hS2, hK_wIr, hK_wN, if_pos rfl]
      have zz : hZ (wR S2 t 0 (some (hN σ))) (hN σ) = cp := by rw [hZ_wR, ← hS2, hZ_wIr, hZ_wN, if_pos rfl]
      refine ⟨⟨by rw [hK_wR]; exact kt, by rw [hN_wR]; omega, by rw [hR_wR _ _ _ _ _ _ (by omega), if_pos ⟨rfl, rfl⟩], ?_, ?_⟩, ⟨kk, by rw [hN_wR]; omega, by rw [zz]; omega, by rw [zz]; omega⟩, fun k hk => ?_, c2, c3⟩
      · rw [hI_wR, ((f1.2 t a2).2.2 (fun q => q) 3).1]
        exact a4
      · rw [hI_wR, ((f1.2 t a2).2.2 (fun q => q) 1).1]
        exact a5
      · rw [hI_wR, ← hS2, hI_wIr _ _ _ _ _ (by rw [hN_wN]; omega), if_pos rfl, ← hf, pk_cpy_in (Nat.zero_le _) (by omega), show 0 + (k - 0) = k by omega, hI_wN, if_neg (by omega)]
        exact c1 k hk
    · rw [hZ_wR, ← hS2, hZ_wIr, hZ_wN, if_pos rfl]
      omega
end P56J
