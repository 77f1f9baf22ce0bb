/-! THE PURE LEVEL, 76: the pen of the class -/
def tNm (T : tI) (n : Nat) : tI := if n ≤ 9 then tA T (48 + n) else tA (tA T (48 + n / 10)) (48 + n % 10)
section PEN
variable {S0 S : HpT} {t0 tx i j d n : Nat} {T T1 T2 : tI} {lo hi : Int32} {w : Int64}
theorem t_blank (h : TXS S0 t0 T S tx i j) (h2 : T.1 + 1 ≤ 20000) : TOP S0 t0 (fX6_putBlank (some 77) S) () (tB T) i j := by
  unfold fX6_putBlank tB
  rw [isK_S h.1.1, bnP_1, gR_S h.1.1 h.1.2.1, bnP_1, t_len h, bnP_1]
  by_cases z : T.1 = 0
  · rw [if_pos z, z, if_pos (show nI 0 ≤ 0 by decide)]
    exact top_ret h
  · rw [if_neg z, if_neg (show ¬ nI T.1 ≤ 0 from nI_ge (a := 0) (by omega) (by omega)), bnP_1]
    exact top_bind (t_app h (d := 32) (by decide) h2) fun S1 tx1 i1 j1 h1 => top_ret h1
theorem t_letters (h : TXS S0 t0 T S tx i j) (hw : wdR lo hi w) (h2 : T.1 + 8 ≤ 20000) : TOP S0 t0 (fX6_putLetters (some 77) w S) () (tW T lo hi) i j := by
  have h8 := lenQ_le lo hi
  unfold fX6_putLetters
  rw [isK_S h.1.1, bnP_1, wd_clen hw, bnP_1]
  refine top_bind (T1 := tW T lo hi) (v := ()) (top_loop (fun k => nI k) (tL T lo hi) (lenQ lo hi) rfl rfl (by omega) (fun k hk S1 tx1 i1 j1 h1 => ?_) (fun S1 tx1 i1 j1 h1 => ?_) h) fun S1 tx1 i1 j1 h1 => top_ret h1
  · have hlt := dg_lt lo hi k
    have hl := tL_1 T lo hi k
    unfold fX6_putLetters_l1
    rw [if_neg (nI_ge hk (by omega)), gR_S h1.1.1 h1.1.2.1, bnP_1, wd_clet hw, bnP_1, lt_in hk, ch_ok _ (by omega), nI_a1]
    exact top_bind (t_app h1 (by omega) (by omega)) fun S2 tx2 i2 j2 h2 => top_ret h2
  · unfold fX6_putLetters_l1
    rw [if_pos (nI_le (Nat.le_refl _) (by omega))]
    exact top_ret h1
theorem t_signs (h : TXS S0 t0 T S tx i j) (hd : d < 128) (hn : n < 200000) (h2 : T.1 + 2 * n ≤ 20000) : TOP S0 t0 (fX6_putSigns (some 77) (nI d) (nI n) S) () (tS T d n) i j := by
  unfold fX6_putSigns
  rw [isK_S h.1.1, bnP_1]
  refine top_bind (T1 := tS T d n) (v := ()) (top_loop (fun k => nI k) (tS T d) n rfl rfl hn (fun k hk S1 tx1 i1 j1 h1 => ?_) (fun S1 tx1 i1 j1 h1 => ?_) h) fun S1 tx1 i1 j1 h1 => top_ret h1
  · have ht := tS_1 T d k
    have hB := tB_1 (tS T d k)
    unfold fX6_putSigns_l1
    rw [if_neg (nI_ge hk (by omega)), nI_a1]
    refine top_bind (t_blank h1 (by omega)) fun S2 tx2 i2 j2 h2 => ?_
    rw [gR_S h2.1.1 h2.1.2.1, bnP_1]
    exact top_bind (t_app h2 hd (by omega)) fun S3 tx3 i3 j3 h3 => top_ret h3
  · unfold fX6_putSigns_l1
    rw [if_pos (nI_le (Nat.le_refl _) (by omega))]
    exact top_ret h1
theorem t_pword (h : TXS S0 t0 T S tx i j) (hw : wdR lo hi w) (h2 : T.1 + 9 ≤ 20000) : TOP S0 t0 (fX6_putWord (some 77) w S) () (tW (tB T) lo hi) i j := by
  have hB := tB_1 T
  unfold fX6_putWord
  rw [isK_S h.1.1, bnP_1]
  exact top_bind (t_blank h (by omega)) fun S1 tx1 i1 j1 h1 => top_bind (t_letters h1 hw (by omega)) fun S2 tx2 i2 j2 h2 => top_ret h2
theorem t_pmark (h : TXS S0 t0 T S tx i j) (hd : d < 128) (hw : wdR lo hi w) (h2 : T.1 + 10 ≤ 20000) : TOP S0 t0 (fX6_putMarkedWord (some 77) (nI d) w S) () (tW (tA (tB T) d) lo hi) i j := by
  have hB := tB_1 T
  have e : (tA (tB T) d).1 = (tB T).1 + 1 := rfl
  unfold fX6_putMarkedWord
  rw [isK_S h.1.1, bnP_1]
  refine top_bind (t_blank h (by omega)) fun S1 tx1 i1 j1 h1 => ?_
  rw [gR_S h1.1.1 h1.1.2.1, bnP_1]
  exact top_bind (t_app h1 hd (by omega)) fun S2 tx2 i2 j2 h2 => top_bind (t_letters h2 hw (by omega)) fun S3 tx3 i3 j3 h3 => top_ret h3
/-! a number goes in -/
theorem wI_comm {a b k l : Nat} {x y : Int32} (h : a ≠ b) : wI (wI S a k x) b l y = wI (wI S b l y) a k x := by
  unfold wI
  dsimp only
  congr 4
  funext c m
  by_cases q1 : c = a ∧ m = k
  · rw [if_neg (fun q => h (q1.1 ▸ q.1)), if_pos q1, if_pos q1]
  · rw [if_neg q1, if_neg q1]
theorem wI_over {a b k l : Nat} {x y z u : Int32} (h : a ≠ b) (hk : k ≠ l) {c : Nat} : wI (wI (wI (wI S a c z) b k x) a c u) b l y = wI (wI (wI S b l y) b k x) a c u := by
  unfold wI
  dsimp only
  congr 4
  funext p m
  by_cases q1 : p = a ∧ m = c
  · rw [if_neg (fun q => h (q1.1 ▸ q.1)), if_pos q1, if_pos q1]
  · rw [if_neg q1, if_neg q1, if_neg q1]
    by_cases q2 : p = b ∧ m = l
    · rw [if_pos q2, if_neg (fun q => hk (by rw [← q.2, ← q2.2])), if_pos q2]
    · rw [if_neg q2, if_neg q2]
theorem sz_1 {m : Nat} (hm : m ≤ 9) : fJ6_stringSize_0f7a4 (nI m) S = some (nI 1) := by
  have hc : ∀ m, m < 10 → ¬ (-(nI m) ≤ (-10 : Int32)) := by decide
  unfold fJ6_stringSize_0f7a4
  rw [if_neg (nI_pos (by omega)), bnP_1]
  dsimp only
  have e := lpP_f (f := fJ6_stringSize_0f7a4_l1 (-(nI m)) 0 S) (a := ((-10 : Int32), (1 : Int32))) (r := .inr (1 + 0)) 0 (fun _ => (-10, 1)) rfl (by decide) (fun k hk => absurd hk (Nat.not_lt_zero k)) (by
    unfold fJ6_stringSize_0f7a4_l1
    dsimp only
    rw [if_neg (by decide), if_neg (hc m (by omega))])
  rw [e, bnP_1]
  rfl
theorem sz_2 {m : Nat} (h1 : 10 ≤ m) (hm : m ≤ 99) : fJ6_stringSize_0f7a4 (nI m) S = some (nI 2) := by
  have hc : ∀ m, m < 100 → (10 ≤ m → -(nI m) ≤ (-10 : Int32)) ∧ ¬ (-(nI m) ≤ (10 * (-10) : Int32)) := by decide
  unfold fJ6_stringSize_0f7a4
  rw [if_neg (nI_pos (by omega)), bnP_1]
  dsimp only
  have e := lpP_f (f := fJ6_stringSize_0f7a4_l1 (-(nI m)) 0 S) (a := ((-10 : Int32), (1 : Int32))) (r := .inr ((1 + 1) + 0)) 1 (fun k => if k = 0 then (-10, 1) else (10 * (-10), 1 + 1)) rfl (by decide) (fun k hk => by
    obtain rfl : k = 0 := by omega
    unfold fJ6_stringSize_0f7a4_l1
    rw [if_pos rfl]
    dsimp only
    rw [if_neg (by decide), if_pos ((hc m (by omega)).1 h1)]
    rfl) (by
    unfold fJ6_stringSize_0f7a4_l1
    rw [if_neg (show ¬ (1 : Nat) = 0 by decide)]
    dsimp only
    rw [if_neg (by decide), if_neg (hc m (by omega)).2])
  rw [e, bnP_1]
  rfl
theorem dgt_1 (hS : hN S < BIG) {m : Nat} (hm : m < 100) : aI S (some (BIG + 200)) 22 (nI m) = some (nI (48 + m % 10)) := by
  have q : ¬ BIG + 200 < S.1 := by
    have : hN S = S.1 := rfl
    omega
  have hk : hK S (BIG + 200) = 22 := by
    unfold hK
    rw [if_neg q]
    decide
  have hz : hZ S (BIG + 200) = 100 := by
    unfold hZ
    rw [if_neg q]
    decide
  unfold aI
  dsimp only
  rw [if_pos ⟨hk, by rw [hz]; exact inb_nI hm (by decide)⟩, nI_clamp (by omega)]
  unfold hI cI
  rw [if_neg q, if_neg (by decide), if_neg (by decide), if_pos rfl]
  rfl
theorem dgt_2 (hS : hN S < BIG) {m : Nat} (hm : m < 100) : aI S (some (BIG + 201)) 22 (nI m) = some (nI (48 + m / 10 % 10)) := by
  have q : ¬ BIG + 201 < S.1 := by
    have : hN S = S.1 := rfl
    omega
  have hk : hK S (BIG + 201) = 22 := by
    unfold hK
    rw [if_neg q]
    decide
  have hz : hZ S (BIG + 201) = 100 := by
    unfold hZ
    rw [if_neg q]
    decide
  unfold aI
  dsimp only
  rw [if_pos ⟨hk, by rw [hz]; exact inb_nI hm (by decide)⟩, nI_clamp (by omega)]
  unfold hI cI
  rw [if_neg q, if_neg (by decide), if_neg (by decide), if_neg (by decide)]
  rfl
theorem sB_S {a k z : Nat} {x : Int32} (hk : hK S a = 22) (ha : a < hN S) (hz : hZ S a = z) (hn : k < z) (hz2 : z < 2 ^ 31) (hd : d < 128) (hx : x = nI d) : sB S (some a) (nI k) x = some (wI S a k (nI d)) := by
  unfold sB
  dsimp only
  rw [if_pos ⟨⟨hk, by rw [hz]; exact inb_nI hn hz2⟩, ha⟩, nI_clamp (by omega), hx, by_ok d hd]
theorem t_num (h : TXS S0 t0 T S tx i j) {m : Nat} (hm : m ≤ 99) (h2 : T.1 + 2 ≤ 20000) : TOP S0 t0 (fJ4_append_bf812 (some 78) (nI m) S) (some 78) (tNm T m) i j := by
  have a3 := h.1.2.2.1
  have c1 := h.2.2.1.1
  have ng : ∀ m, m < 100 → (¬ (nI m < 0)) ∧ (-100 : Int32) < -(nI m) ∧ -(-(nI m)) = nI m ∧ (m ≤ 9 → (-9 : Int32) ≤ -(nI m)) ∧ (10 ≤ m → ¬ (-9 : Int32) ≤ -(nI m)) := by decide
  obtain ⟨n1, n2, n3, n4, n5⟩ := ng m (by omega)
  have gl : ∀ (s : HpT) (c2 : Option Nat) (x : Int32), lpS (fJ6_getChars_ba4f3_l1 c2 0) FUEL (-(nI m), x) s = some ((-(nI m), x), s) := fun s c2 x => lpS_f 0 (fun _ => (-(nI m), x)) (fun _ => s) rfl rfl (by decide) (fun k hk => absurd hk (Nat.not_lt_zero k)) (by
    unfold fJ6_getChars_ba4f3_l1
    dsimp only
    rw [if_pos n2])
  unfold fJ4_append_bf812
  rw [isK_S a3, bnP_1]
  by_cases z : m ≤ 9
  · obtain ⟨S1, tx1, i1, j1, e1, h1, hz⟩ := t_ens h (n := T.1 + 1) (by omega) (by omega)
    obtain ⟨⟨p1, p2, p3, p4, p5, p6⟩, ⟨q1, q2, q3, q4, q5, q6⟩, ⟨r1, r2, r3, r4, r5, r6⟩, ⟨s1, s2⟩, e⟩ := id h1
    have hB : hN S1 < BIG := by omega
    have hp := tx_put h1 (d := 48 + m) (by omega) hz (by omega)
    have el : fJ5_isLatin1_aae02 (some 78) S1 = some true := by
      unfold fJ5_isLatin1_aae02
      rw [isK_S p3, bnP_1, gI_S p3, bnP_1, r2, if_pos rfl]
    have eg : fJ6_getChars_ba4f3 (nI m) (nI (T.1 + 1)) (some tx1) S1 = some (nI T.1, wI S1 tx1 T.1 (nI (48 + m))) := by
      unfold fJ6_getChars_ba4f3
      rw [if_pos (nI_pos' (by omega)), bnP_1, if_pos rfl, bnP_1, gl, bnS_1]
      dsimp only
      rw [n3, dgt_1 hB (by omega), bnP_1, pk_m1, sB_S (d := 48 + m) q1 q2 rfl (by omega) (by omega) (by omega) (by congr 1; omega), bnP_1, if_pos (n4 z), bnS_1, if_pos rfl]
    have ea : fJ5_append_c97b9 (some 78) (nI m) S = some (.ok (some 78), wI (wI S1 78 3 (nI (T.1 + 1))) tx1 T.1 (nI (48 + m)), i1 + 0, j1 + 0) := by
      unfold fJ5_append_c97b9
      rw [isK_S a3, bnP_1, gI_S a3, bnP_1, c1, sz_1 z, bnP_1, nI_add, e1, bnA_ok, el, bnP_1, if_pos rfl, gR_S p3 p4, bnP_1, eg, bnS_1, bnS_1, pI_S (by exact p3) (by show 78 < hN S1; omega), bnP_1, addC_1, wI_comm q6]
    refine ⟨_, tx1, i1 + 0, j1 + 0, by rw [ea, bnA_ok, addC_1], ?_⟩
    unfold tNm
    rw [if_pos z]
    exact hp
  · obtain ⟨S1, tx1, i1, j1, e1, h1, hz⟩ := t_ens h (n := T.1 + 2) (by omega) (by omega)
    obtain ⟨⟨p1, p2, p3, p4, p5, p6⟩, ⟨q1, q2, q3, q4, q5, q6⟩, ⟨r1, r2, r3, r4, r5, r6⟩, ⟨s1, s2⟩, e⟩ := id h1
    have hB : hN S1 < BIG := by omega
    have hp := tx_put h1 (d := 48 + m / 10) (by omega) (by omega) (by omega)
    have hp2 := tx_put hp (d := 48 + m % 10) (by omega) (show T.1 + 1 + 1 ≤ hZ S1 tx1 by omega) (show T.1 + 1 + 1 ≤ 20000 by omega)
    have el : fJ5_isLatin1_aae02 (some 78) S1 = some true := by
      unfold fJ5_isLatin1_aae02
      rw [isK_S p3, bnP_1, gI_S p3, bnP_1, r2, if_pos rfl]
    have eg : fJ6_getChars_ba4f3 (nI m) (nI (T.1 + 2)) (some tx1) S1 = some (nI T.1, wI (wI S1 tx1 (T.1 + 1) (nI (48 + m % 10))) tx1 T.1 (nI (48 + m / 10))) := by
      unfold fJ6_getChars_ba4f3
      rw [if_pos (nI_pos' (by omega)), bnP_1, if_pos rfl, bnP_1, gl, bnS_1]
      dsimp only
      rw [n3, dgt_1 hB (by omega), bnP_1, show nI (T.1 + 2) + (-1) = nI (T.1 + 1) from pk_m1 (T.1 + 1), sB_S (d := 48 + m % 10) q1 q2 rfl (by omega) (by omega) (by omega) rfl, bnP_1, if_neg (n5 (by omega)), dgt_2 (S := wI S1 tx1 (T.1 + 1) (nI (48 + m % 10))) hB (by omega), bnP_1, pk_m1, sB_S (S := wI S1 tx1 (T.1 + 1) (nI (48 + m % 10))) (d := 48 + m / 10) q1 q2 rfl (show T.1 < hZ S1 tx1 by omega) (show hZ S1 tx1 < 2 ^ 31 by omega) (by omega) (by congr 1; omega), bnP_1, bnS_1, if_pos rfl]
    have ea : fJ5_append_c97b9 (some 78) (nI m) S = some (.ok (some 78), wI (wI (wI S1 tx1 (T.1 + 1) (nI (48 + m % 10))) tx1 T.1 (nI (48 + m / 10))) 78 3 (nI (T.1 + 2)), i1 + 0, j1 + 0) := by
      unfold fJ5_append_c97b9
      rw [isK_S a3, bnP_1, gI_S a3, bnP_1, c1, sz_2 (by omega) (by omega), bnP_1, nI_add, e1, bnA_ok, el, bnP_1, if_pos rfl, gR_S p3 p4, bnP_1, eg, bnS_1, bnS_1, pI_S (by exact p3) (by show 78 < hN S1; omega), bnP_1, addC_1]
    refine ⟨_, tx1, i1 + 0, j1 + 0, by rw [ea, bnA_ok, addC_1], ?_⟩
    unfold tNm
    rw [if_neg z]
    have ew := wI_over (S := S1) (a := 78) (b := tx1) (k := T.1) (l := T.1 + 1) (x := nI (48 + m / 10)) (y := nI (48 + m % 10)) (z := nI (T.1 + 1)) (u := nI (T.1 + 2)) (c := 3) (fun q => q6 q.symm) (by omega)
    rw [← ew]
    exact hp2
theorem tNm_1 (T : tI) (m : Nat) : T.1 ≤ (tNm T m).1 ∧ (tNm T m).1 ≤ T.1 + 2 := by
  unfold tNm
  split
  · show T.1 ≤ T.1 + 1 ∧ T.1 + 1 ≤ _
    omega
  · show T.1 ≤ T.1 + 1 + 1 ∧ T.1 + 1 + 1 ≤ _
    omega
theorem t_pnum (h : TXS S0 t0 T S tx i j) {m : Nat} (hm : m ≤ 99) (hw : wdR lo hi w) (h2 : T.1 + 12 ≤ 20000) : TOP S0 t0 (fX6_putNumberedWord (some 77) (nI m) w S) () (tW (tA (tNm (tB T) m) 58) lo hi) i j := by
  have hB := tB_1 T
  have hN := tNm_1 (tB T) m
  have e : (tA (tNm (tB T) m) 58).1 = (tNm (tB T) m).1 + 1 := rfl
  unfold fX6_putNumberedWord
  rw [isK_S h.1.1, bnP_1]
  refine top_bind (t_blank h (by omega)) fun S1 tx1 i1 j1 h1 => ?_
  rw [gR_S h1.1.1 h1.1.2.1, bnP_1]
  refine top_bind (t_num h1 hm (by omega)) fun S2 tx2 i2 j2 h2 => ?_
  rw [gR_S h2.1.1 h2.1.2.1, bnP_1]
  exact top_bind (t_app h2 (d := 58) (by decide) (by omega)) fun S3 tx3 i3 j3 h3 => top_bind (t_letters h3 hw (by omega)) fun S4 tx4 i4 j4 h4 => top_ret h4
end PEN
