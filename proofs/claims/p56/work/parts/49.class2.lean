/-! THE PURE LEVEL, 8: the class's questions of a Book -/
section C2
variable {σ : HpT} {G : Nat → Nat → Int32} {J : Nat → Nat → Int64} {b : Nat} {N : Nat → Int32}
theorem rb_sk (r : RB G J b N) {g : Nat} (hg : g < nWd N) : G (b + 3 + 4) g = N (127 + 13 * g + 2) := (r.2.1.1 g hg).2.1
theorem rb_in (r : RB G J b N) {g : Nat} (hg : g < nWd N) : G (b + 3 + 5) g = N (127 + 13 * g + 4) := (r.2.1.1 g hg).2.2.1
theorem c_unstruck (h : BK σ b) (w1 : W1 N) (r : RB G J b N) {f n : Nat} (hf : f + n ≤ nWd N) : fX8_unstruckFrom (some (b + 3)) (nI f) (nI n) (wc σ G J) = some (nI (cntN (fun k => skN N (f + k)) n)) := by
  have hb := w1_b w1
  unfold fX8_unstruckFrom
  have e : lpP (fX8_unstruckFrom_l1 (some (b + 3)) (nI f) (nI n) (wc σ G J)) FUEL (0, nI f) = some (nI (cntN (fun k => skN N (f + k)) n)) := by
    refine lpP_f n (fun k => (nI (cntN (fun k => skN N (f + k)) k), nI (f + k))) rfl (by omega) (fun k hk => ?_) ?_
    · unfold fX8_unstruckFrom_l1
      dsimp only
      have hs : cntN (fun k => skN N (f + k)) (k + 1) = cntN (fun k => skN N (f + k)) k + (if skN N (f + k) = true then 1 else 0) := rfl
      rw [nI_add, if_neg (by rw [nI_leI (by omega) (by omega)]; omega), sk_r4 (bk_S h), bnP_1, sk_a4 (bk_S h) (by omega), bnP_1, rb_sk r (by omega), hs]
      unfold skN
      by_cases q : N (127 + 13 * (f + k) + 2) = 0
      · rw [if_pos q, decide_eq_true q, if_pos rfl, nI_a1, nI_a1]
        rfl
      · rw [if_neg q, decide_eq_false q, if_neg (by decide), nI_a1]
        rfl
    · unfold fX8_unstruckFrom_l1
      dsimp only
      rw [nI_add, if_pos (by rw [nI_leI (by omega) (by omega)]; exact Nat.le_refl _)]
  rw [sk_o (bk_S h), bnP_1, e, bnP_1]
theorem c_standingFrom (h : BK σ b) (w1 : W1 N) (r : RB G J b N) {f n : Nat} (hf : f + n ≤ nWd N) : fX8_standingFrom (some (b + 3)) (nI f) (nI n) (wc σ G J) = some (stN N f n) := by
  have hb := w1_b w1
  unfold fX8_standingFrom
  have e : lpP (fX8_standingFrom_l1 (some (b + 3)) (nI f) (nI n) (wc σ G J)) FUEL (nI (cntN (fun k => skN N (f + k)) n), nI f) = some (stN N f n) := by
    have hsum : stN N f n = nI (cntN (fun k => skN N (f + k)) n) + sumI (fun k => N (127 + 13 * (f + k) + 4)) n := by
      unfold stN
      rw [sumI_add, sumI_cnt]
    rw [hsum]
    refine lpP_f n (fun k => (nI (cntN (fun k => skN N (f + k)) n) + sumI (fun k => N (127 + 13 * (f + k) + 4)) k, nI (f + k))) (Prod.ext (Int32.add_zero _) rfl) (by omega) (fun k hk => ?_) ?_
    · unfold fX8_standingFrom_l1
      dsimp only
      have hs : sumI (fun k => N (127 + 13 * (f + k) + 4)) (k + 1) = sumI (fun k => N (127 + 13 * (f + k) + 4)) k + N (127 + 13 * (f + k) + 4) := rfl
      rw [nI_add, if_neg (by rw [nI_leI (by omega) (by omega)]; omega), sk_r5 (bk_S h), bnP_1, sk_a5 (bk_S h) (by omega), bnP_1, rb_in r (by omega), hs, nI_a1, Int32.add_assoc]
      rfl
    · unfold fX8_standingFrom_l1
      dsimp only
      rw [nI_add, if_pos (by rw [nI_leI (by omega) (by omega)]; exact Nat.le_refl _)]
  rw [sk_o (bk_S h), bnP_1, c_unstruck h w1 r hf, bnP_1, e, bnP_1]
theorem c_holds (h : BK σ b) (hw : WFN N) (r : RB G J b N) {c g : Nat} (hc : c < nCp N) (hg : g < nWd N) : fX3_holds (some (b + 25 + c)) (some (b + 3)) (nI g) (wc σ G J) = some (hwN N c g) := by
  obtain ⟨w1, w2, -, w4⟩ := hw
  have hb := w1_b w1
  obtain ⟨⟨q2, q3⟩, q1, q4⟩ := w4_c w4 hc
  have ho := (act_ok w1 w2 q2).1
  have hle : aF N (oO N c) + aM N (oO N c) ≤ 240 := ho.2.2.2.2
  obtain ⟨r1, r2, r3, -⟩ := r.2.2 c hc
  unfold fX3_holds hwN
  rw [bk_po h (by omega), bnP_1, bk_pI h (by omega), bnP_1]
  cases e : fsN N (aF N (oO N c)) (aM N (oO N c)) with
  | none =>
    rw [e] at r3
    have r3 : G (b + 25 + c) 2 = 0 ∧ G (b + 25 + c) 3 = nO := r3
    rw [r3.1, if_neg (nI_lt0 (by omega)), bk_pI h (by omega), bnP_1, r3.2, if_pos (nO_lt (by omega))]
    by_cases h1 : aF N (oO N c) ≤ g
    · by_cases h2 : g < aF N (oO N c) + aM N (oO N c)
      · have := fsN_none e (g - aF N (oO N c)) (by omega)
        rw [show aF N (oO N c) + (g - aF N (oO N c)) = g by omega] at this
        unfold hbN
        rw [this, Bool.false_and, Bool.and_false]
      · rw [decide_eq_false h2, Bool.and_false, Bool.false_and]
    · rw [decide_eq_false h1, Bool.false_and, Bool.false_and]
  | some xy =>
    obtain ⟨x, y⟩ := xy
    rw [e] at r3
    have r3 : G (b + 25 + c) 2 = nI x ∧ G (b + 25 + c) 3 = nI y := r3
    obtain ⟨p1, p2, p3, p4, p5⟩ := fsN_some e
    have hlow : g < x → (decide (aF N (oO N c) ≤ g) && decide (g < aF N (oO N c) + aM N (oO N c)) && hbN N (aF N (oO N c)) (aM N (oO N c)) (oG N c) g) = false := fun hx => by
      by_cases h1 : aF N (oO N c) ≤ g
      · unfold hbN
        rw [p4 g h1 hx, Bool.false_and, Bool.and_false]
      · rw [decide_eq_false h1, Bool.false_and, Bool.false_and]
    have hhigh : y < g → (decide (aF N (oO N c) ≤ g) && decide (g < aF N (oO N c) + aM N (oO N c)) && hbN N (aF N (oO N c)) (aM N (oO N c)) (oG N c) g) = false := fun hx => by
      by_cases h1 : g < aF N (oO N c) + aM N (oO N c)
      · unfold hbN
        rw [p5 g hx h1, Bool.false_and, Bool.and_false]
      · rw [decide_eq_false h1, Bool.and_false, Bool.false_and]
    rw [r3.1]
    by_cases h1 : g < x
    · rw [if_pos (by rw [nI_ltI (by omega) (by omega)]; exact h1), hlow h1]
    · rw [if_neg (by rw [nI_ltI (by omega) (by omega)]; exact h1), bk_pI h (by omega), bnP_1, r3.2]
      by_cases h2 : y < g
      · rw [if_pos (by rw [nI_ltI (by omega) (by omega)]; exact h2), hhigh h2]
      · rw [if_neg (by rw [nI_ltI (by omega) (by omega)]; exact h2), sk_r4 (bk_S h), bnP_1, sk_a4 (bk_S h) (by omega), bnP_1, rb_sk r hg, decide_eq_true (show aF N (oO N c) ≤ g by omega), decide_eq_true (show g < aF N (oO N c) + aM N (oO N c) by omega)]
        unfold hbN skN fstS lstS
        rw [e]
        dsimp only
        by_cases h3 : N (127 + 13 * g + 2) = 0
        · rw [if_pos h3, decide_eq_true h3, bk_pI h (by omega), bnP_1, r2, q4]
          by_cases h4 : oG N c < 2
          · rw [if_neg (by rw [li_2, nI_eq (by omega) (by omega)]; omega), decide_eq_true h4]
            rfl
          · rw [if_pos (by rw [show oG N c = 2 by omega]; rfl), decide_eq_false h4, bnP_1]
            by_cases h5 : nI g = nI x
            · rw [if_pos h5, decide_eq_true h5]
              rfl
            · rw [if_neg h5, decide_eq_false h5, bnP_1]
              by_cases h6 : nI g = nI y
              · rw [if_pos h6, decide_eq_true h6]
                rfl
              · rw [if_neg h6, decide_eq_false h6]
                rfl
        · rw [if_neg h3, decide_eq_false h3]
          rfl
theorem c_copiesWith (h : BK σ b) (hw : WFN N) (r : RB G J b N) {g : Nat} (hg : g < nWd N) : fX1_copiesWith (some b) (nI g) (wc σ G J) = some (nI (cwN N g)) := by
  have hb := w1_b hw.1
  have he := w1_e hw.1
  have r3 : G b 3 = nI (nCp N) := by rw [← he.2.2.2.2]; exact r.1.2.2.2.1
  unfold fX1_copiesWith
  have e : lpP (fX1_copiesWith_l1 (some b) (nI g) (wc σ G J)) FUEL (0, 0) = some (nI (cwN N g)) := by
    refine lpP_f (nCp N) (fun k => (nI (cntN (fun c => hwN N c g) k), nI k)) rfl (by omega) (fun k hk => ?_) ?_
    · unfold fX1_copiesWith_l1
      have hs : cntN (fun c => hwN N c g) (k + 1) = cntN (fun c => hwN N c g) k + (if hwN N k g = true then 1 else 0) := rfl
      rw [bk_I h, bnP_1, r3]
      dsimp only
      rw [if_neg (by rw [nI_leI (by omega) (by omega)]; omega), bk_r7 h, bnP_1, bk_pR h (by omega), bnP_1, bk_r8 h, bnP_1, c_holds h hw r hk hg, bnP_1, hs]
      cases hwN N k g
      · rw [if_neg (by decide), if_neg (by decide), nI_a1]
        rfl
      · rw [if_pos rfl, if_pos rfl, nI_a1, nI_a1]
    · unfold fX1_copiesWith_l1
      rw [bk_I h, bnP_1, r3]
      dsimp only
      rw [if_pos (by rw [nI_leI (by omega) (by omega)]; exact Nat.le_refl _)]
      rfl
  rw [bk_o h, bnP_1, e, bnP_1]
theorem c_leafOf (h : BK σ b) (w1 : W1 N) (r : RB G J b N) {g : Nat} (hg : g < 2 ^ 31) : fX1_leafOf (some b) (nI g) (wc σ G J) = some (nI (g / nRm N)) := by
  have hb := w1_b w1
  have r0 : G b 0 = nI (nRm N) := by rw [← (w1_e w1).1]; exact r.1.1
  unfold fX1_leafOf
  have hz : nz (nI (nRm N)) = some () := if_neg (nI_ne0 (by omega) (by omega))
  rw [bk_o h, bnP_1, bk_I h, bnP_1, r0, if_neg (nI_nle (by omega) (by omega)), bnP_1, hz, bnP_1, pk_div hg (by omega) (by omega)]
theorem c_isThere (h : BK σ b) (w1 : W1 N) (r : RB G J b N) (v : Int32) : fX4_isThere (some (b + 10)) v (wc σ G J) = some (inR v (nI 0) (nI (nLv N) - 1)) := by
  have hb := w1_b w1
  have hl : nLv N ≤ 12 := by
    rw [Nat.div_le_iff_le_mul_add_pred (by omega)]
    have : nRm N * 12 = 12 * nRm N := Nat.mul_comm _ _
    omega
  have r0 : G (b + 10) 1 = nI (nLv N) := r.1.2.2.2.2.2.2.2.2.1
  unfold fX4_isThere
  rw [lk_o (bk_L h), bnP_1]
  by_cases h1 : v < 0
  · rw [if_pos h1]
    unfold inR
    rw [show decide (nI 0 ≤ v) = false from decide_eq_false (Int32.not_le.mpr h1), Bool.false_and]
  · obtain ⟨j, hj, e⟩ := nI_of h1
    subst e
    rw [if_neg h1, lk_I (bk_L h), bnP_1, r0]
    by_cases z : nLv N = 0
    · rw [z, if_pos (by rw [nI_leI (by omega) (by omega)]; omega)]
      exact congrArg some (inR_nO _).symm
    · rw [nI_m1 (by omega), inR_nI (by omega) (by omega) (by omega), decide_eq_true (Nat.zero_le j), Bool.true_and]
      by_cases q : nLv N ≤ j
      · rw [if_pos (by rw [nI_leI (by omega) (by omega)]; omega), decide_eq_false (by omega)]
      · rw [if_neg (by rw [nI_leI (by omega) (by omega)]; omega), decide_eq_true (by omega)]
theorem c_isLost (h : BK σ b) (w1 : W1 N) (r : RB G J b N) {l : Nat} (hl : l < nLv N) : fX4_isLost (some (b + 10)) (nI l) (wc σ G J) = some (decide (N (99 + l) = 2)) := by
  have hb := w1_b w1
  have hl2 : nLv N ≤ 12 := by
    rw [Nat.div_le_iff_le_mul_add_pred (by omega)]
    have : nRm N * 12 = 12 * nRm N := Nat.mul_comm _ _
    omega
  have r0 : G (b + 10 + 1) l = N (99 + l) := r.1.2.2.2.2.2.2.2.2.2.2 l hl
  unfold fX4_isLost
  rw [lk_o (bk_L h), bnP_1, c_isThere h w1 r, bnP_1, nI_m1 (by omega), inR_nI (by omega) (by omega) (by omega), decide_eq_true (Nat.zero_le l), decide_eq_true (show l ≤ nLv N - 1 by omega), Bool.and_self, if_pos rfl, lk_r2 (bk_L h), bnP_1, lk_a2 (bk_L h) (by omega), bnP_1, r0]
  by_cases q : N (99 + l) = 2
  · rw [if_pos q, decide_eq_true q]
  · rw [if_neg q, decide_eq_false q]
theorem c_isKnown (h : BK σ b) (hw : WFN N) (r : RB G J b N) {g : Nat} (hg : g < nWd N) : fX1_isKnown (some b) (nI g) (wc σ G J) = some (knN N g) := by
  have hb := w1_b hw.1
  obtain ⟨l1, l2, l3, l4⟩ := nlv_lt hw.1 hg
  unfold fX1_isKnown knN olN
  rw [bk_o h, bnP_1, bk_r9 h, bnP_1, c_leafOf h hw.1 r (by omega), bnP_1, c_isLost h hw.1 r l1, bnP_1]
  by_cases q : N (99 + g / nRm N) = 2
  · have hb2 : cwN N g < 2 ^ 31 := by
      have h1 := cntN_le (fun c => hwN N c g) (nCp N)
      show cntN _ _ < _
      omega
    rw [decide_eq_true q, if_pos rfl, c_copiesWith h hw r hg, bnP_1]
    by_cases e : 0 < cwN N g
    · rw [if_neg (nI_nle e hb2), decide_eq_true e]
      rfl
    · rw [if_pos (by rw [show cwN N g = 0 by omega]; decide), decide_eq_false e]
      rfl
  · rw [decide_eq_false q, if_neg (by decide)]
    rfl
end C2
