/-! THE PURE LEVEL, 18: more of the class's questions -/
section C4
variable {σ : HpT} {G : Nat → Nat → Int32} {J : Nat → Nat → Int64} {o b m d : Nat} {N : Nat → Int32}
theorem rb_p (r : RB G J b N) (w1 : W1 N) : G b 3 = nI (nCp N) := by rw [← (w1_e w1).2.2.2.2]; exact r.1.2.2.2.1
theorem c_copiesOf (h : BK σ b) (hw : WFN N) (r : RB G J b N) {a : Nat} (ha : a < nAc N) : fX1_copiesOf (some b) (nI (a + 1)) (wc σ G J) = some (nI (cntN (fun c => decide (oO N c = a)) (nCp N))) := by
  have hb := w1_b hw.1
  unfold fX1_copiesOf
  have e : lpP (fX1_copiesOf_l1 (some b) (nI (a + 1)) (wc σ G J)) FUEL (0, 0) = some (nI (cntN (fun c => decide (oO N c = a)) (nCp N))) := by
    refine lpP_f (nCp N) (fun k => (nI (cntN (fun c => decide (oO N c = a)) k), nI k)) rfl (by omega) (fun k hk => ?_) ?_
    · unfold fX1_copiesOf_l1
      obtain ⟨⟨q2, q3⟩, q1, q4⟩ := w4_c hw.2.2.2 hk
      have hs : cntN (fun c => decide (oO N c = a)) (k + 1) = cntN (fun c => decide (oO N c = a)) k + (if decide (oO N k = a) = true then 1 else 0) := rfl
      rw [bk_I h, bnP_1, rb_p r hw.1]
      dsimp only
      rw [if_neg (by rw [nI_leI (by omega) (by omega)]; omega), bk_r7 h, bnP_1, bk_pR h (by omega), bnP_1, bk_pI h (by omega), bnP_1, (r.2.2 k hk).1, hs]
      by_cases q : oO N k = a
      · rw [if_pos (by rw [q]), decide_eq_true q, if_pos rfl, nI_a1, nI_a1]
      · rw [if_neg (by rw [nI_eq (by omega) (by omega)]; omega), decide_eq_false q, if_neg (by decide), nI_a1]
        rfl
    · unfold fX1_copiesOf_l1
      rw [bk_I h, bnP_1, rb_p r hw.1]
      dsimp only
      rw [if_pos (by rw [nI_leI (by omega) (by omega)]; exact Nat.le_refl _)]
  rw [bk_o h, bnP_1, e, bnP_1]
theorem c_stateOf (h : BK σ b) (w1 : W1 N) (r : RB G J b N) {l : Nat} (hl : l < nLv N) : fX4_stateOf (some (b + 10)) (nI l) (wc σ G J) = some (N (99 + l)) := by
  have h12 := nlv_12 w1
  have r0 : G (b + 10 + 1) l = N (99 + l) := r.1.2.2.2.2.2.2.2.2.2.2 l hl
  unfold fX4_stateOf
  rw [lk_o (bk_L h), bnP_1, c_isThere h w1 r, bnP_1, nI_m1 (by omega), inR_nI (by omega) (by omega) (by omega), decide_eq_true (Nat.zero_le l), decide_eq_true (show l ≤ nLv N - 1 by omega), Bool.and_self, if_pos rfl, lk_r2 (bk_L h), bnP_1, lk_a2 (bk_L h) (by omega), bnP_1, r0]
end C4
