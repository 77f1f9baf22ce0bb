/-! THE PURE LEVEL, 53: unknown words behind a leaf's loss -/
section LSE2
variable {σ : HpT} {G G1 G2 : Nat → Nat → Int32} {J J2 : Nat → Nat → Int64} {b : Nat} {N M M' : Nat → Int32} {l : Nat} {x : Int32}
/-- the copies' words are the same -/
theorem cw_eq (hw : WFN M) (s : SM M M') (h : ∀ j, (j < 99 ∨ 99 + nLv M ≤ j) → M' j = M j) (g : Nat) : cwN M' g = cwN M g := by
  have hb := w1_b hw.1
  have h12 := nlv_12 hw.1
  unfold cwN
  rw [show nCp M' = nCp M from congrArg Int32.toNatClampNeg (h 6 (by omega))]
  refine cntN_cong fun c hc => ?_
  have e0 : oO M' c = oO M c := congrArg Int32.toNatClampNeg (h _ (by omega))
  have e1 : oG M' c = oG M c := congrArg Int32.toNatClampNeg (h _ (by omega))
  have ho := (w4_c hw.2.2.2 hc).1.1
  have ea := sm_a s ho
  have ef : fsN M' (aF M (oO M c)) (aM M (oO M c)) = fsN M (aF M (oO M c)) (aM M (oO M c)) := fsN_cg fun k hk => h _ (by omega)
  unfold hwN hbN fstS lstS
  rw [e0, e1, ea.1, ea.2.1, ef]
  unfold skN
  rw [h (127 + 13 * g + 2) (by omega)]
theorem uk_dif (hw : WFN M) (s : SM M M') (h : ∀ j, (j < 99 ∨ 99 + nLv M ≤ j) → M' j = M j) (hl : l < nLv M) (h0 : M (99 + l) ≠ 2) (h1 : M' (99 + l) = 2) (ho : ∀ k, k < nLv M → k ≠ l → (M' (99 + k) = 2 ↔ M (99 + k) = 2)) : ukN M' = ukN M + cntN (fun k => decide (cwN M (l * nRm M + k) = 0)) (pOn M l) := by
  have hb := w1_b hw.1
  have h12 := nlv_12 hw.1
  have sn := sm_n s
  have pb := pOn_b hw.1 hl
  have hR : 4 ≤ nRm M := hb.1.2
  -- words on leaf l
  have hq : cntN (fun g => decide (g / nRm M = l) && decide (cwN M g = 0)) (nWd M) = cntN (fun k => decide (cwN M (l * nRm M + k) = 0)) (pOn M l) := by
    obtain ⟨d, hd⟩ : ∃ d, nWd M = l * nRm M + (pOn M l + d) := ⟨nWd M - (l * nRm M + pOn M l), by omega⟩
    rw [hd, cntN_add, cntN_add]
    rw [cntN_zero (p := fun g => decide (g / nRm M = l) && decide (cwN M g = 0)) (fun k hk => by
      rw [decide_eq_false (show ¬ k / nRm M = l from fun e => by
        have := (Nat.div_lt_iff_lt_mul (show 0 < nRm M by omega)).mpr hk
        omega), Bool.false_and])]
    rw [cntN_zero (p := fun k => decide ((l * nRm M + (pOn M l + k)) / nRm M = l) && decide (cwN M (l * nRm M + (pOn M l + k)) = 0)) (fun k hk => by
      have hp : pOn M l = nRm M := by
        unfold pOn at hd ⊢
        by_cases z : l * nRm M + nRm M ≤ nWd M
        · rw [if_pos z]
        · rw [if_neg z] at hd
          omega
      rw [decide_eq_false (show ¬ (l * nRm M + (pOn M l + k)) / nRm M = l from fun e => by
        rw [hp] at e
        have : l + 1 ≤ (l * nRm M + (nRm M + k)) / nRm M := (Nat.le_div_iff_mul_le (show 0 < nRm M by omega)).mpr (by
          rw [Nat.add_mul, Nat.one_mul]
          omega)
        omega), Bool.false_and])]
    rw [Nat.zero_add, Nat.add_zero]
    refine cntN_cong fun k hk => ?_
    have : pOn M l ≤ nRm M := by
      unfold pOn
      by_cases z : l * nRm M + nRm M ≤ nWd M
      · rw [if_pos z]
        exact Nat.le_refl _
      · rw [if_neg z]
        omega
    have e : (l * nRm M + k) / nRm M = l := by
      rw [Nat.mul_comm, Nat.mul_add_div (show 0 < nRm M by omega), Nat.div_eq_of_lt (by omega), Nat.add_zero]
    rw [e, decide_eq_true rfl, Bool.true_and]
  rw [← hq]
  unfold ukN
  rw [sn.2.2.1]
  refine cntN_or fun g hg => ?_
  have hgl : g / nRm M < nLv M := by
    refine (Nat.lt_div_iff_mul_lt (show 0 < nRm M by omega)).mpr ?_
    have := Nat.div_mul_le_self g (nRm M)
    rw [Nat.mul_comm] at this
    rw [Nat.mul_comm]
    omega
  unfold knN olN
  rw [cw_eq hw s h g, sn.1]
  by_cases z : g / nRm M = l
  · rw [z, decide_eq_true h1, decide_eq_false h0, decide_eq_true rfl]
    by_cases z2 : 0 < cwN M g
    · rw [decide_eq_true z2, decide_eq_false (show ¬ cwN M g = 0 by omega)]
      exact ⟨rfl, rfl⟩
    · rw [decide_eq_false z2, decide_eq_true (show cwN M g = 0 by omega)]
      exact ⟨rfl, rfl⟩
  · rw [decide_eq_false z, Bool.false_and, Bool.or_false, Bool.and_false]
    refine ⟨?_, rfl⟩
    have e := ho _ hgl z
    by_cases z2 : M (99 + g / nRm M) = 2
    · rw [decide_eq_true z2, decide_eq_true (e.mpr z2)]
    · rw [decide_eq_false z2, decide_eq_false (fun q => z2 (e.mp q))]
/-- the row behind a leaf's loss -/
theorem ls_lost (hw : WFN N) (hl : l < nLv N) : lsN (lfN N l 2) l (99 + l) = 2 ∧ (∀ k, k ≠ l → (lsN (lfN N l 2) l (99 + k) = 2 ↔ N (99 + k) = 2)) ∧ SM N (lsN (lfN N l 2) l) ∧ (∀ j, (j < 99 ∨ 99 + nLv N ≤ j) → lsN (lfN N l 2) l j = N j) ∧ WFN (lsN (lfN N l 2) l) := by
  have wf := lf_wf (x := 2) hw hl (Or.inr (Or.inr rfl))
  have n2 := lf_n2 (x := 2) hw hl
  obtain ⟨w, s2, f2⟩ := ls_wf (l := l) wf
  have s1 := lf_s (x := 2) hw hl
  have sn := sm_n s1
  have s : SM N (lsN (lfN N l 2) l) := ⟨fun k hk => (s2.1 k hk).trans (s1.1 k hk), fun a ha k hk => (s2.2.1 a (by rw [sn.2.1]; exact ha) k hk).trans (s1.2.1 a ha k hk), fun g hg => (s2.2.2.1 g (by rw [sn.2.2.1]; exact hg)).trans (s1.2.2.1 g hg), fun j hj => (s2.2.2.2 j hj).trans (s1.2.2.2 j hj)⟩
  refine ⟨?_, fun k hk => ?_, s, fun j hj => ?_, w⟩
  · unfold lsN
    cases z : mtO (lfN N l 2) l 0
    · rw [if_neg (by decide)]
      exact u1_e _ _ _
    · have q := of_decide_eq_true z
      rw [if_pos rfl, lf_o (by omega)]
      exact u1_e _ _ _
  · unfold lsN
    cases z : mtO (lfN N l 2) l 0
    · rw [if_neg (by decide), lf_o (by omega)]
    · have q := of_decide_eq_true z
      rw [if_pos rfl]
      by_cases e : k = mtN (nv (lfN N l 2) 2) l
      · have q3 := q.2.2
        rw [← e, lf_o (by omega)] at q3
        rw [← e, show lfN (lfN N l 2) k 1 (99 + k) = 1 from u1_e _ _ _, q3]
        decide
      · rw [lf_o (by omega), lf_o (by omega)]
  · rw [f2 j (by rw [n2.2]; exact hj), lf_o (by omega)]
end LSE2
