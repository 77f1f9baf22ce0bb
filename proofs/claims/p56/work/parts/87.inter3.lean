/-! THE PURE LEVEL, 47: INTERLINE, may it be -/
section INT3
variable {σ : HpT} {G G1 G2 : Nat → Nat → Int32} {J J2 : Nat → Nat → Int64} {b bs ps tx : Nat} {P : Nat → Option Nat} {E : tE} {I T : tI} {N : Nat → Int32} {U : tU} {V : tV} {g : Nat} {lo hi : Int32}
/-- may a word be interlined -/
def ciB (N : Nat → Int32) (v : Int32) : Bool := askB N v 0 && decide (wN' N (opW N v.toNatClampNeg) < 4)
theorem askB_0 (v : Int32) : askB N v 0 = (decide (0 < nAc N ∧ N (9 + 9 * (nAc N - 1) + 1) = 0) && inR v (nI 0) (nI (aM N (nAc N - 1) - 1))) := by
  unfold askB strQ
  rw [decide_eq_true (show (0 : Int32) = 0 from rfl), Bool.true_or, Bool.and_true]
  by_cases q : 0 < nAc N ∧ N (9 + 9 * (nAc N - 1) + 1) = 0
  · rw [if_pos q, decide_eq_true q]
    cases inR v (nI 0) (nI (aM N (nAc N - 1) - 1))
    · rw [if_neg (by decide)]
      decide
    · rw [if_pos rfl]
      cases skN N (aF N (nAc N - 1) + v.toNatClampNeg)
      · rw [if_neg (by decide)]
        decide
      · rw [if_pos rfl]
        decide
  · rw [if_neg q, decide_eq_false q]
    rfl
theorem c_canInsert (h : BK σ b) (hw : WFN N) (r : RB G J b N) (v : Int32) : fX1_canInsert (some b) v (wc σ G J) = some (ciB N v) := by
  have hb := w1_b hw.1
  unfold fX1_canInsert ciB
  rw [bk_o h, bnP_1, askB_0]
  by_cases q : 0 < nAc N ∧ N (9 + 9 * (nAc N - 1) + 1) = 0
  · have ha : nAc N - 1 < nAc N := by omega
    obtain ⟨p1, p2, p3, p4, p5⟩ := (act_ok hw.1 hw.2.1 ha).1
    have hle := act_le hw.1 hw.2.1 ha
    have hr := rb_act r ha
    rw [c_openAct1 h hw.1 r q, bnP_1, if_neg (fun e => by cases e), decide_eq_true q, Bool.true_and]
    by_cases z : v < 0
    · rw [if_pos z]
      have e : inR v (nI 0) (nI (aM N (nAc N - 1) - 1)) = false := by
        unfold inR
        rw [decide_eq_false (show ¬ nI 0 ≤ v from Int32.not_le.mpr z), Bool.false_and]
      rw [e, Bool.false_and]
    · obtain ⟨i, hi, rfl⟩ := nI_of z
      rw [if_neg z, bk_aI h p1, bnP_1, hr.2.2.2.2.2.2.1, p3, inR_nI hi (by decide) (by omega), decide_eq_true (Nat.zero_le i), Bool.true_and]
      by_cases z2 : i < aM N (nAc N - 1)
      · have hg : aF N (nAc N - 1) + i < nWd N := by omega
        have hb4 : N (127 + 13 * (aF N (nAc N - 1) + i) + 4) = nI (wN' N (aF N (nAc N - 1) + i)) := (hw.2.2.2.1 _ hg).1.1
        have hb5 : wN' N (aF N (nAc N - 1) + i) < 5 := (hw.2.2.2.1 _ hg).1.2
        have hs := bk_S h
        rw [if_neg (nI_ge z2 (by omega)), decide_eq_true (show i ≤ aM N (nAc N - 1) - 1 by omega), Bool.true_and, bk_r8 h, bnP_1, sk_r5 hs, bnP_1, bk_aI h p1, bnP_1, hr.2.2.2.2.2.1, p2, nI_add, sk_a5 hs (by omega), bnP_1, show b + 3 + 5 = b + 8 from rfl, (r.2.1.1 _ hg).2.2.1, hb4, nI_clamp hi]
        unfold opW
        by_cases z3 : wN' N (aF N (nAc N - 1) + i) < 4
        · rw [if_neg (show ¬ (4 : Int32) ≤ nI (wN' N (aF N (nAc N - 1) + i)) from nI_ge z3 (by decide)), decide_eq_true z3]
        · rw [if_pos (show (4 : Int32) ≤ nI (wN' N (aF N (nAc N - 1) + i)) from nI_le (show 4 ≤ wN' N (aF N (nAc N - 1) + i) by omega) (by omega)), decide_eq_false z3]
      · rw [if_pos (nI_le (by omega) hi), decide_eq_false (show ¬ i ≤ aM N (nAc N - 1) - 1 by omega), Bool.false_and]
  · rw [c_openAct0 h hw.1 r q, bnP_1, if_pos rfl, decide_eq_false q, Bool.false_and, Bool.false_and]
theorem ciB_t (hw : WFN N) {v : Int32} (h : ciB N v = true) : isO N ∧ ∃ i, v = nI i ∧ i < aM N (nAc N - 1) ∧ wN' N (opW N i) < 4 := by
  unfold ciB at h
  rw [Bool.and_eq_true] at h
  obtain ⟨q, i, rfl, hi, -⟩ := askB_t hw.1 hw.2.1 h.1
  have := (w2_b hw.2.1 (a := nAc N - 1) (by have := q.1; omega)).2.1
  have h2 := of_decide_eq_true h.2
  rw [nI_clamp (by omega)] at h2
  exact ⟨q, i, rfl, hi, h2⟩
end INT3
