/-! THE PURE LEVEL, 41: STRIKE -/
section SK2
variable {σ : HpT} {G G1 : Nat → Nat → Int32} {J : Nat → Nat → Int64} {b bs ps tx : Nat} {P : Nat → Option Nat} {E : tE} {I T : tI} {N : Nat → Int32} {U : tU} {V : tV}
theorem c_strikeWord (h : BK σ b) (hw : WFN N) (r : RB G J b N) (q : isO N) {i : Nat} (hi : i < aM N (nAc N - 1)) : fX1_strikeWord (some b) (nI i) (wc σ G J) = some (wc σ (up (cw G (b + 7) (stfG (opW N i) 1 (G (b + 7)))) (b + 15 + (nAc N - 1)) 4 (G (b + 15 + (nAc N - 1)) 4 + 1)) J) := by
  have ha : nAc N - 1 < nAc N := by have := q.1; omega
  obtain ⟨p1, p2, p3, p4, p5⟩ := (act_ok hw.1 hw.2.1 ha).1
  have hle := act_le hw.1 hw.2.1 ha
  have hb := w1_b hw.1
  have hr := rb_act r ha
  unfold fX1_strikeWord opW
  rw [bk_o h, bnP_1, c_openAct1 h hw.1 r q, bnP_1, if_neg (fun e => by cases e), if_neg (nI_lt0 (by omega)), bk_aI h p1, bnP_1, hr.2.2.2.2.2.2.1, p3, if_neg (nI_ge hi (by omega)), bk_r8 h, bnP_1, bk_aI h p1, bnP_1, hr.2.2.2.2.2.1, p2, nI_add, show (1 : Int32) = nI 1 from rfl, c_strikeFrom h hw.1 r (by omega), bnS_1, bk_aI h p1, bnP_1, cw_b (by omega), bk_aP h p1, bnP_1]
theorem stk_st {f n : Nat} (hw : WFN N) (q : isO N) (hf : f + n ≤ nWd N) : isO (stkN N f n) ∧ nAc (stkN N f n) = nAc N ∧ aF (stkN N f n) (nAc N - 1) = aF N (nAc N - 1) ∧ aM (stkN N f n) (nAc N - 1) = aM N (nAc N - 1) := by
  have hb := w1_b hw.1
  have s := stk_s (f := f) (n := n) hw hf
  have sn := sm_n s
  have ea := sm_a s (a := nAc N - 1) (by have := q.1; omega)
  refine ⟨⟨by rw [sn.2.1]; exact q.1, ?_⟩, sn.2.1, ea.1, ea.2.1⟩
  rw [sn.2.1, stk_o (by omega) (by omega)]
  exact q.2
end SK2
