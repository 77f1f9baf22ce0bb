/-! THE PURE LEVEL, 25: HAS, GAP -/
theorem i_ss (x a b : Int32) : x - (a + b) = x - a - b := by
  have e : x = (x - a - b) + (a + b) := by rw [Int32.add_comm a b, ← Int32.add_assoc, Int32.sub_add_cancel, Int32.sub_add_cancel]
  exact (congrArg (fun y => y - (a + b)) e).trans (Int32.add_sub_cancel _ _)
/-- words that stand at g: the written one, and those behind it -/
def stW (N : Nat → Int32) (g : Nat) : Int32 := bI (skN N g) + N (127 + 13 * g + 4)
theorem stN_e (N : Nat → Int32) (f n : Nat) : stN N f n = sumI (fun k => stW N (f + k)) n := rfl
theorem stN_1 (N : Nat → Int32) (g : Nat) : stN N g 1 = stW N g := by
  show 0 + stW N (g + 0) = stW N g
  rw [Int32.zero_add]
  rfl
/-- the class's sums of an act, clause by clause: of those that are closed, of the one that is open -/
def sbC (N : Nat → Int32) (a : Nat) : Nat → Int32 × Int32
  | 0 => (0, 0)
  | k + 1 => if enr (cF N) (cT N) (aK N a) (aC N a) (aF N a + k + 1) = 0 then ((sbC N a k).1 + ((sbC N a k).2 + stW N (aF N a + k)), 0) else ((sbC N a k).1, (sbC N a k).2 + stW N (aF N a + k))
theorem sbC_sum (N : Nat → Int32) (a : Nat) : ∀ k, (sbC N a k).1 + (sbC N a k).2 = stN N (aF N a) k
  | 0 => rfl
  | k + 1 => by
    rw [stN_e]
    show _ = sumI (fun k => stW N (aF N a + k)) k + stW N (aF N a + k)
    rw [← stN_e, ← sbC_sum N a k]
    have e : sbC N a (k + 1) = if enr (cF N) (cT N) (aK N a) (aC N a) (aF N a + k + 1) = 0 then ((sbC N a k).1 + ((sbC N a k).2 + stW N (aF N a + k)), 0) else ((sbC N a k).1, (sbC N a k).2 + stW N (aF N a + k)) := rfl
    rw [e]
    by_cases q : enr (cF N) (cT N) (aK N a) (aC N a) (aF N a + k + 1) = 0
    · rw [if_pos q]
      show (sbC N a k).1 + ((sbC N a k).2 + stW N (aF N a + k)) + 0 = _
      rw [Int32.add_zero, Int32.add_assoc]
    · rw [if_neg q]
      show (sbC N a k).1 + ((sbC N a k).2 + stW N (aF N a + k)) = _
      rw [Int32.add_assoc]
def gapQ (N : Nat → Int32) : Int32 := mab (sumI (fun l => nI (pOn N l)) (nLv N) - sumI (fun a => nI (aM N a)) (nAc N)) + mab (N 7 - N 8 - sumI (fun a => N (9 + 9 * a + 4)) (nAc N) - sumI (fun c => 3 - nI (oG N c)) (nCp N))
def hasB (N : Nat → Int32) (v w : Int32) : Bool := inR v (nI 0) (N 6 - 1) && isW N (nI (oO N v.toNatClampNeg + 1)) w
section LQ10
variable {σ : HpT} {G : Nat → Nat → Int32} {J : Nat → Nat → Int64} {o b m d : Nat} {N : Nat → Int32}
theorem isW_a (w1 : W1 N) {a : Nat} (ha : a < nAc N) (w : Int32) : isW N (nI (a + 1)) w = inR w (nI 0) (nI (aM N a - 1)) := by
  have hb := w1_b w1
  unfold isW
  rw [nI_clamp (by omega), Nat.add_sub_cancel, (w1_e w1).2.1, inR_nI (by omega) (by omega) (by omega), decide_eq_true (show 1 ≤ a + 1 by omega), decide_eq_true (show a + 1 ≤ nAc N by omega), Bool.true_and, Bool.true_and]
theorem cq_has (h : NK σ o b) (hwr : G o 4 ≠ 0 → WFN N ∧ RB G J b N) (v w : Int32) : fX9_has (some o) v w (wc σ G J) = some (ansE 0 1 2 (decide (G o 4 ≠ 0)) (hasB N v w) true (hwN N v.toNatClampNeg (aF N (oO N v.toNatClampNeg) + w.toNatClampNeg))) := by
  have B := nk_B h
  unfold fX9_has
  rw [nk_o h, bnP_1, c_requireBook h]
  by_cases q : G o 4 = 0
  · rw [if_pos q, bnX_e, decide_eq_false (fun e => e q)]
    rfl
  · obtain ⟨hw, r⟩ := hwr q
    have hb := w1_b hw.1
    rw [if_neg q, bnX_1, c_requireCopy h hw.1 r, decide_eq_true q]
    unfold hasB
    cases e : inR v (nI 0) (N 6 - 1)
    · rfl
    · obtain ⟨c, rfl, hc⟩ := inC_t hw.1 e
      obtain ⟨⟨q2, q3⟩, q1, q4⟩ := w4_c hw.2.2.2 hc
      obtain ⟨r1, r2, r3, r4⟩ := r.2.2 c hc
      have hle := act_le hw.1 hw.2.1 q2
      obtain ⟨p1, p2, p3, p4, p5⟩ := (act_ok hw.1 hw.2.1 q2).1
      rw [if_pos rfl, bnX_1, nI_clamp (show c < 2 ^ 31 by omega), bk_pI B (by omega), bnP_1, r1, c_requireAct1 h hw.1 r q2, bnX_1, c_requireWord B hw.1 hw.2.1 r q2, isW_a hw.1 q2, Bool.true_and]
      cases e2 : inR w (nI 0) (nI (aM N (oO N c) - 1))
      · rfl
      · obtain ⟨i, rfl, -, hi⟩ := inR_t (by decide) (by omega) e2
        rw [if_pos rfl, bnX_1, nI_add, nk_b h, bnP_1, bk_r8 B, bnP_1, c_holds B hw r hc (by omega), bnP_1, nI_clamp (show i < 2 ^ 31 by omega)]
        rfl
/-! GAP -/
theorem c_wordsGap (h : BK σ b) (hw : WFN N) (r : RB G J b N) : fX1_wordsGap (some b) (wc σ G J) = some (mab (sumI (fun l => nI (pOn N l)) (nLv N) - sumI (fun a => nI (aM N a)) (nAc N))) := by
  have hb := w1_b hw.1
  have h12 := nlv_12 hw.1
  unfold fX1_wordsGap
  have e : lpP (fX1_wordsGap_l1 (some b) (wc σ G J)) FUEL (0, 0) = some (sumI (fun l => nI (pOn N l)) (nLv N)) := by
    refine lpP_f (nLv N) (fun k => (sumI (fun l => nI (pOn N l)) k, nI k)) rfl (by omega) (fun k hk => ?_) ?_
    · unfold fX1_wordsGap_l1
      rw [bk_r9 h, bnP_1, lk_I (bk_L h), bnP_1, rb_l r]
      dsimp only
      rw [if_neg (nI_ge (by omega) (by omega)), c_wordsOn h hw.1 r hk, bnP_1, nI_a1]
      rfl
    · unfold fX1_wordsGap_l1
      rw [bk_r9 h, bnP_1, lk_I (bk_L h), bnP_1, rb_l r]
      dsimp only
      rw [if_pos (nI_le (Nat.le_refl _) (by omega))]
  generalize sumI (fun l => nI (pOn N l)) (nLv N) = S at e ⊢
  have e2 : lpP (fX1_wordsGap_l2 (some b) (wc σ G J)) FUEL (S, 0) = some (S - sumI (fun a => nI (aM N a)) (nAc N)) := by
    refine lpP_f (nAc N) (fun k => (S - sumI (fun a => nI (aM N a)) k, nI k)) (Prod.ext (Int32.sub_zero _) rfl) (by omega) (fun k hk => ?_) ?_
    · unfold fX1_wordsGap_l2
      have hs : sumI (fun a => nI (aM N a)) (k + 1) = sumI (fun a => nI (aM N a)) k + nI (aM N k) := rfl
      rw [bk_I h, bnP_1, rb_n r hw.1]
      dsimp only
      rw [if_neg (nI_ge (by omega) (by omega)), bk_r6 h, bnP_1, bk_aR h (by omega), bnP_1, bk_aI h (by omega), bnP_1, (rb_act r hk).2.2.2.2.2.2.1, (act_ok hw.1 hw.2.1 hk).1.2.2.1, nI_a1, hs, i_ss]
    · unfold fX1_wordsGap_l2
      rw [bk_I h, bnP_1, rb_n r hw.1]
      dsimp only
      rw [if_pos (nI_le (Nat.le_refl _) (by omega))]
  rw [bk_o h, bnP_1, e, bnP_1, e2, bnP_1]
theorem c_standingByClauses (h : BK σ b) (hw : WFN N) (r : RB G J b N) {a : Nat} (ha : a < nAc N) : fX8_standingByClauses (some (b + 3)) (nI (aF N a)) (nI (aM N a)) (wc σ G J) = some (stN N (aF N a) (aM N a)) := by
  have hl := act_le hw.1 hw.2.1 ha
  have hb := w1_b hw.1
  have cl := w3_cl hw.2.2.1 ha
  have ft := cl_ft cl
  have hm := (w2_b hw.2.1 ha).2.2.2.2
  unfold fX8_standingByClauses
  have e : lpP (fX8_standingByClauses_l1 (some (b + 3)) (nI (aF N a)) (nI (aM N a)) (wc σ G J)) FUEL (0, 0, 0, nI (aF N a)) = some (stN N (aF N a) (aM N a)) := by
    refine lpP_f (aM N a) (fun k => ((sbC N a k).1, (sbC N a k).2, nI (enr (cF N) (cT N) (aK N a) (aC N a) (aF N a + k)), nI (aF N a + k))) (by rw [Nat.add_zero, cl_enr0 cl]; rfl) (by omega) (fun k hk => ?_) ?_
    · unfold fX8_standingByClauses_l1
      have s1 := cov_ent ft (aF N a + k)
      have s2 := ent_succ ft (aF N a + k)
      have s3 : enr (cF N) (cT N) (aK N a) (aC N a) (aF N a + k + 1) ≤ aC N a := cntN_le _ _
      have kb := w3_kb hw.2.1 hw.1 ha
      dsimp only
      rw [nI_add, if_neg (nI_ge (by omega) (by omega)), sk_r2 (bk_S h), bnP_1, sk_a2 (bk_S h) (by omega), bnP_1, li_1, c_standingFrom h hw.1 r (by omega), bnP_1, sk_r3 (bk_S h), bnP_1, sk_a3 (bk_S h) (by omega), bnP_1, rb_op r ha (by omega) (by omega), rb_cs r ha (by omega) (by omega), nI_add, nI_add, ← s1, ← s2, nI_sub (Nat.le_add_left _ _), Nat.add_sub_cancel, stN_1]
      show _ = some (Sum.inl ((if enr (cF N) (cT N) (aK N a) (aC N a) (aF N a + k + 1) = 0 then ((sbC N a k).1 + ((sbC N a k).2 + stW N (aF N a + k)), (0 : Int32)) else ((sbC N a k).1, (sbC N a k).2 + stW N (aF N a + k))).1, (if enr (cF N) (cT N) (aK N a) (aC N a) (aF N a + k + 1) = 0 then ((sbC N a k).1 + ((sbC N a k).2 + stW N (aF N a + k)), (0 : Int32)) else ((sbC N a k).1, (sbC N a k).2 + stW N (aF N a + k))).2, nI (enr (cF N) (cT N) (aK N a) (aC N a) (aF N a + k + 1)), nI (aF N a + k + 1)))
      by_cases q : enr (cF N) (cT N) (aK N a) (aC N a) (aF N a + k + 1) = 0
      · rw [if_pos (by rw [q]; rfl), if_pos q]
      · rw [if_neg (nI_ne0 (by omega) (by omega)), if_neg q]
    · unfold fX8_standingByClauses_l1
      dsimp only
      rw [nI_add, if_pos (nI_le (Nat.le_refl _) (by omega)), ← sbC_sum]
      have z : (sbC N a (aM N a)).2 = 0 := by
        obtain ⟨k, hk⟩ : ∃ k, aM N a = k + 1 := ⟨aM N a - 1, by omega⟩
        rw [hk]
        unfold sbC
        rw [if_pos (cl_enrH cl (by omega))]
      rw [z, Int32.add_zero]
  rw [sk_o (bk_S h), bnP_1, e, bnP_1]
theorem c_standingGap (h : BK σ b) (hw : WFN N) (r : RB G J b N) : fX1_standingGap (some b) (wc σ G J) = some 0 := by
  have hb := w1_b hw.1
  unfold fX1_standingGap
  have e : lpP (fX1_standingGap_l1 (some b) (wc σ G J)) FUEL (0, 0) = some 0 := by
    refine lpP_f (nAc N) (fun k => ((0 : Int32), nI k)) rfl (by omega) (fun k hk => ?_) ?_
    · obtain ⟨p1, p2, p3, p4, p5⟩ := (act_ok hw.1 hw.2.1 hk).1
      have hr := rb_act r hk
      unfold fX1_standingGap_l1
      rw [bk_I h, bnP_1, rb_n r hw.1]
      dsimp only
      rw [if_neg (nI_ge (by omega) (by omega))]
      simp only [bk_r8 h, bk_r6 h, bnP_1, bk_aR h p1, bk_aI h p1, hr.2.2.2.2.2.1, hr.2.2.2.2.2.2.1, p2, p3]
      rw [c_standingByClauses h hw r hk, bnP_1, c_standingFrom h hw.1 r (act_le hw.1 hw.2.1 hk), bnP_1, if_pos rfl, nI_a1]
    · unfold fX1_standingGap_l1
      rw [bk_I h, bnP_1, rb_n r hw.1]
      dsimp only
      rw [if_pos (nI_le (Nat.le_refl _) (by omega))]
  rw [bk_o h, bnP_1, e, bnP_1]
theorem c_numbersGap (h : BK σ b) (hw : WFN N) (r : RB G J b N) : fX1_numbersGap (some b) (wc σ G J) = some 0 := by
  have hb := w1_b hw.1
  unfold fX1_numbersGap
  have e : lpP (fX1_numbersGap_l1 (some b) (wc σ G J)) FUEL (0, 0) = some 0 := by
    refine lpP_f (nAc N) (fun k => ((0 : Int32), nI k)) rfl (by omega) (fun k hk => ?_) ?_
    · unfold fX1_numbersGap_l1
      rw [bk_I h, bnP_1, rb_n r hw.1]
      dsimp only
      rw [if_neg (nI_ge (by omega) (by omega)), bk_r6 h, bnP_1, bk_aR h (by omega), bnP_1, bk_aI h (by omega), bnP_1, (rb_act r hk).1, nI_a1, if_pos rfl]
    · unfold fX1_numbersGap_l1
      rw [bk_I h, bnP_1, rb_n r hw.1]
      dsimp only
      rw [if_pos (nI_le (Nat.le_refl _) (by omega))]
  rw [bk_o h, bnP_1, e, bnP_1]
theorem c_fee (h : BK σ b) (hw : WFN N) (r : RB G J b N) {c : Nat} (hc : c < nCp N) : fX3_fee (some (b + 25 + c)) (wc σ G J) = some (3 - nI (oG N c)) := by
  have hb := w1_b hw.1
  unfold fX3_fee
  rw [bk_po h (by omega), bnP_1, bk_pI h (by omega), bnP_1, (r.2.2 c hc).2.1, (w4_c hw.2.2.2 hc).2.2]
theorem c_cashGap (h : BK σ b) (hw : WFN N) (r : RB G J b N) : fX1_cashGap (some b) (wc σ G J) = some (mab (N 7 - N 8 - sumI (fun a => N (9 + 9 * a + 4)) (nAc N) - sumI (fun c => 3 - nI (oG N c)) (nCp N))) := by
  have hb := w1_b hw.1
  have r7 : G b 4 = N 7 := r.1.2.2.2.2.1
  have r8 : G b 5 = N 8 := r.1.2.2.2.2.2.1
  unfold fX1_cashGap
  rw [bk_o h, bnP_1, bk_I h, bnP_1, bk_I h, bnP_1, r7, r8]
  generalize N 7 - N 8 = S
  have e : lpP (fX1_cashGap_l1 (some b) (wc σ G J)) FUEL (S, 0) = some (S - sumI (fun a => N (9 + 9 * a + 4)) (nAc N)) := by
    refine lpP_f (nAc N) (fun k => (S - sumI (fun a => N (9 + 9 * a + 4)) k, nI k)) (Prod.ext (Int32.sub_zero _) rfl) (by omega) (fun k hk => ?_) ?_
    · unfold fX1_cashGap_l1
      have hs : sumI (fun a => N (9 + 9 * a + 4)) (k + 1) = sumI (fun a => N (9 + 9 * a + 4)) k + N (9 + 9 * k + 4) := rfl
      rw [bk_I h, bnP_1, rb_n r hw.1]
      dsimp only
      rw [if_neg (nI_ge (by omega) (by omega)), bk_r6 h, bnP_1, bk_aR h (by omega), bnP_1, bk_aI h (by omega), bnP_1, (rb_act r hk).2.2.2.2.2.2.2, nI_a1, hs, i_ss]
    · unfold fX1_cashGap_l1
      rw [bk_I h, bnP_1, rb_n r hw.1]
      dsimp only
      rw [if_pos (nI_le (Nat.le_refl _) (by omega))]
  rw [e, bnP_1]
  generalize S - sumI (fun a => N (9 + 9 * a + 4)) (nAc N) = S2
  have e2 : lpP (fX1_cashGap_l2 (some b) (wc σ G J)) FUEL (S2, 0) = some (S2 - sumI (fun c => 3 - nI (oG N c)) (nCp N)) := by
    refine lpP_f (nCp N) (fun k => (S2 - sumI (fun c => 3 - nI (oG N c)) k, nI k)) (Prod.ext (Int32.sub_zero _) rfl) (by omega) (fun k hk => ?_) ?_
    · unfold fX1_cashGap_l2
      have hs : sumI (fun c => 3 - nI (oG N c)) (k + 1) = sumI (fun c => 3 - nI (oG N c)) k + (3 - nI (oG N k)) := rfl
      rw [bk_I h, bnP_1, rb_p r hw.1]
      dsimp only
      rw [if_neg (nI_ge (by omega) (by omega)), bk_r7 h, bnP_1, bk_pR h (by omega), bnP_1, c_fee h hw r hk, bnP_1, nI_a1, hs, i_ss]
    · unfold fX1_cashGap_l2
      rw [bk_I h, bnP_1, rb_p r hw.1]
      dsimp only
      rw [if_pos (nI_le (Nat.le_refl _) (by omega))]
  rw [e2, bnP_1]
theorem cq_gap (h : NK σ o b) (hwr : G o 4 ≠ 0 → WFN N ∧ RB G J b N) : fX9_gap (some o) (wc σ G J) = some (ansE 0 1 2 (decide (G o 4 ≠ 0)) true true (gapQ N)) := by
  have B := nk_B h
  unfold fX9_gap
  rw [nk_o h, bnP_1, c_requireBook h]
  by_cases q : G o 4 = 0
  · rw [if_pos q, bnX_e, decide_eq_false (fun e => e q)]
    rfl
  · obtain ⟨hw, r⟩ := hwr q
    rw [if_neg q, bnX_1, decide_eq_true q, nk_b h, bnP_1, c_wordsGap B hw r, bnP_1, bnP_1, c_standingGap B hw r, bnP_1, bnP_1, c_cashGap B hw r, bnP_1, bnP_1, c_numbersGap B hw r, bnP_1, Int32.add_zero, Int32.add_zero]
    rfl
end LQ10
