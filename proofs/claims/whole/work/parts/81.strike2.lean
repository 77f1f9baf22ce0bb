/-! THE PURE LEVEL, 41: STRIKE -/
section SK2
variable {σ : HpT} {G G1 : Nat → Nat → Int32} {J : Nat → Nat → Int64} {b bs ps tx : Nat} {P : Nat → Option Nat} {E : tE} {I T : tI} {N : Nat → Int32} {U : tU} {V : tV}
theorem bI_de (x : Int32) : (if x = 0 then (1 : Int32) else 0) = bI (decide (x = 0)) := by
  by_cases q : x = 0
  · rw [if_pos q, decide_eq_true q]
    rfl
  · rw [if_neg q, decide_eq_false q]
    rfl
theorem c_strikeWord (h : BK σ b) (hw : WFN N) (r : RB G J b N) (q : isO N) {i : Nat} (hi : i < aM N (nAc N - 1)) : fX1_strikeWord (some b) (nI i) (wc σ G J) = some (wc σ (up (cw G (b + 7) (stfG (opW N i) 1 (G (b + 7)))) (b + 15 + (nAc N - 1)) 4 (G (b + 15 + (nAc N - 1)) 4 + 1)) J) := by
  have ha : nAc N - 1 < nAc N := by have := q.1; omega
  obtain ⟨p1, p2, p3, p4, p5⟩ := (act_ok hw.1 hw.2.1 ha).1
  have hle := act_le hw.1 hw.2.1 ha
  have hb := w1_b hw.1
  have hr := rb_act r ha
  unfold fX1_strikeWord opW
  rw [bk_o h, bnP_1, c_openAct1 h hw.1 r q, bnP_1, if_neg (fun e => by cases e), if_neg (nI_lt0 (by omega)), bk_aI h p1, bnP_1, hr.2.2.2.2.2.2.1, p3, if_neg (nI_ge hi (by omega)), bk_r8 h, bnP_1, bk_aI h p1, bnP_1, hr.2.2.2.2.2.1, p2, nI_add, show (1 : Int32) = nI 1 from rfl, c_strikeFrom h hw.1 r (by omega), bnS_1, bk_aI h p1, bnP_1, cw_b (by omega), bk_aP h p1, bnP_1]
/-- the reference marks the open act -/
theorem m_marks {m : Nat} (h : MK σ m) {a : Nat} (ha : a < 10) : fX10_marks (some m) (nI a) (wi σ G) = some (wi σ (up G (m + 1) (9 + 9 * a + 3) (G (m + 1) (9 + 9 * a + 3) + 1))) := by
  unfold fX10_marks
  rw [mk_o h, bnP_1, li_3, m_ofAct h a 3 (by omega), bnP_1, m_putsAct h a 3 _ (by omega), bnP_1]
theorem m_openAct1g {m : Nat} {M : Nat → Int32} (h : MK σ m) (e3 : G (m + 1) 3 = nI (nAc M)) (h1 : 0 < nAc M) (h10 : nAc M < 11) (e1 : G (m + 1) (9 + 9 * (nAc M - 1) + 1) = 0) : fX10_openAct (some m) (wi σ G) = some (nI (nAc M - 1)) := by
  unfold fX10_openAct
  rw [mk_o h, bnP_1, mk_r1 h, bnP_1, li_3, mk_a1 h (by decide), bnP_1, e3, if_neg (nI_nle h1 (by omega)), bnP_1, mk_a1 h (by decide), bnP_1, e3, nI_m1 h1, li_1, m_ofAct h _ 1 (by omega), bnP_1, if_pos e1, bnP_1, mk_a1 h (by decide), bnP_1, e3, nI_s1 h1]
theorem m_strikes (h : MK σ 80) (hw : WFN N) (e : G 81 = N) (q : isO N) {i : Nat} (hi : i < aM N (nAc N - 1)) : fX10_strikes (some 80) (nI i) (wi σ G) = some (wi σ (cw G 81 (stkN N (opW N i) 1))) := by
  have ha : nAc N - 1 < nAc N := by have := q.1; omega
  have hle := act_le hw.1 hw.2.1 ha
  have hb := w1_b hw.1
  have ho : opW N i < 240 := by unfold opW; omega
  unfold fX10_strikes
  have hG : WFN (G (80 + 1)) := by rw [e]; exact hw
  have qG : isO (G (80 + 1)) := by rw [e]; exact q
  rw [mk_o h, bnP_1, m_openWord h hG qG, bnP_1, show G (80 + 1) = N from e, li_2, m_putsWord h _ 2 1 (by omega), bnP_1]
  have e3 : up G (80 + 1) (127 + 13 * opW N i + 2) 1 (80 + 1) 3 = nI (nAc N) := by
    rw [up_k (by omega), show G (80 + 1) = N from e]
    exact (w1_e hw.1).2.1
  have e1 : up G (80 + 1) (127 + 13 * opW N i + 2) 1 (80 + 1) (9 + 9 * (nAc N - 1) + 1) = 0 := by
    rw [up_k (by omega), show G (80 + 1) = N from e]
    exact q.2
  rw [m_openAct1g h e3 q.1 (by omega) e1, bnP_1, m_marks h (by omega), bnP_1, up_k (by omega), show G (80 + 1) = N from e]
  congr 2
  rw [show (80 + 1 : Nat) = 81 from rfl, up_is, up_is, cw_cw, cw_a, e]
  congr 1
  funext j
  unfold stkN u1
  by_cases z : j = 9 + 9 * (nAc N - 1) + 3
  · rw [if_pos z, if_neg (by omega), if_pos (by omega), z]
  · rw [if_neg z]
    by_cases z2 : j = 127 + 13 * opW N i + 2
    · rw [if_pos z2, if_pos (by omega)]
    · rw [if_neg z2, if_neg (by omega), if_neg (by omega)]
theorem stk_st {f n : Nat} (hw : WFN N) (q : isO N) (hf : f + n ≤ nWd N) : isO (stkN N f n) ∧ nAc (stkN N f n) = nAc N ∧ aF (stkN N f n) (nAc N - 1) = aF N (nAc N - 1) ∧ aM (stkN N f n) (nAc N - 1) = aM N (nAc N - 1) := by
  have hb := w1_b hw.1
  have s := stk_s (f := f) (n := n) hw hf
  have sn := sm_n s
  have ea := sm_a s (a := nAc N - 1) (by have := q.1; omega)
  refine ⟨⟨by rw [sn.2.1]; exact q.1, ?_⟩, sn.2.1, ea.1, ea.2.1⟩
  rw [sn.2.1, stk_o (by omega) (by omega)]
  exact q.2
/-- case 38: STRIKE -/
theorem sc38 (hC : CR σ G J b bs ps P tx E I N U V T) (hM : MR σ G E I N U V T) (hA : AW E I N U V T) (hD : DK σ) (hb : hN σ + 40 < BIG) {Lx : Nat} {xs : Nat → Int32} {v5 v : Int32} (h1 : sld Lx xs (v5 + 1) = some v) (v4 : Option Nat) : STEP σ (fL_c38 Lx xs (some 0) (some 80) (some 89) v4 v5 (wc σ G J)) := by
  have lo := lo_of hC hM hA hD
  have e6 := hM.2.1.1
  have e4 := hC.2.1.1
  unfold fL_c38 fL_strike
  simp only [h1, bnP_1]
  have ms : ∀ (S : HpT) (G1 : Nat → Nat → Int32), MR S G1 E I N U V T → fX10_strike (some 80) v (wi S G1) = if (decide (E.1 ≠ 0) && decide (strQ N v = 0)) = true then bnP (fX10_remembers (some 80) (wi S (up G1 80 0 0))) (fun s17 => bnP (fX10_strikes (some 80) v s17) (fun s20 => bnP (fX10_openAct (some 80) s20) (fun x21 => bnP (fX10_standing (some 80) x21 s20) (fun x23 => some (x23, s20))))) else some (0, wi S (up G1 80 0 (thr (decide (E.1 ≠ 0)) (decide (strQ N v = 0)) true))) := by
    intro S G1 hM1
    have mk := hM1.1
    have f6 := hM1.2.1.1
    have f81 := hM1.2.2.2.1.1
    unfold fX10_strike
    rw [mk_o mk, bnP_1, mk_I mk, bnP_1, bnP_1]
    have hj : (if G1 80 6 = 0 then some ((some 80 : Option Nat), G1 80 6, (0 : Int32)) else bnP (fX10_whyStrike (some 80) v (wi S G1)) (fun x10 => (if x10 = 0 then some (some 80, G1 80 6, 1) else some (some 80, G1 80 6, 0)))) = some (some 80, G1 80 6, bI (decide (G1 80 6 ≠ 0) && decide (strQ N v = 0))) := by
      by_cases q : G1 80 6 = 0
      · rw [if_pos q, decide_eq_false (fun e => e q)]
        rfl
      · rw [if_neg q, m_whyStrike mk (by rw [show G1 (80 + 1) = N from f81]; exact hA.2.1 (by rw [← f6]; exact q)), bnP_1, decide_eq_true q, show G1 (80 + 1) = N from f81]
        by_cases z : strQ N v = 0
        · rw [if_pos z, decide_eq_true z]
          rfl
        · rw [if_neg z, decide_eq_false z]
          rfl
    rw [hj, bnP_1]
    dsimp only
    rw [m_may2 mk (by rw [f6]; exact hA.1.1), bnS_1, f6, thr_pq]
    cases e0 : decide (E.1 ≠ 0)
    · rfl
    · cases e1 : decide (strQ N v = 0)
      · rfl
      · rfl
  by_cases qE : E.1 = 0
  · refine chg_err (r := ansE 0 2 2 false true true (0 : Int32)) (t := thr (decide (E.1 ≠ 0)) (decide (strQ N v = 0)) true) (i := 1) (j := 6) hC hM hA hD (qg_rf P G) ?_ (fun J' => ?_) ?_ (by decide) (by decide)
    · unfold fX9_strike
      rw [nk_o lo.1, bnP_1, c_requireBook lo.1, if_pos (by rw [e4]; exact qE), bnXA_e]
      rfl
    · have := ms (wc σ G J') G hM
      rw [decide_eq_false (fun e => e qE), Bool.false_and, if_neg (by decide)] at this
      rw [decide_eq_false (fun e => e qE)]
      exact this
    · rw [decide_eq_false (fun e => e qE)]
      exact ⟨show (1 : Int32) ≠ 0 by decide, rfl⟩
  · obtain ⟨hw, r⟩ := lo.2.2.2.2.2 (by rw [e4]; exact qE)
    rw [show G (80 + 1) = N from hM.2.2.2.1.1] at hw r
    have B := nk_B lo.1
    by_cases z : strQ N v = 0
    · obtain ⟨qo, i, rfl, hi, hs⟩ := strQ_t hw.1 hw.2.1 (Or.inl z)
      have ha : nAc N - 1 < nAc N := by have := qo.1; omega
      have hle := act_le hw.1 hw.2.1 ha
      have hof : opW N i + 1 ≤ nWd N := by unfold opW; omega
      have st := stk_st (f := opW N i) (n := 1) hw qo hof
      have wf := stk_wf (f := opW N i) (n := 1) hw hof
      refine chg (x := stN (stkN N (opW N i) 1) (aF N (nAc N - 1)) (aM N (nAc N - 1))) (N' := stkN N (opW N i) 1) false hC hM hA hD qE hb wf (fun j hj => ?_) ?_ ?_
      · rw [stk_o (by have := w1_b hw.1; omega) (by have := w1_b hw.1; omega)]
        exact hM.2.2.2.1.2 j hj
      · intro σ' G' J' ps' P' ii jj eR hC'
        have nk' := cr_nk hC'
        have B' := nk_B nk'
        have r' := hC'.2.2.2.1 qE
        have hbb := cr_b hC'
        have hG2 : RB (up (cw G' (b + 7) (stfG (opW N i) 1 (G' (b + 7)))) (b + 15 + (nAc N - 1)) 4 (G' (b + 15 + (nAc N - 1)) 4 + 1)) J' b (stkN N (opW N i) 1) := by
          refine stk_rb hw qo (by unfold opW; omega) (by unfold opW; omega) r' ?_ ?_ (fun a h1 h2 => ?_)
          · rw [up_a (by omega), cw_a]
          · rw [up_is, cw_a, cw_b (by omega)]
          · rw [up_a h2, cw_b h1]
        refine ⟨_, J', ?_, fun a ha => ?_, fun a _ => rfl, hG2⟩
        · unfold fX9_strike
          rw [nk_o lo.1, bnP_1, c_requireBook lo.1, if_neg (by rw [e4]; exact qE), bnXA_1, nk_b lo.1, bnP_1, c_strikeReason B hw r, bnP_1, if_pos z, eR, bnA_ok, nk_b nk', bnP_1, c_strikeWord B' hw r' qo hi, bnP_1, nk_b nk', bnP_1, c_openStanding B' wf hG2 st.1, bnP_1, addC_1, st.2.1, st.2.2.1, st.2.2.2]
          rfl
        · have hb10 := (w1_b hw.1).2.1
          rw [up_a (by omega), cw_b (by omega)]
          rfl
      · intro S G1 G1' hM1 eR e81 _ _
        have mk := hM1.1
        rw [ms S G1 hM1, decide_eq_true qE, decide_eq_true z, if_pos (show (true && true) = true from rfl), eR, bnP_1, m_strikes mk hw e81 qo hi, bnP_1]
        have e : cw G1' 81 (stkN N (opW N i) 1) (80 + 1) = stkN N (opW N i) 1 := cw_a _ _ _
        rw [m_openAct1 mk (by rw [e]; exact wf.1) (by rw [e]; exact st.1), bnP_1, m_standing mk (act_ok (by rw [e]; exact wf.1) (by rw [e]; exact wf.2.1) (by rw [e, st.2.1]; omega)).1, bnP_1, e, st.2.1, st.2.2.1, st.2.2.2]
        rfl
    · refine chg_err (r := ansE 0 2 2 true false true (0 : Int32)) (t := thr (decide (E.1 ≠ 0)) (decide (strQ N v = 0)) true) (i := 1) (j := 6) hC hM hA hD (qg_rf P G) ?_ (fun J' => ?_) ?_ (by decide) (by decide)
      · unfold fX9_strike
        rw [nk_o lo.1, bnP_1, c_requireBook lo.1, if_neg (by rw [e4]; exact qE), bnXA_1, nk_b lo.1, bnP_1, c_strikeReason B hw r, bnP_1, if_neg z]
        rfl
      · have := ms (wc σ G J') G hM
        rw [decide_eq_false z, Bool.and_false, if_neg (by decide)] at this
        rw [decide_eq_false z]
        exact this
      · rw [decide_eq_false z, decide_eq_true qE]
        exact ⟨show (2 : Int32) ≠ 0 by decide, rfl⟩
end SK2
