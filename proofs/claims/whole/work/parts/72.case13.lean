/-! THE PURE LEVEL, 32: STANDINGIF; a turn of the law -/
/-- the text's room -/
def capO (σ : HpT) : Nat := match hR σ 78 0 with
  | some t => hZ σ t
  | none => 0
/-- a turn of the law goes well -/
def STEP (σ : HpT) (r : AT Unit) : Prop := ∃ σ' G' J' a c, r = some (.ok (), wc σ' G' J', a, c) ∧ INV σ' G' J' ∧ hN σ' + capO σ ≤ hN σ + 40 + capO σ' ∧ a + capO σ ≤ 40 + capO σ' ∧ c + 2 * capO σ ≤ 4000 + 2 * capO σ'
/-- the clause that a word of the open act is in: its number and 1, 0 if none -/
def opW (N : Nat → Int32) (i : Nat) : Nat := aF N (nAc N - 1) + i
/-- is a word, or a clause, of the open act told -/
def askB (N : Nat → Int32) (v cl : Int32) : Bool := (decide (strQ N v = 0) || decide (strQ N v = 3)) && (decide (cl = 0) || decide (0 < wW N (opW N v.toNatClampNeg)))
def siQ (N : Nat → Int32) (i : Nat) (cl : Int32) : Int32 := stN N (aF N (nAc N - 1)) (aM N (nAc N - 1)) - (if cl = 0 then bI (skN N (opW N i)) else nI (cntN (fun k => skN N (cF N (wW N (opW N i) - 1) + k)) (cT N (wW N (opW N i) - 1) - cF N (wW N (opW N i) - 1) + 1)))
section LQ13
variable {σ : HpT} {G G' : Nat → Nat → Int32} {J J' : Nat → Nat → Int64} {o b m d bs ps tx : Nat} {P : Nat → Option Nat} {E : tE} {I T : tI} {N : Nat → Int32} {U : tU} {V : tV}
theorem step_q {r : AT Unit} {y : Int64} {a c : Nat} (hC : CR σ G J b bs ps P tx E I N U V T) (hM : MR σ G E I N U V T) (hA : AW E I N U V T) (hD : DK σ) (e : r = some (.ok (), wc σ G' (upJ J 89 0 y), a, c)) (q : QG P G G') (ha : a ≤ 1) (hc : c ≤ 6) : STEP σ r :=
  ⟨σ, G', upJ J 89 0 y, a, c, e, inv_q hC hM hA hD q (fun a ha => upJ_a ha), by omega, by omega, by omega⟩
theorem scr_13 (hC : CR σ G J b bs ps P tx E I N U V T) : SCR P (b + 13) := Or.inr (Or.inr ⟨0, b, by decide, hC.1.2.2.2.1, by omega⟩)
theorem scr_14 (hC : CR σ G J b bs ps P tx E I N U V T) : SCR P (b + 14) := Or.inr (Or.inr ⟨0, b, by decide, hC.1.2.2.2.1, by omega⟩)
theorem cr_b (hC : CR σ G J b bs ps P tx E I N U V T) : b = 2 ∨ b = 35 ∨ 91 ≤ b := (hC.1.2.2.2.2.2.1 0 b (by decide) hC.1.2.2.2.1).2.1
theorem strQ_t (w1 : W1 N) (w2 : W2 N) {v : Int32} (e : strQ N v = 0 ∨ strQ N v = 3) : isO N ∧ ∃ i, v = nI i ∧ i < aM N (nAc N - 1) ∧ (strQ N v = if skN N (opW N i) = true then 0 else 3) := by
  by_cases q : isO N
  · have q' : 0 < nAc N ∧ N (9 + 9 * (nAc N - 1) + 1) = 0 := q
    refine ⟨q, ?_⟩
    obtain ⟨p1, p2, p3, p4, p5⟩ := (act_ok w1 w2 (a := nAc N - 1) (by have := q'.1; omega)).1
    cases z : inR v (nI 0) (nI (aM N (nAc N - 1) - 1))
    · exfalso
      have : strQ N v = 2 := by
        unfold strQ
        rw [if_pos q', z]
        rfl
      rw [this] at e
      rcases e with e | e <;> cases e
    · obtain ⟨i, rfl, -, hi⟩ := inR_t (by decide) (by omega) z
      refine ⟨i, rfl, by omega, ?_⟩
      unfold strQ opW
      rw [if_pos q', z, if_pos rfl, nI_clamp (by omega)]
  · exfalso
    have : strQ N v = 1 := by
      unfold strQ
      exact if_neg q
    rw [this] at e
    rcases e with e | e <;> cases e
theorem m_openWord (h : MK σ m) (hw : WFN (G (m + 1))) (q : isO (G (m + 1))) (i : Nat) : fX10_openWord (some m) (nI i) (wi σ G) = some (nI (opW (G (m + 1)) i)) := by
  obtain ⟨p1, p2, p3, p4, p5⟩ := (act_ok hw.1 hw.2.1 (a := nAc (G (m + 1)) - 1) (by have := q.1; omega)).1
  unfold fX10_openWord opW
  rw [mk_o h, bnP_1, m_openAct1 h hw.1 q, bnP_1, li_5, m_ofAct h _ 5 (by omega), bnP_1, p2, nI_add]
theorem c_seekA1 (h : BK σ b) (hw : WFN N) (r : RB G J b N) (q : isO N) {i p : Nat} (hi : i < aM N (nAc N - 1)) (hp : wW N (opW N i) = p + 1) : ∃ f, fX1_seekClauseAround (some b) (nI i) (wc σ G J) = some (true, wc σ (cw G (b + 13) f) J) ∧ f 0 = nI (cF N p) ∧ f 1 = nI (cT N p - cF N p + 1) ∧ cF N p ≤ opW N i ∧ opW N i ≤ cT N p ∧ aF N (nAc N - 1) ≤ cF N p ∧ cT N p < aF N (nAc N - 1) + aM N (nAc N - 1) := by
  have ha : nAc N - 1 < nAc N := by have := q.1; omega
  obtain ⟨p1, p2, p3, p4, p5⟩ := (act_ok hw.1 hw.2.1 ha).1
  have hr := rb_act r ha
  unfold opW at *
  obtain ⟨-, -, z⟩ := w3_w hw.2.2.1 ha (g := aF N (nAc N - 1) + i) (by omega) (by omega)
  rcases z with ⟨z, -⟩ | ⟨p', z1, z2, z3, z4, z5, z6⟩
  · omega
  · obtain rfl : p' = p := by omega
    obtain ⟨f, hf, f0, f1, -, -⟩ := c_seek1 h hw r ha z2 z3
    have cl := w3_cl hw.2.2.1 ha p' z2 z3
    refine ⟨f, ?_, f0, f1, z4, z5, cl.1, cl.2.2.1⟩
    unfold fX1_seekClauseAround
    rw [bk_o h, bnP_1, c_openAct1 h hw.1 r q, bnP_1, if_neg (fun e => by cases e), if_neg (nI_lt0 (by omega)), bk_aI h p1, bnP_1, hr.2.2.2.2.2.2.1, p3, if_pos (nI_lt hi (by omega)), bk_r10 h, bnP_1, bk_r8 h, bnP_1, bnP_1, bk_aI h p1, bnP_1, bnP_1, hr.2.2.2.2.2.1, p2, nI_add, c_innermostOf h hw r ha (by omega) (by omega), bnP_1]
    unfold inQ
    rw [if_neg (by omega), hp, Nat.add_sub_cancel, hf, bnS_1]
theorem c_seekA0 (h : BK σ b) (hw : WFN N) (r : RB G J b N) {v : Int32} (hv : ¬ isO N ∨ (isO N ∧ (inR v (nI 0) (nI (aM N (nAc N - 1) - 1)) = false ∨ wW N (opW N v.toNatClampNeg) = 0))) : fX1_seekClauseAround (some b) v (wc σ G J) = some (false, wc σ G J) := by
  unfold fX1_seekClauseAround
  rcases hv with q | ⟨q, hv⟩
  · rw [bk_o h, bnP_1, c_openAct0 h hw.1 r q, bnP_1, if_pos rfl]
  · have ha : nAc N - 1 < nAc N := by have := q.1; omega
    obtain ⟨p1, p2, p3, p4, p5⟩ := (act_ok hw.1 hw.2.1 ha).1
    have hr := rb_act r ha
    rw [bk_o h, bnP_1, c_openAct1 h hw.1 r q, bnP_1, if_neg (fun e => by cases e)]
    by_cases z : v < 0
    · rw [if_pos z]
    · obtain ⟨i, hi, rfl⟩ := nI_of z
      rw [if_neg z, bk_aI h p1, bnP_1, hr.2.2.2.2.2.2.1, p3]
      by_cases z2 : i < aM N (nAc N - 1)
      · rw [if_pos (nI_lt z2 (by omega))]
        rcases hv with hv | hv
        · rw [inR_nI hi (by decide) (by omega), decide_eq_true (Nat.zero_le i), decide_eq_true (show i ≤ aM N (nAc N - 1) - 1 by omega)] at hv
          cases hv
        · rw [nI_clamp hi] at hv
          unfold opW at hv
          rw [bk_r10 h, bnP_1, bk_r8 h, bnP_1, bnP_1, bk_aI h p1, bnP_1, bnP_1, hr.2.2.2.2.2.1, p2, nI_add, c_innermostOf h hw r ha (by omega) (by omega), bnP_1]
          unfold inQ
          rw [if_pos hv, c_seek0 h hw r ha (Or.inl (show nO < 0 by decide)), bnS_1]
      · rw [if_neg (nI_nlt (by omega) hi)]
theorem cq_standingIf (h : NK σ o b) (hwr : G o 4 ≠ 0 → WFN N ∧ RB G J b N) (v cl : Int32) : ∃ i j f, fX9_standingIf (some o) v cl (wc σ G J) = some (ansE 0 2 2 (decide (G o 4 ≠ 0)) (askB N v cl) true (siQ N v.toNatClampNeg cl), wc σ (cw G (b + 13) f) J, i, j) ∧ i ≤ 1 ∧ j ≤ 6 := by
  have B := nk_B h
  unfold fX9_standingIf
  rw [nk_o h, bnP_1, c_requireBook h]
  by_cases q : G o 4 = 0
  · refine ⟨1, 6, G (b + 13), ?_, by decide, by decide⟩
    rw [if_pos q, bnXA_e, decide_eq_false (fun e => e q), cw_self]
    rfl
  · obtain ⟨hw, r⟩ := hwr q
    have hb := w1_b hw.1
    rw [if_neg q, bnXA_1, decide_eq_true q, nk_b h, bnP_1, c_strikeReason B hw r, bnP_1]
    by_cases q1 : strQ N v = 0 ∨ strQ N v = 3
    · obtain ⟨qo, i, rfl, hi, hs⟩ := strQ_t hw.1 hw.2.1 q1
      have ha : nAc N - 1 < nAc N := by have := qo.1; omega
      obtain ⟨p1, p2, p3, p4, p5⟩ := (act_ok hw.1 hw.2.1 ha).1
      have hle := act_le hw.1 hw.2.1 ha
      have n1 : ¬ strQ N (nI i) = 1 := fun e => by rw [e] at q1; rcases q1 with q1 | q1 <;> cases q1
      have n2 : ¬ strQ N (nI i) = 2 := fun e => by rw [e] at q1; rcases q1 with q1 | q1 <;> cases q1
      rw [if_neg n1, if_neg n2]
      have ask : askB N (nI i) cl = (decide (cl = 0) || decide (0 < wW N (opW N i))) := by
        unfold askB
        rw [nI_clamp (by omega)]
        rcases q1 with q1 | q1
        · rw [decide_eq_true q1, Bool.true_or, Bool.true_and]
        · rw [decide_eq_true q1, Bool.or_true, Bool.true_and]
      rw [ask, nI_clamp (by omega)]
      by_cases c0 : cl = 0
      · refine ⟨0, 0, G (b + 13), ?_, by decide, by decide⟩
        rw [if_pos c0, decide_eq_true c0, Bool.true_or, cw_self]
        unfold siQ
        rw [if_pos c0, hs]
        cases skN N (opW N i)
        · rw [if_pos (by decide), bnP_1, c_openStanding B hw r qo, bnP_1]
          show _ = some (Except.ok (_ - 0), _, _, _)
          rw [Int32.sub_zero]
        · rw [if_neg (by decide), bnP_1, c_openStanding B hw r qo, bnP_1]
          rfl
      · rw [if_neg c0, decide_eq_false c0, Bool.false_or]
        by_cases z : 0 < wW N (opW N i)
        · obtain ⟨p, hp⟩ : ∃ p, wW N (opW N i) = p + 1 := ⟨wW N (opW N i) - 1, by omega⟩
          obtain ⟨f, hf, f0, f1, g1, g2, g3, g4⟩ := c_seekA1 B hw r qo hi hp
          have r' := rb_s13 hw.1 r f
          have cG : ∀ k, gI (wc σ (cw G (b + 13) f) J) (some (b + 13)) 2 k = some (f k) := fun k => by
            rw [bk_cI B, cw_a]
          refine ⟨0, 0, f, ?_, by decide, by decide⟩
          rw [bnP_1, hf, bnS_1, if_pos rfl, nk_b h, bnP_1, c_openStanding B hw r' qo, bnP_1, bnP_1, bk_r8 B, bnP_1, bnP_1, bk_r10 B, bnP_1, cG, bnP_1, bnP_1, bk_r10 B, bnP_1, cG, bnP_1, f0, f1, c_unstruck B hw.1 r' (by omega), bnP_1, decide_eq_true z]
          unfold siQ
          rw [if_neg c0, hp, Nat.add_sub_cancel]
          rfl
        · refine ⟨1, 6, G (b + 13), ?_, by decide, by decide⟩
          rw [bnP_1, c_seekA0 B hw r (Or.inr ⟨qo, Or.inr (by rw [nI_clamp (by omega)]; omega)⟩), bnS_1, decide_eq_false z, cw_self]
          rfl
    · have ask : askB N v cl = false := by
        unfold askB
        rw [decide_eq_false (fun e => q1 (Or.inl e)), decide_eq_false (fun e => q1 (Or.inr e))]
        rfl
      refine ⟨1, 6, G (b + 13), ?_, by decide, by decide⟩
      have n12 : strQ N v = 1 ∨ strQ N v = 2 := by
        unfold strQ at q1 ⊢
        by_cases y1 : 0 < nAc N ∧ N (9 + 9 * (nAc N - 1) + 1) = 0
        · rw [if_pos y1] at q1 ⊢
          cases y2 : inR v (nI 0) (nI (aM N (nAc N - 1) - 1))
          · exact Or.inr rfl
          · rw [y2, if_pos rfl] at q1
            exfalso
            apply q1
            cases skN N (aF N (nAc N - 1) + v.toNatClampNeg)
            · exact Or.inr rfl
            · exact Or.inl rfl
        · rw [if_neg y1]
          exact Or.inl rfl
      rw [ask, cw_self]
      rcases n12 with n12 | n12
      · rw [if_pos n12]
        rfl
      · rw [if_neg (by rw [n12]; decide), if_pos n12]
        rfl
theorem m_isAsked (h : MK σ m) (hw : WFN (G (m + 1))) (v cl : Int32) : fX10_isAsked (some m) v cl (wi σ G) = some (askB (G (m + 1)) v cl) := by
  unfold fX10_isAsked
  rw [mk_o h, bnP_1, m_whyStrike h hw, bnP_1, m_in, bnP_1]
  by_cases q1 : strQ (G (m + 1)) v = 0 ∨ strQ (G (m + 1)) v = 3
  · obtain ⟨qo, i, rfl, hi, hs⟩ := strQ_t hw.1 hw.2.1 q1
    have ha : nAc (G (m + 1)) - 1 < nAc (G (m + 1)) := by have := qo.1; omega
    obtain ⟨p1, p2, p3, p4, p5⟩ := (act_ok hw.1 hw.2.1 ha).1
    have hle := act_le hw.1 hw.2.1 ha
    have e : inR (strQ (G (m + 1)) (nI i) - strQ (G (m + 1)) (nI i) / 3 * 3) 0 0 = true := by
      rcases q1 with q1 | q1
      · rw [q1]
        decide
      · rw [q1]
        decide
    have ask : askB (G (m + 1)) (nI i) cl = (decide (cl = 0) || decide (0 < wW (G (m + 1)) (opW (G (m + 1)) i))) := by
      unfold askB
      rw [nI_clamp (by omega)]
      rcases q1 with q1 | q1
      · rw [decide_eq_true q1, Bool.true_or, Bool.true_and]
      · rw [decide_eq_true q1, Bool.or_true, Bool.true_and]
    rw [e, if_pos rfl, ask]
    by_cases c0 : cl = 0
    · rw [if_pos c0, decide_eq_true c0]
      rfl
    · rw [if_neg c0, decide_eq_false c0, Bool.false_or, m_openWord h hw qo, bnP_1]
      have hco : fX10_clauseOf (some m) (nI (opW (G (m + 1)) i)) (wi σ G) = some (coQ (G (m + 1)) (opW (G (m + 1)) i)) := by
        unfold opW
        exact m_clauseOf h hw ha (by omega) (by omega)
      have hwb : wW (G (m + 1)) (opW (G (m + 1)) i) < 961 := by
        unfold opW
        exact (w3_w hw.2.2.1 ha (by omega) (by omega)).2.1
      rw [hco, bnP_1]
      unfold coQ
      by_cases z : wW (G (m + 1)) (opW (G (m + 1)) i) = 0
      · rw [if_pos z, if_pos (show nO = -1 from rfl), decide_eq_false (by omega)]
      · rw [if_neg z, if_neg (show ¬ nI (wW (G (m + 1)) (opW (G (m + 1)) i) - 1) = -1 from nI_nO (by omega)), decide_eq_true (by omega)]
  · have ask : askB (G (m + 1)) v cl = false := by
      unfold askB
      rw [decide_eq_false (fun e => q1 (Or.inl e)), decide_eq_false (fun e => q1 (Or.inr e))]
      rfl
    have e : inR (strQ (G (m + 1)) v - strQ (G (m + 1)) v / 3 * 3) 0 0 = false := by
      unfold strQ at q1 ⊢
      by_cases y1 : 0 < nAc (G (m + 1)) ∧ G (m + 1) (9 + 9 * (nAc (G (m + 1)) - 1) + 1) = 0
      · rw [if_pos y1] at q1 ⊢
        cases y2 : inR v (nI 0) (nI (aM (G (m + 1)) (nAc (G (m + 1)) - 1) - 1))
        · rw [if_neg (by decide)]
          decide
        · rw [y2, if_pos rfl] at q1
          exfalso
          apply q1
          cases skN (G (m + 1)) (aF (G (m + 1)) (nAc (G (m + 1)) - 1) + v.toNatClampNeg)
          · exact Or.inr rfl
          · exact Or.inl rfl
      · rw [if_neg y1]
        decide
    rw [e, ask, if_neg (by decide)]
theorem askB_t (w1 : W1 N) (w2 : W2 N) {v cl : Int32} (e : askB N v cl = true) : isO N ∧ ∃ i, v = nI i ∧ i < aM N (nAc N - 1) ∧ (cl = 0 ∨ 0 < wW N (opW N i)) := by
  unfold askB at e
  rw [Bool.and_eq_true, Bool.or_eq_true, Bool.or_eq_true, decide_eq_true_eq, decide_eq_true_eq, decide_eq_true_eq, decide_eq_true_eq] at e
  obtain ⟨q, i, rfl, hi, -⟩ := strQ_t w1 w2 e.1
  have := (w2_b w2 (a := nAc N - 1) (by have := q.1; omega)).2.1
  rw [nI_clamp (by omega)] at e
  exact ⟨q, i, rfl, hi, e.2⟩
theorem mq_standingIf (h : MK σ m) (hw : G m 6 ≠ 0 → WFN (G (m + 1))) (hr : G m 6 = 0 ∨ G m 6 = 1) (v cl : Int32) : fX10_standingIf (some m) v cl (wi σ G) = some (if (decide (G m 6 ≠ 0) && askB (G (m + 1)) v cl) = true then siQ (G (m + 1)) v.toNatClampNeg cl else 0, wi σ (up G m 0 (thr (decide (G m 6 ≠ 0)) (askB (G (m + 1)) v cl) true))) := by
  unfold fX10_standingIf
  rw [mk_o h, bnP_1, mk_I h, bnP_1, bnP_1]
  have hj : (if G m 6 = 0 then some ((some m : Option Nat), G m 6, (0 : Int32)) else bnP (fX10_isAsked (some m) v cl (wi σ G)) (fun x10 => (if x10 = true then some (some m, G m 6, 1) else some (some m, G m 6, 0)))) = some (some m, G m 6, bI (decide (G m 6 ≠ 0) && askB (G (m + 1)) v cl)) := by
    by_cases q : G m 6 = 0
    · rw [if_pos q, decide_eq_false (fun e => e q)]
      rfl
    · rw [if_neg q, m_isAsked h (hw q), bnP_1, decide_eq_true q]
      cases askB (G (m + 1)) v cl <;> rfl
  rw [hj, bnP_1]
  dsimp only
  rw [m_may2 h hr, bnS_1, thr_pq]
  clear hj
  cases e : decide (G m 6 ≠ 0)
  · rw [Bool.false_and, Bool.false_and]
    rfl
  · have q : G m 6 ≠ 0 := of_decide_eq_true e
    rw [Bool.true_and, Bool.true_and]
    have hw := hw q
    cases e1 : askB (G (m + 1)) v cl
    · rfl
    · rw [if_pos rfl, if_pos rfl]
      obtain ⟨qo, i, rfl, hi, hz⟩ := askB_t hw.1 hw.2.1 e1
      clear e1
      generalize hG : up G m 0 (thr true true true) = G'
      have eG : G' (m + 1) = G (m + 1) := by rw [← hG]; exact up_a (by omega)
      rw [← eG] at hw qo hi hz ⊢
      clear hG
      have ha : nAc (G' (m + 1)) - 1 < nAc (G' (m + 1)) := by have := qo.1; omega
      have ok := (act_ok hw.1 hw.2.1 ha).1
      obtain ⟨p1, p2, p3, p4, p5⟩ := id ok
      have hle := act_le hw.1 hw.2.1 ha
      have hb := w1_b hw.1
      unfold fX10_standingWithout
      rw [mk_o h, bnP_1, m_openWord h hw qo, bnP_1, m_openAct1 h hw.1 qo, bnP_1, m_standing h ok, bnP_1, nI_clamp (by omega)]
      have hg : opW (G' (m + 1)) i < 240 := by
        unfold opW
        omega
      unfold siQ
      by_cases c0 : cl = 0
      · rw [if_pos c0, if_pos c0, m_stands h (by omega), bnP_1, m_one, bnP_1, bnP_1]
      · rw [if_neg c0, if_neg c0]
        have hz : 0 < wW (G' (m + 1)) (opW (G' (m + 1)) i) := by
          rcases hz with hz | hz
          · exact absurd hz c0
          · exact hz
        have hco : fX10_clauseOf (some m) (nI (opW (G' (m + 1)) i)) (wi σ G') = some (coQ (G' (m + 1)) (opW (G' (m + 1)) i)) := by
          unfold opW
          exact m_clauseOf h hw ha (by omega) (by omega)
        have hwx := w3_w hw.2.2.1 ha (g := aF (G' (m + 1)) (nAc (G' (m + 1)) - 1) + i) (by omega) (by omega)
        obtain ⟨-, -, hwx⟩ := hwx
        rcases hwx with ⟨z, -⟩ | ⟨p, z1, z2, z3, z4, z5, -⟩
        · unfold opW at hz
          omega
        · have z1 : wW (G' (m + 1)) (opW (G' (m + 1)) i) = p + 1 := z1
          have kb := w3_kb hw.2.1 hw.1 ha
          obtain ⟨i0, i1, i2, -⟩ := (hw.2.2.1 _ ha).1 p z2 z3
          have j0 : G' (m + 1) (3247 + 3 * p) = nI (cF (G' (m + 1)) p) := i0.1
          have j1 : G' (m + 1) (3247 + 3 * p + 1) = nI (cT (G' (m + 1)) p) := i1.1
          obtain ⟨c1, c2, c3, -, -⟩ := w3_cl hw.2.2.1 ha p z2 z3
          have e3 := m_standingWritten (G := G') h (f := cF (G' (m + 1)) p) (n := cT (G' (m + 1)) p - cF (G' (m + 1)) p + 1) (by omega) (by omega)
          rw [show cF (G' (m + 1)) p + (cT (G' (m + 1)) p - cF (G' (m + 1)) p + 1) - 1 = cT (G' (m + 1)) p by omega] at e3
          rw [hco, bnP_1]
          unfold coQ
          rw [if_neg (by omega), z1, Nat.add_sub_cancel, show fX10_ofClause (some m) (nI p) 0 (wi σ G') = some (G' (m + 1) (3247 + 3 * p)) from m_ofClause h p 0 (by omega), bnP_1, bnP_1, show fX10_ofClause (some m) (nI p) 1 (wi σ G') = some (G' (m + 1) (3247 + 3 * p + 1)) from m_ofClause h p 1 (by omega), bnP_1, j0, j1, e3, bnP_1, bnP_1]
/-- case 26: STANDINGIF -/
theorem lc26 (h : LO σ G J o b m d) (ho : o ≠ b + 13) (hm : m ≠ b + 13 ∧ m + 1 ≠ b + 13) {Lx : Nat} {xs : Nat → Int32} {v5 v w : Int32} (hx : sld Lx xs (v5 + 1) = some v) (hy : sld Lx xs (v5 + 2) = some w) (v4 : Option Nat) : ∃ t y a c f, fL_c26 Lx xs (some o) (some m) (some d) v4 v5 (wc σ G J) = some ((.ok () : Except Nat Unit), wc σ (up (cw G (b + 13) f) m 0 t) (upJ J d 0 y), a, c) ∧ a ≤ 1 ∧ c ≤ 6 := by
  have key : ∀ cl : Int32, ∃ t y a c f, bnO (fL_standingIf (some o) v cl (some d) (wc σ G J)) (fun x10 s12 => bnS (fX10_standingIf (some m) v cl s12) (fun x26 s28 => bnP (fX10_thrown (some m) s28) (fun x29 => (if x29 = x10 then (if x10 = 0 then bnP (aJ s28 (some d) 0) (fun x31 => (if (lg_cmp x31 ((x26).toInt64)) = 0 then some (.ok (), s28, 0, 0) else none)) else some (.ok (), s28, 0, 0)) else none)))) = some ((.ok () : Except Nat Unit), wc σ (up (cw G (b + 13) f) m 0 t) (upJ J d 0 y), a, c) ∧ a ≤ 1 ∧ c ≤ 6 := by
    intro cl
    unfold fL_standingIf
    obtain ⟨i, j, f, hC, hi, hj⟩ := cq_standingIf h.1 h.2.2.2.2.2 v cl
    have h' := lo_s13 h ho hm f
    have hr : cw G (b + 13) f m 6 = 0 ∨ cw G (b + 13) f m 6 = 1 := by rw [h'.2.2.2.2.1]; exact h'.2.2.2.1
    have hM := fun J' => mq_standingIf (σ := wc σ (cw G (b + 13) f) J') (G := cw G (b + 13) f) h.2.1 (fun q => (h'.2.2.2.2.2 (by rw [← h'.2.2.2.2.1]; exact q)).1) hr v cl
    obtain ⟨y, hy⟩ := lq_gen h.2.2.1 h.2.1 hC hM (g := fun n3 s2 => if n3 = 0 then some (.ok 1, s2, 0, 0) else if n3 = 2 then some (.ok 2, s2, 0, 0) else none) (by
      rw [up_eq, cw_b hm.1, cw_b hm.2, h.2.2.2.2.1]
      refine lqR_ans2 (fun q1 q2 => ?_) rfl rfl
      rw [q1, q2]
      rfl)
    exact ⟨_, y, i, j, f, hy, hi, hj⟩
  unfold fL_c26
  simp only [hx, hy, bnP_1]
  by_cases z : w = 0
  · rw [if_pos z, bnP_1]
    simp only [if_pos z, bnP_1]
    exact key 0
  · rw [if_neg z, bnP_1]
    simp only [if_neg z, bnP_1]
    exact key 1
end LQ13
