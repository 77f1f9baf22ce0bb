/-! THE PURE LEVEL, 32: STANDINGIF; a turn of the law -/
/-- the text's room -/
def capO (σ : HpT) : Nat := match hR σ 78 0 with
  | some t => hZ σ t
  | none => 0
/-- the clause that a word of the open act is in: its number and 1, 0 if none -/
def opW (N : Nat → Int32) (i : Nat) : Nat := aF N (nAc N - 1) + i
/-- is a word, or a clause, of the open act told -/
def askB (N : Nat → Int32) (v cl : Int32) : Bool := (decide (strQ N v = 0) || decide (strQ N v = 3)) && (decide (cl = 0) || decide (0 < wW N (opW N v.toNatClampNeg)))
def siQ (N : Nat → Int32) (i : Nat) (cl : Int32) : Int32 := stN N (aF N (nAc N - 1)) (aM N (nAc N - 1)) - (if cl = 0 then bI (skN N (opW N i)) else nI (cntN (fun k => skN N (cF N (wW N (opW N i) - 1) + k)) (cT N (wW N (opW N i) - 1) - cF N (wW N (opW N i) - 1) + 1)))
section LQ13
variable {σ : HpT} {G G' : Nat → Nat → Int32} {J J' : Nat → Nat → Int64} {o b m d bs ps tx : Nat} {P : Nat → Option Nat} {E : tE} {I T : tI} {N : Nat → Int32} {U : tU} {V : tV}
theorem scr_13 (hC : CR σ G J b bs ps P tx E I N U V T) : SCR P (b + 13) := Or.inr (Or.inr ⟨0, b, by decide, hC.1.2.2.2.1, by omega⟩)
theorem scr_14 (hC : CR σ G J b bs ps P tx E I N U V T) : SCR P (b + 14) := Or.inr (Or.inr ⟨0, b, by decide, hC.1.2.2.2.1, by omega⟩)
theorem cr_b (hC : CR σ G J b bs ps P tx E I N U V T) : b = 2 ∨ b = 35 ∨ 91 ≤ b := (hC.1.2.2.2.2.2.1 0 b (by decide) hC.1.2.2.2.1).2.1
theorem strQ_t (w1 : W1 N) (w2 : W2 N) {v : Int32} (e : strQ N v = 0 ∨ strQ N v = 3) : isO N ∧ ∃ i, v = nI i ∧ i < aM N (nAc N - 1) ∧ (strQ N v = if skN N (opW N i) = true then 0 else 3) := by
  by_cases q : isO N
  · have q' : 0 < nAc N ∧ N (9 + 9 * (nAc N - 1) + 1) = 0 := q
    refine ⟨q, ?_⟩
    obtain ⟨p1, p2, p3, p4, p5⟩ := (act_ok w1 w2 (a := nAc N - 1) (by have := q'.1; omega)).1
    cases z : inR v (nI 0) (nI (aM N (nAc N - 1) - 1))
    · exfalso
      have : strQ N v = 2 := by
        unfold strQ
        rw [if_pos q', z]
        rfl
      rw [this] at e
      rcases e with e | e <;> cases e
    · obtain ⟨i, rfl, -, hi⟩ := inR_t (by decide) (by omega) z
      refine ⟨i, rfl, by omega, ?_⟩
      unfold strQ opW
      rw [if_pos q', z, if_pos rfl, nI_clamp (by omega)]
  · exfalso
    have : strQ N v = 1 := by
      unfold strQ
      exact if_neg q
    rw [this] at e
    rcases e with e | e <;> cases e
theorem c_seekA1 (h : BK σ b) (hw : WFN N) (r : RB G J b N) (q : isO N) {i p : Nat} (hi : i < aM N (nAc N - 1)) (hp : wW N (opW N i) = p + 1) : ∃ f, fX1_seekClauseAround (some b) (nI i) (wc σ G J) = some (true, wc σ (cw G (b + 13) f) J) ∧ f 0 = nI (cF N p) ∧ f 1 = nI (cT N p - cF N p + 1) ∧ cF N p ≤ opW N i ∧ opW N i ≤ cT N p ∧ aF N (nAc N - 1) ≤ cF N p ∧ cT N p < aF N (nAc N - 1) + aM N (nAc N - 1) := by
  have ha : nAc N - 1 < nAc N := by have := q.1; omega
  obtain ⟨p1, p2, p3, p4, p5⟩ := (act_ok hw.1 hw.2.1 ha).1
  have hr := rb_act r ha
  unfold opW at *
  obtain ⟨-, -, z⟩ := w3_w hw.2.2.1 ha (g := aF N (nAc N - 1) + i) (by omega) (by omega)
  rcases z with ⟨z, -⟩ | ⟨p', z1, z2, z3, z4, z5, z6⟩
  · omega
  · obtain rfl : p' = p := by omega
    obtain ⟨f, hf, f0, f1, -, -⟩ := c_seek1 h hw r ha z2 z3
    have cl := w3_cl hw.2.2.1 ha p' z2 z3
    refine ⟨f, ?_, f0, f1, z4, z5, cl.1, cl.2.2.1⟩
    unfold fX1_seekClauseAround
    rw [bk_o h, bnP_1, c_openAct1 h hw.1 r q, bnP_1, if_neg (fun e => by cases e), if_neg (nI_lt0 (by omega)), bk_aI h p1, bnP_1, hr.2.2.2.2.2.2.1, p3, if_pos (nI_lt hi (by omega)), bk_r10 h, bnP_1, bk_r8 h, bnP_1, bnP_1, bk_aI h p1, bnP_1, bnP_1, hr.2.2.2.2.2.1, p2, nI_add, c_innermostOf h hw r ha (by omega) (by omega), bnP_1]
    unfold inQ
    rw [if_neg (by omega), hp, Nat.add_sub_cancel, hf, bnS_1]
theorem c_seekA0 (h : BK σ b) (hw : WFN N) (r : RB G J b N) {v : Int32} (hv : ¬ isO N ∨ (isO N ∧ (inR v (nI 0) (nI (aM N (nAc N - 1) - 1)) = false ∨ wW N (opW N v.toNatClampNeg) = 0))) : fX1_seekClauseAround (some b) v (wc σ G J) = some (false, wc σ G J) := by
  unfold fX1_seekClauseAround
  rcases hv with q | ⟨q, hv⟩
  · rw [bk_o h, bnP_1, c_openAct0 h hw.1 r q, bnP_1, if_pos rfl]
  · have ha : nAc N - 1 < nAc N := by have := q.1; omega
    obtain ⟨p1, p2, p3, p4, p5⟩ := (act_ok hw.1 hw.2.1 ha).1
    have hr := rb_act r ha
    rw [bk_o h, bnP_1, c_openAct1 h hw.1 r q, bnP_1, if_neg (fun e => by cases e)]
    by_cases z : v < 0
    · rw [if_pos z]
    · obtain ⟨i, hi, rfl⟩ := nI_of z
      rw [if_neg z, bk_aI h p1, bnP_1, hr.2.2.2.2.2.2.1, p3]
      by_cases z2 : i < aM N (nAc N - 1)
      · rw [if_pos (nI_lt z2 (by omega))]
        rcases hv with hv | hv
        · rw [inR_nI hi (by decide) (by omega), decide_eq_true (Nat.zero_le i), decide_eq_true (show i ≤ aM N (nAc N - 1) - 1 by omega)] at hv
          cases hv
        · rw [nI_clamp hi] at hv
          unfold opW at hv
          rw [bk_r10 h, bnP_1, bk_r8 h, bnP_1, bnP_1, bk_aI h p1, bnP_1, bnP_1, hr.2.2.2.2.2.1, p2, nI_add, c_innermostOf h hw r ha (by omega) (by omega), bnP_1]
          unfold inQ
          rw [if_pos hv, c_seek0 h hw r ha (Or.inl (show nO < 0 by decide)), bnS_1]
      · rw [if_neg (nI_nlt (by omega) hi)]
theorem cq_standingIf (h : NK σ o b) (hwr : G o 4 ≠ 0 → WFN N ∧ RB G J b N) (v cl : Int32) : ∃ i j f, fX9_standingIf (some o) v cl (wc σ G J) = some (ansE 0 2 2 (decide (G o 4 ≠ 0)) (askB N v cl) true (siQ N v.toNatClampNeg cl), wc σ (cw G (b + 13) f) J, i, j) ∧ i ≤ 1 ∧ j ≤ 6 := by
  have B := nk_B h
  unfold fX9_standingIf
  rw [nk_o h, bnP_1, c_requireBook h]
  by_cases q : G o 4 = 0
  · refine ⟨1, 6, G (b + 13), ?_, by decide, by decide⟩
    rw [if_pos q, bnXA_e, decide_eq_false (fun e => e q), cw_self]
    rfl
  · obtain ⟨hw, r⟩ := hwr q
    have hb := w1_b hw.1
    rw [if_neg q, bnXA_1, decide_eq_true q, nk_b h, bnP_1, c_strikeReason B hw r, bnP_1]
    by_cases q1 : strQ N v = 0 ∨ strQ N v = 3
    · obtain ⟨qo, i, rfl, hi, hs⟩ := strQ_t hw.1 hw.2.1 q1
      have ha : nAc N - 1 < nAc N := by have := qo.1; omega
      obtain ⟨p1, p2, p3, p4, p5⟩ := (act_ok hw.1 hw.2.1 ha).1
      have hle := act_le hw.1 hw.2.1 ha
      have n1 : ¬ strQ N (nI i) = 1 := fun e => by rw [e] at q1; rcases q1 with q1 | q1 <;> cases q1
      have n2 : ¬ strQ N (nI i) = 2 := fun e => by rw [e] at q1; rcases q1 with q1 | q1 <;> cases q1
      rw [if_neg n1, if_neg n2]
      have ask : askB N (nI i) cl = (decide (cl = 0) || decide (0 < wW N (opW N i))) := by
        unfold askB
        rw [nI_clamp (by omega)]
        rcases q1 with q1 | q1
        · rw [decide_eq_true q1, Bool.true_or, Bool.true_and]
        · rw [decide_eq_true q1, Bool.or_true, Bool.true_and]
      rw [ask, nI_clamp (by omega)]
      by_cases c0 : cl = 0
      · refine ⟨0, 0, G (b + 13), ?_, by decide, by decide⟩
        rw [if_pos c0, decide_eq_true c0, Bool.true_or, cw_self]
        unfold siQ
        rw [if_pos c0, hs]
        cases skN N (opW N i)
        · rw [if_pos (by decide), bnP_1, c_openStanding B hw r qo, bnP_1]
          show _ = some (Except.ok (_ - 0), _, _, _)
          rw [Int32.sub_zero]
        · rw [if_neg (by decide), bnP_1, c_openStanding B hw r qo, bnP_1]
          rfl
      · rw [if_neg c0, decide_eq_false c0, Bool.false_or]
        by_cases z : 0 < wW N (opW N i)
        · obtain ⟨p, hp⟩ : ∃ p, wW N (opW N i) = p + 1 := ⟨wW N (opW N i) - 1, by omega⟩
          obtain ⟨f, hf, f0, f1, g1, g2, g3, g4⟩ := c_seekA1 B hw r qo hi hp
          have r' := rb_s13 hw.1 r f
          have cG : ∀ k, gI (wc σ (cw G (b + 13) f) J) (some (b + 13)) 2 k = some (f k) := fun k => by
            rw [bk_cI B, cw_a]
          refine ⟨0, 0, f, ?_, by decide, by decide⟩
          rw [bnP_1, hf, bnS_1, if_pos rfl, nk_b h, bnP_1, c_openStanding B hw r' qo, bnP_1, bnP_1, bk_r8 B, bnP_1, bnP_1, bk_r10 B, bnP_1, cG, bnP_1, bnP_1, bk_r10 B, bnP_1, cG, bnP_1, f0, f1, c_unstruck B hw.1 r' (by omega), bnP_1, decide_eq_true z]
          unfold siQ
          rw [if_neg c0, hp, Nat.add_sub_cancel]
          rfl
        · refine ⟨1, 6, G (b + 13), ?_, by decide, by decide⟩
          rw [bnP_1, c_seekA0 B hw r (Or.inr ⟨qo, Or.inr (by rw [nI_clamp (by omega)]; omega)⟩), bnS_1, decide_eq_false z, cw_self]
          rfl
    · have ask : askB N v cl = false := by
        unfold askB
        rw [decide_eq_false (fun e => q1 (Or.inl e)), decide_eq_false (fun e => q1 (Or.inr e))]
        rfl
      refine ⟨1, 6, G (b + 13), ?_, by decide, by decide⟩
      have n12 : strQ N v = 1 ∨ strQ N v = 2 := by
        unfold strQ at q1 ⊢
        by_cases y1 : 0 < nAc N ∧ N (9 + 9 * (nAc N - 1) + 1) = 0
        · rw [if_pos y1] at q1 ⊢
          cases y2 : inR v (nI 0) (nI (aM N (nAc N - 1) - 1))
          · exact Or.inr rfl
          · rw [y2, if_pos rfl] at q1
            exfalso
            apply q1
            cases skN N (aF N (nAc N - 1) + v.toNatClampNeg)
            · exact Or.inr rfl
            · exact Or.inl rfl
        · rw [if_neg y1]
          exact Or.inl rfl
      rw [ask, cw_self]
      rcases n12 with n12 | n12
      · rw [if_pos n12]
        rfl
      · rw [if_neg (by rw [n12]; decide), if_pos n12]
        rfl
theorem askB_t (w1 : W1 N) (w2 : W2 N) {v cl : Int32} (e : askB N v cl = true) : isO N ∧ ∃ i, v = nI i ∧ i < aM N (nAc N - 1) ∧ (cl = 0 ∨ 0 < wW N (opW N i)) := by
  unfold askB at e
  rw [Bool.and_eq_true, Bool.or_eq_true, Bool.or_eq_true, decide_eq_true_eq, decide_eq_true_eq, decide_eq_true_eq, decide_eq_true_eq] at e
  obtain ⟨q, i, rfl, hi, -⟩ := strQ_t w1 w2 e.1
  have := (w2_b w2 (a := nAc N - 1) (by have := q.1; omega)).2.1
  rw [nI_clamp (by omega)] at e
  exact ⟨q, i, rfl, hi, e.2⟩
end LQ13
