/-! THE PURE LEVEL, 72: ADDCOPY -/
def adN (N : Nat → Int32) (a gr : Nat) : Nat → Int32 := fun j => if j = 6 then nI (nCp N + 1) else if j = 7 then N 7 + (3 - nI gr) else if j = 111 + 2 * nCp N then nI a else if j = 112 + 2 * nCp N then nI gr else N j
def acB (N : Nat → Int32) (v w : Int32) : Bool := inR w (nI 0) (nI 2) && decide (wcQ N (v.toNatClampNeg - 1) w.toNatClampNeg = 0)
section ADN
variable {σ : HpT} {G G2 : Nat → Nat → Int32} {J : Nat → Nat → Int64} {b bs ps tx a gr : Nat} {P : Nat → Option Nat} {E : tE} {I T : tI} {N : Nat → Int32} {U : tU} {V : tV}
theorem ad_o {j : Nat} (h6 : j ≠ 6) (h7 : j ≠ 7) (h1 : j ≠ 111 + 2 * nCp N) (h2 : j ≠ 112 + 2 * nCp N) : adN N a gr j = N j := by
  unfold adN
  rw [if_neg h6, if_neg h7, if_neg h1, if_neg h2]
theorem wcQ_8 (hw : WFN N) (e : wcQ N a gr = 0) : nCp N < 8 := by
  have hb := w1_b hw.1
  rcases Nat.lt_or_ge (nCp N) 8 with z | z
  · exact z
  · exfalso
    unfold wcQ at e
    rw [if_pos (wcQ_0 e)] at e
    cases e2 : fuN (fun k => bdA N a gr (aF N a + k)) (aM N a) with
    | some x =>
      rw [e2] at e
      cases e
    | none =>
      rw [e2] at e
      have e : (if nCp N = 8 then (3 : Int32) else 0) = 0 := e
      rw [if_pos (by omega)] at e
      cases e
theorem ad_cc (h8 : nCp N < 8) : CC N (adN N a gr) := fun j h6 h7 h8 h => ad_o h6 h7 (by omega) (by omega)
theorem ad_n (h8 : nCp N < 8) : nCp (adN N a gr) = nCp N + 1 := by
  show (nI (nCp N + 1)).toNatClampNeg = _
  rw [nI_clamp (by omega)]
theorem ad_l (ha : a < 10) (hgr : gr < 3) : adN N a gr (111 + 2 * nCp N) = nI a ∧ adN N a gr (111 + 2 * nCp N + 1) = nI gr ∧ oO (adN N a gr) (nCp N) = a ∧ oG (adN N a gr) (nCp N) = gr := by
  have e0 : adN N a gr (111 + 2 * nCp N) = nI a := by
    unfold adN
    rw [if_neg (by omega), if_neg (by omega), if_pos rfl]
  have e1 : adN N a gr (111 + 2 * nCp N + 1) = nI gr := by
    unfold adN
    rw [if_neg (by omega), if_neg (by omega), if_neg (by omega), if_pos (by omega)]
  refine ⟨e0, e1, ?_, ?_⟩
  · show (adN N a gr (111 + 2 * nCp N)).toNatClampNeg = a
    rw [e0, nI_clamp (by omega)]
  · show (adN N a gr (111 + 2 * nCp N + 1)).toNatClampNeg = gr
    rw [e1, nI_clamp (by omega)]
theorem ad_c {k : Nat} (hk : k < nCp N) : adN N a gr (111 + 2 * k) = N (111 + 2 * k) ∧ adN N a gr (111 + 2 * k + 1) = N (111 + 2 * k + 1) ∧ oO (adN N a gr) k = oO N k ∧ oG (adN N a gr) k = oG N k := by
  have e0 : adN N a gr (111 + 2 * k) = N (111 + 2 * k) := ad_o (by omega) (by omega) (by omega) (by omega)
  have e1 : adN N a gr (111 + 2 * k + 1) = N (111 + 2 * k + 1) := ad_o (by omega) (by omega) (by omega) (by omega)
  exact ⟨e0, e1, congrArg Int32.toNatClampNeg e0, congrArg Int32.toNatClampNeg e1⟩
theorem ad_wf (hw : WFN N) (h8 : nCp N < 8) (ha : a < nAc N) (hgr : gr < 3) (h1 : N (9 + 9 * a + 1) = 1) : WFN (adN N a gr) := by
  have hb := w1_b hw.1
  have n6 := ad_n (a := a) (gr := gr) h8
  obtain ⟨l0, l1, l2, l3⟩ := ad_l (N := N) (a := a) (gr := gr) (by omega) hgr
  refine cc_wf (ad_cc h8) hw ⟨?_, ?_⟩ fun k hk => ?_
  · rw [show nv (adN N a gr) 6 = nCp N + 1 from n6]
    rfl
  · rw [show nv (adN N a gr) 6 = nCp N + 1 from n6]
    omega
  · rw [n6] at hk
    by_cases z : k = nCp N
    · subst z
      rw [l2]
      refine ⟨?_, ha, ?_, h1⟩
      · unfold isN
        rw [show nv (adN N a gr) (111 + 2 * nCp N) = a from l2, l0]
        exact ⟨rfl, by omega⟩
      · unfold isN
        rw [show nv (adN N a gr) (111 + 2 * nCp N + 1) = gr from l3, l1]
        exact ⟨rfl, hgr⟩
    · obtain ⟨e0, e1, e2, e3⟩ := ad_c (N := N) (a := a) (gr := gr) (k := k) (by omega)
      obtain ⟨w1, w2, w3, w4⟩ := hw.2.2.2.2.2 k (by omega)
      rw [e2]
      exact ⟨(isN_eq e0).mpr w1, w2, (isN_eq e1).mpr w3, w4⟩
theorem c_makeCopy (h : BK σ b) (hw : WFN N) (r : RB G J b N) (h8 : nCp N < 8) (ha : a < nAc N) (hgr : gr < 3) : ∃ G2, fX1_makeCopy (some b) (nI (a + 1)) (nI gr) (wc σ G J) = some (wc σ G2 J) ∧ (∀ c, c < b ∨ b + 33 ≤ c → G2 c = G c) ∧ RB G2 J b (adN N a gr) := by
  have hb := w1_b hw.1
  have hp := rb_p r hw.1
  obtain ⟨f, e1, d⟩ := c_draw (x := b + 25 + nCp N) h hw.1 hw.2.1 hw.2.2.2 r (Or.inr ⟨Nat.le_refl _, by omega⟩) ha hgr
  have n6 := ad_n (N := N) (a := a) (gr := gr) h8
  obtain ⟨l0, l1, l2, l3⟩ := ad_l (N := N) (a := a) (gr := gr) (by omega) hgr
  have g0 : cw G (b + 25 + nCp N) f b = G b := cw_b (by omega)
  refine ⟨up (up (cw G (b + 25 + nCp N) f) b 4 (G b 4 + (3 - nI gr))) b 3 (nI (nCp N + 1)), ?_, fun c hc => by rw [up_a (by omega), up_a (by omega), cw_b (by omega)], cc_rb (ad_cc h8) hw r (fun k hk => by rw [up_k (by omega), up_k (by omega), g0]) (by rw [up_eq]; rfl) ?_ ?_ (fun c h1 h2 => by rw [up_a (by omega), up_a (by omega), cw_b (by omega)]) ?_⟩
  · unfold fX1_makeCopy
    rw [bk_o h, bnP_1, bk_I h, bnP_1, hp, if_neg (show ¬ 8 ≤ nI (nCp N) from nI_ge (b := 8) h8 (by decide)), if_neg (show ¬ nI (a + 1) < 1 from nI_nlt (a := a + 1) (b := 1) (by omega) (by omega)), bk_I h, bnP_1, rb_n r hw.1, if_neg (nI_nlt (by omega) (by omega)), bk_r7 h, bnP_1, bnP_1, bk_pR h h8, bnP_1, bk_r8 h, bnP_1, bk_r6 h, bnP_1, nI_pred, bk_aR h (by omega), bnP_1, e1, bnP_1, bk_I h, bnP_1, g0, bk_r7 h, bnP_1, bk_I h, bnP_1, g0, hp, bk_pR h h8, bnP_1]
    unfold fX3_fee
    rw [bk_po h h8, bnP_1, bk_pI h h8, bnP_1, cw_a, d.1.2.1, bnP_1, bk_P h, bnP_1, bk_I h, bnP_1, up_k (by decide), g0, hp, nI_a1, bk_P h, bnP_1]
  · rw [up_k (by decide), up_eq, r.1.2.2.2.2.1]
    rfl
  · rw [up_k (by decide), up_k (by decide), g0, r.1.2.2.2.2.2.1]
    exact (ad_o (by decide) (by decide) (by omega) (by omega)).symm
  · refine dr_rc fun k hk => ?_
    rw [n6] at hk
    by_cases z : k = nCp N
    · subst z
      rw [l1, l2, l3, up_a (by omega), up_a (by omega), cw_a]
      exact ⟨rfl, cc_dr (ad_cc h8) hw ha d⟩
    · obtain ⟨e0, e1, e2, e3⟩ := ad_c (N := N) (a := a) (gr := gr) (k := k) (by omega)
      have w4 := w4_c hw.2.2.2 (c := k) (by omega)
      rw [e1, e2, e3, up_a (by omega), up_a (by omega), cw_b (by omega)]
      exact ⟨w4.2.2, cc_dr (ad_cc h8) hw w4.1.1 (rc_dr hw.2.2.2 r.2.2 (by omega))⟩
theorem m_copies (h : MK σ 80) (hw : WFN N) (e : G 81 = N) (h8 : nCp N < 8) : fX10_copies (some 80) (nI a) (nI gr) (wi σ G) = some (wi σ (cw G 81 (adN N a gr))) := by
  have n6 := (w1_e hw.1).2.2.2.2
  have a1 : ∀ G' : Nat → Nat → Int32, ∀ n, n < 6139 → aI (wi σ G') (some (80 + 1)) 20 (nI n) = some (G' 81 n) := fun G' n hn => mk_a1 h hn
  have s1 : ∀ G' : Nat → Nat → Int32, ∀ n x, n < 6139 → sI (wi σ G') (some (80 + 1)) (nI n) x = some (wi σ (cw G' 81 (u1 (G' 81) n x))) := fun G' n x hn => by rw [mk_s1 h hn, show 80 + 1 = 81 from rfl, up_is]
  have r1 : ∀ G' : Nat → Nat → Int32, gR (wi σ G') (some 80) 10 1 = some (some (80 + 1)) := fun G' => mk_r1 h
  have m2 : ∀ k, (2 : Int32) * nI k = nI (2 * k) := fun k => by rw [Int32.mul_comm, show (2 : Int32) = nI 2 from rfl, pk_mul, Nat.mul_comm]
  have c81 : ∀ f, cw G 81 f 81 = f := fun f => cw_a _ _ _
  have i1 : (111 + nI (2 * nCp N)) + 0 = nI (111 + 2 * nCp N) := by rw [Int32.add_zero]; exact nI_add 111 _
  have i2 : (111 + nI (2 * nCp N)) + 1 = nI (112 + 2 * nCp N) := by
    rw [show 111 + nI (2 * nCp N) = nI (111 + 2 * nCp N) from nI_add 111 _, nI_a1]
    congr 1
    omega
  unfold fX10_copies fX10_feeOf
  rw [mk_o h, bnP_1, r1, bnP_1, bnP_1, show (6 : Int32) = nI 6 from rfl, show (7 : Int32) = nI 7 from rfl, a1 _ 6 (by decide), bnP_1, e, n6, m2, i1, s1 _ _ _ (by omega), bnP_1, e, r1, bnP_1, bnP_1, a1 _ 6 (by decide), bnP_1, c81, u1_k (by omega), n6, m2, i2, s1 _ _ _ (by omega), bnP_1, cw_cw, c81, r1, bnP_1, a1 _ 6 (by decide), bnP_1, c81, u1_k (by omega), u1_k (by omega), n6, nI_a1, s1 _ _ _ (by decide), bnP_1, cw_cw, c81, r1, bnP_1, a1 _ 7 (by decide), bnP_1, c81, u1_k (by decide), u1_k (by omega), u1_k (by omega), bnP_1, s1 _ _ _ (by decide), bnP_1, cw_cw, c81]
  congr 3
  funext j
  unfold u1 adN
  by_cases z6 : j = 6
  · rw [if_neg (by omega), if_pos z6, if_pos z6]
  · rw [if_neg z6, if_neg z6]
    by_cases z7 : j = 7
    · rw [if_pos z7, if_pos z7]
    · rw [if_neg z7, if_neg z7]
      by_cases z1 : j = 111 + 2 * nCp N
      · rw [if_neg (by omega), if_pos z1, if_pos z1]
      · rw [if_neg z1, if_neg z1]
/-- case 43: ADDCOPY -/
theorem sc43 (hC : CR σ G J b bs ps P tx E I N U V T) (hM : MR σ G E I N U V T) (hA : AW E I N U V T) (hD : DK σ) (hb : hN σ + 40 < BIG) {Lx : Nat} {xs : Nat → Int32} {v5 v w : Int32} (h1 : sld Lx xs (v5 + 1) = some v) (h2 : sld Lx xs (v5 + 2) = some w) (v4 : Option Nat) : STEP σ (fL_c43 Lx xs (some 0) (some 80) (some 89) v4 v5 (wc σ G J)) := by
  have lo := lo_of hC hM hA hD
  have e4 := hC.2.1.1
  unfold fL_c43 fL_addCopy
  simp only [h1, h2, bnP_1]
  have hwr : E.1 ≠ 0 → WFN N ∧ RB G J b N := fun q => ⟨hA.2.1 q, hC.2.2.2.1 q⟩
  have ms : ∀ S G1, MR S G1 E I N U V T → fX10_addCopy (some 80) v w (wi S G1) = if (decide (E.1 ≠ 0) && inR v (nI 1) (N 3) && acB N v w) = true then bnP (fX10_remembers (some 80) (wi S (up G1 80 0 0))) (fun s19 => bnP (fX10_copies (some 80) (v - 1) w s19) (fun s22 => bnP (gR s22 (some 80) 10 1) (fun x23 => bnP (aI s22 x23 20 6) (fun x25 => some ((x25 - 1), s22))))) else some (0, wi S (up G1 80 0 (thr (decide (E.1 ≠ 0)) (inR v (nI 1) (N 3)) (acB N v w)))) := by
    intro S G1 hM1
    have mk := hM1.1
    have f6 := hM1.2.1.1
    have f81 := hM1.2.2.2.1.1
    have ei : isA G1 80 v = (decide (E.1 ≠ 0) && inR v (nI 1) (N 3)) := by
      unfold isA
      rw [f6, show G1 (80 + 1) = N from f81]
    unfold fX10_addCopy
    rw [mk_o mk, bnP_1, m_isAct mk, bnP_1, mk_I mk, bnP_1]
    have hj : (if isA G1 80 v = true then bnP (fX10_isGrade w (wi S G1)) (fun x10 => (if x10 = true then bnP (fX10_whyCopy (some 80) (v - 1) w (wi S G1)) (fun x12 => (if x12 = 0 then some ((some 80 : Option Nat), G1 80 6, bI (isA G1 80 v), (1 : Int32)) else some (some 80, G1 80 6, bI (isA G1 80 v), 0))) else some (some 80, G1 80 6, bI (isA G1 80 v), 0))) else some (some 80, G1 80 6, bI (isA G1 80 v), 0)) = some (some 80, G1 80 6, bI (isA G1 80 v), bI (isA G1 80 v && acB N v w)) := by
      cases z : isA G1 80 v
      · rw [if_neg (by decide)]
        rfl
      · have qE : E.1 ≠ 0 := by
          rw [z] at ei
          have := (Bool.and_eq_true _ _).mp ei.symm
          exact of_decide_eq_true this.1
        have hw := hA.2.1 qE
        have z3 := z
        obtain ⟨-, a, rfl, ha⟩ := isA_t (by rw [show G1 (80 + 1) = N from f81]; exact hw.1) z3
        rw [show G1 (80 + 1) = N from f81] at ha
        have hbb := w1_b hw.1
        rw [if_pos rfl, m_isGrade, bnP_1]
        unfold acB
        cases z2 : inR w (nI 0) (nI 2)
        · rw [if_neg (by decide)]
          rfl
        · obtain ⟨gr, rfl, -, hgr⟩ := inR_t (by decide) (by decide) z2
          have e := m_whyCopy (G := G1) (a := a) (gr := gr) mk (by rw [show G1 (80 + 1) = N from f81]; exact hw) (by rw [show G1 (80 + 1) = N from f81]; exact ha) (by omega)
          rw [show G1 (80 + 1) = N from f81] at e
          rw [if_pos rfl, nI_pred, e, bnP_1, nI_clamp (by omega), nI_clamp (by omega), Nat.add_sub_cancel]
          by_cases y : wcQ N a gr = 0
          · rw [if_pos y, decide_eq_true y]
            rfl
          · rw [if_neg y, decide_eq_false y]
            rfl
    rw [hj, bnP_1]
    dsimp only
    rw [m_may3 mk (by rw [f6]; exact hA.1.1), bnS_1, f6, ei]
    cases e0 : decide (E.1 ≠ 0)
    · rfl
    · cases e1 : inR v (nI 1) (N 3)
      · rfl
      · cases e2 : acB N v w
        · rfl
        · rfl
  have ec : E.1 ≠ 0 → inR v (nI 1) (N 3) = true → ∃ G1, QG P G G1 ∧ (∀ c, c ≠ b + 14 → G1 c = G c) ∧ fX9_addCopy (some 0) v w (wc σ G J) = if acB N v w = true then bnA (fX9_remember (some 0) (wc σ G1 J)) (fun x12 s14 => bnP (gR s14 (some 0) 9 5) (fun x19 => bnP (fX1_makeCopy x19 v w s14) (fun s23 => bnP (gR s23 (some 0) 9 5) (fun x24 => bnP (gI s23 x24 1 3) (fun x26 => some (.ok (x26 - 1), s23, 0, 0)))))) else some (.error 2, wc σ G1 J, 1, 6) := by
    intro qE z
    obtain ⟨hw, r⟩ := hwr qE
    have hbb := w1_b hw.1
    obtain ⟨a, rfl, ha⟩ := inA_t hw.1 z
    unfold fX9_addCopy
    rw [nk_o lo.1, bnP_1, c_requireBook lo.1, if_neg (by rw [e4]; exact qE), bnXA_1, c_requireAct1 lo.1 hw.1 r ha, bnXA_1, c_requireUpTo, show inR w 0 2 = inR w (nI 0) (nI 2) from rfl]
    unfold acB
    cases z2 : inR w (nI 0) (nI 2)
    · exact ⟨G, qg_rf P G, fun _ _ => rfl, rfl⟩
    · obtain ⟨gr, rfl, -, hgr⟩ := inR_t (by decide) (by decide) z2
      obtain ⟨f, hf⟩ := c_copyReason (nk_B lo.1) hw r ha (show gr < 3 by omega)
      refine ⟨cw G (b + 14) f, qg_c P G (scr_14 hC) (by have := cr_b hC; omega) f, fun c hc => cw_b hc, ?_⟩
      rw [if_pos rfl, bnXA_1, nk_b lo.1, bnP_1, hf, bnS_1, nI_clamp (by omega), nI_clamp (by omega), Nat.add_sub_cancel]
      by_cases y : wcQ N a gr = 0
      · rw [if_pos y, decide_eq_true y]
        rfl
      · rw [if_neg y, decide_eq_false y]
        rfl
  refine chg3 (inR v (nI 1) (N 3)) (acB N v w) (e1 := 1) (e2 := 2) hC hM hA hD (fun S => rfl) (fun S => rfl) (fun _ _ _ S => rfl) ?_ ?_ ?_ ms ?_
  · intro qE
    unfold fX9_addCopy
    rw [nk_o lo.1, bnP_1, c_requireBook lo.1, if_pos (by rw [e4]; exact qE), bnXA_e]
  · intro qE z
    obtain ⟨hw, r⟩ := hwr qE
    unfold fX9_addCopy
    rw [nk_o lo.1, bnP_1, c_requireBook lo.1, if_neg (by rw [e4]; exact qE), bnXA_1, c_requireAct0 lo.1 hw.1 r z, bnXA_e]
  · intro qE z z2
    obtain ⟨G1, q1, q2, q3⟩ := ec qE z
    exact ⟨G1, q1, by rw [q3, z2, if_neg (by decide)]⟩
  · intro qE z z2
    obtain ⟨hw, r⟩ := hwr qE
    obtain ⟨G1, q1, q2, q3⟩ := ec qE z
    rw [z2, if_pos rfl] at q3
    have hC1 := cr_frame (J' := J) hC hA q1.1 (fun _ _ => rfl)
    have hM1 := mr_frame hM q1.2.1 q1.2.2
    have hbb := w1_b hw.1
    have z' := z
    have z2' := z2
    obtain ⟨a, rfl, ha⟩ := inA_t hw.1 z
    unfold acB at z2
    rw [Bool.and_eq_true] at z2
    obtain ⟨gr, rfl, -, hgr⟩ := inR_t (by decide) (by decide) z2.1
    have z3 := of_decide_eq_true z2.2
    rw [nI_clamp (by omega), nI_clamp (by omega), Nat.add_sub_cancel] at z3
    have h8 := wcQ_8 hw z3
    refine chg (x := nI (nCp N)) (N' := adN N a gr) false hC1 hM1 hA hD qE hb (ad_wf hw h8 ha (by omega) (wcQ_0 z3)) (fun j hj => ?_) ?_ ?_
    · rw [ad_o (by omega) (by omega) (by omega) (by omega)]
      exact hM.2.2.2.1.2 j hj
    · intro σ' G' J' ps' P' ii jj eR hC'
      have nk' := cr_nk hC'
      have B' := nk_B nk'
      have r' := hC'.2.2.2.1 qE
      obtain ⟨G2, e2, f2, r2⟩ := c_makeCopy B' hw r' h8 ha (show gr < 3 by omega)
      refine ⟨G2, J', ?_, fun c hc => by rw [f2 c hc]; rfl, fun _ _ => rfl, r2⟩
      rw [q3, eR, bnA_ok, nk_b nk', bnP_1, e2, bnP_1, nk_b nk', bnP_1, bk_I B', bnP_1, r2.1.2.2.2.1, show adN N a gr 6 = nI (nCp N + 1) from rfl, nI_pred, addC_1]
      rfl
    · intro S G1 G1' hM1 eR e81 _ _
      have mk := hM1.1
      rw [ms S G1 hM1, decide_eq_true qE, z', z2', if_pos (show (true && true && true) = true from rfl), eR, bnP_1, nI_pred, m_copies mk hw e81 h8, bnP_1, mk_r1 mk, bnP_1, show aI (wi S (cw G1' 81 (adN N a gr))) (some (80 + 1)) 20 6 = _ from mk_a1 mk (n := 6) (by decide), bnP_1, show cw G1' 81 (adN N a gr) (80 + 1) = adN N a gr from cw_a _ _ _, show adN N a gr 6 = nI (nCp N + 1) from rfl, nI_pred]
      rfl
end ADN
