/-! THE PURE LEVEL, 72: ADDCOPY -/
def adN (N : Nat → Int32) (a gr : Nat) : Nat → Int32 := fun j => if j = 6 then nI (nCp N + 1) else if j = 7 then N 7 + (3 - nI gr) else if j = 111 + 2 * nCp N then nI a else if j = 112 + 2 * nCp N then nI gr else N j
section ADN
variable {σ : HpT} {G G2 : Nat → Nat → Int32} {J : Nat → Nat → Int64} {b bs ps tx a gr : Nat} {P : Nat → Option Nat} {E : tE} {I T : tI} {N : Nat → Int32} {U : tU} {V : tV}
theorem ad_o {j : Nat} (h6 : j ≠ 6) (h7 : j ≠ 7) (h1 : j ≠ 111 + 2 * nCp N) (h2 : j ≠ 112 + 2 * nCp N) : adN N a gr j = N j := by
  unfold adN
  rw [if_neg h6, if_neg h7, if_neg h1, if_neg h2]
theorem wcQ_8 (hw : WFN N) (e : wcQ N a gr = 0) : nCp N < 8 := by
  have hb := w1_b hw.1
  rcases Nat.lt_or_ge (nCp N) 8 with z | z
  · exact z
  · exfalso
    unfold wcQ at e
    rw [if_pos (wcQ_0 e)] at e
    cases e2 : fuN (fun k => bdA N a gr (aF N a + k)) (aM N a) with
    | some x =>
      rw [e2] at e
      cases e
    | none =>
      rw [e2] at e
      have e : (if nCp N = 8 then (3 : Int32) else 0) = 0 := e
      rw [if_pos (by omega)] at e
      cases e
theorem ad_cc (h8 : nCp N < 8) : CC N (adN N a gr) := fun j h6 h7 h8 h => ad_o h6 h7 (by omega) (by omega)
theorem ad_n (h8 : nCp N < 8) : nCp (adN N a gr) = nCp N + 1 := by
  show (nI (nCp N + 1)).toNatClampNeg = _
  rw [nI_clamp (by omega)]
theorem ad_l (ha : a < 10) (hgr : gr < 3) : adN N a gr (111 + 2 * nCp N) = nI a ∧ adN N a gr (111 + 2 * nCp N + 1) = nI gr ∧ oO (adN N a gr) (nCp N) = a ∧ oG (adN N a gr) (nCp N) = gr := by
  have e0 : adN N a gr (111 + 2 * nCp N) = nI a := by
    unfold adN
    rw [if_neg (by omega), if_neg (by omega), if_pos rfl]
  have e1 : adN N a gr (111 + 2 * nCp N + 1) = nI gr := by
    unfold adN
    rw [if_neg (by omega), if_neg (by omega), if_neg (by omega), if_pos (by omega)]
  refine ⟨e0, e1, ?_, ?_⟩
  · show (adN N a gr (111 + 2 * nCp N)).toNatClampNeg = a
    rw [e0, nI_clamp (by omega)]
  · show (adN N a gr (111 + 2 * nCp N + 1)).toNatClampNeg = gr
    rw [e1, nI_clamp (by omega)]
theorem ad_c {k : Nat} (hk : k < nCp N) : adN N a gr (111 + 2 * k) = N (111 + 2 * k) ∧ adN N a gr (111 + 2 * k + 1) = N (111 + 2 * k + 1) ∧ oO (adN N a gr) k = oO N k ∧ oG (adN N a gr) k = oG N k := by
  have e0 : adN N a gr (111 + 2 * k) = N (111 + 2 * k) := ad_o (by omega) (by omega) (by omega) (by omega)
  have e1 : adN N a gr (111 + 2 * k + 1) = N (111 + 2 * k + 1) := ad_o (by omega) (by omega) (by omega) (by omega)
  exact ⟨e0, e1, congrArg Int32.toNatClampNeg e0, congrArg Int32.toNatClampNeg e1⟩
theorem ad_wf (hw : WFN N) (h8 : nCp N < 8) (ha : a < nAc N) (hgr : gr < 3) (h1 : N (9 + 9 * a + 1) = 1) : WFN (adN N a gr) := by
  have hb := w1_b hw.1
  have n6 := ad_n (a := a) (gr := gr) h8
  obtain ⟨l0, l1, l2, l3⟩ := ad_l (N := N) (a := a) (gr := gr) (by omega) hgr
  refine cc_wf (ad_cc h8) hw ⟨?_, ?_⟩ fun k hk => ?_
  · rw [show nv (adN N a gr) 6 = nCp N + 1 from n6]
    rfl
  · rw [show nv (adN N a gr) 6 = nCp N + 1 from n6]
    omega
  · rw [n6] at hk
    by_cases z : k = nCp N
    · subst z
      rw [l2]
      refine ⟨?_, ha, ?_, h1⟩
      · unfold isN
        rw [show nv (adN N a gr) (111 + 2 * nCp N) = a from l2, l0]
        exact ⟨rfl, by omega⟩
      · unfold isN
        rw [show nv (adN N a gr) (111 + 2 * nCp N + 1) = gr from l3, l1]
        exact ⟨rfl, hgr⟩
    · obtain ⟨e0, e1, e2, e3⟩ := ad_c (N := N) (a := a) (gr := gr) (k := k) (by omega)
      obtain ⟨w1, w2, w3, w4⟩ := hw.2.2.2.2.2 k (by omega)
      rw [e2]
      exact ⟨(isN_eq e0).mpr w1, w2, (isN_eq e1).mpr w3, w4⟩
theorem c_makeCopy (h : BK σ b) (hw : WFN N) (r : RB G J b N) (h8 : nCp N < 8) (ha : a < nAc N) (hgr : gr < 3) : ∃ G2, fX1_makeCopy (some b) (nI (a + 1)) (nI gr) (wc σ G J) = some (wc σ G2 J) ∧ (∀ c, c < b ∨ b + 33 ≤ c → G2 c = G c) ∧ RB G2 J b (adN N a gr) := by
  have hb := w1_b hw.1
  have hp := rb_p r hw.1
  obtain ⟨f, e1, d⟩ := c_draw (x := b + 25 + nCp N) h hw.1 hw.2.1 hw.2.2.2 r (Or.inr ⟨Nat.le_refl _, by omega⟩) ha hgr
  have n6 := ad_n (N := N) (a := a) (gr := gr) h8
  obtain ⟨l0, l1, l2, l3⟩ := ad_l (N := N) (a := a) (gr := gr) (by omega) hgr
  have g0 : cw G (b + 25 + nCp N) f b = G b := cw_b (by omega)
  refine ⟨up (up (cw G (b + 25 + nCp N) f) b 4 (G b 4 + (3 - nI gr))) b 3 (nI (nCp N + 1)), ?_, fun c hc => by rw [up_a (by omega), up_a (by omega), cw_b (by omega)], cc_rb (ad_cc h8) hw r (fun k hk => by rw [up_k (by omega), up_k (by omega), g0]) (by rw [up_eq]; rfl) ?_ ?_ (fun c h1 h2 => by rw [up_a (by omega), up_a (by omega), cw_b (by omega)]) ?_⟩
  · unfold fX1_makeCopy
    rw [bk_o h, bnP_1, bk_I h, bnP_1, hp, if_neg (show ¬ 8 ≤ nI (nCp N) from nI_ge (b := 8) h8 (by decide)), if_neg (show ¬ nI (a + 1) < 1 from nI_nlt (a := a + 1) (b := 1) (by omega) (by omega)), bk_I h, bnP_1, rb_n r hw.1, if_neg (nI_nlt (by omega) (by omega)), bk_r7 h, bnP_1, bnP_1, bk_pR h h8, bnP_1, bk_r8 h, bnP_1, bk_r6 h, bnP_1, nI_pred, bk_aR h (by omega), bnP_1, e1, bnP_1, bk_I h, bnP_1, g0, bk_r7 h, bnP_1, bk_I h, bnP_1, g0, hp, bk_pR h h8, bnP_1]
    unfold fX3_fee
    rw [bk_po h h8, bnP_1, bk_pI h h8, bnP_1, cw_a, d.1.2.1, bnP_1, bk_P h, bnP_1, bk_I h, bnP_1, up_k (by decide), g0, hp, nI_a1, bk_P h, bnP_1]
  · rw [up_k (by decide), up_eq, r.1.2.2.2.2.1]
    rfl
  · rw [up_k (by decide), up_k (by decide), g0, r.1.2.2.2.2.2.1]
    exact (ad_o (by decide) (by decide) (by omega) (by omega)).symm
  · refine dr_rc fun k hk => ?_
    rw [n6] at hk
    by_cases z : k = nCp N
    · subst z
      rw [l1, l2, l3, up_a (by omega), up_a (by omega), cw_a]
      exact ⟨rfl, cc_dr (ad_cc h8) hw ha d⟩
    · obtain ⟨e0, e1, e2, e3⟩ := ad_c (N := N) (a := a) (gr := gr) (k := k) (by omega)
      have w4 := w4_c hw.2.2.2 (c := k) (by omega)
      rw [e1, e2, e3, up_a (by omega), up_a (by omega), cw_b (by omega)]
      exact ⟨w4.2.2, cc_dr (ad_cc h8) hw w4.1.1 (rc_dr hw.2.2.2 r.2.2 (by omega))⟩
end ADN
