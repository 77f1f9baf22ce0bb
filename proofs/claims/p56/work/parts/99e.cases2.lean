/-! p56, pure: the cases of a round, 2 -/
section P56E
variable {σ : HpT} {G G' : Nat → Nat → Int32} {J J' : Nat → Nat → Int64} {N N' : tN} {V : tV} {w z a i k l c q : Nat} {I : tI}
theorem wba_ad (hw : WFN N) (h8 : nCp N < 8) {a gr g2 : Nat} (ha : a < nAc N) : wbA (adN N a gr) a g2 = wbA N a g2 := by
  have hb := w1_b hw.1
  have s := cc_sm (ad_cc (a := a) (gr := gr) h8) hw
  have e : ∀ j, 127 ≤ j → adN N a gr j = N j := fun j hj => ad_o (by omega) (by omega) (by omega) (by omega)
  have ef : fsN (adN N a gr) (aF N a) (aM N a) = fsN N (aF N a) (aM N a) := fsN_cg (fun k _ => e _ (by omega))
  unfold wbA
  rw [(sm_a s ha).1, (sm_a s ha).2.1]
  refine sumI_cong fun k hk => ?_
  unfold hbN skN fstS lstS
  rw [ef, e _ (by omega), e _ (by omega)]
theorem cs_copy (h : LST σ G J N V w z I) (hI : I.1 = 0) (hq : QN q N) (s : SN J w N) (hq18 : q < 18) (hb : hN σ + 200 < BIG) {a gr : Nat} (ha : a < 2) (hgr : gr < 3) (v10 v11 v12 : Int32) : CSR (fL_copy (some 0) (some 80) (some w) v10 v11 v12 (nI (a + 1)) (nI gr) (wc σ G J)) σ J q V w z := by
  have hw := hq.1
  have n2 := hq.2.1
  have hbN := w1_b hw.1
  have ha' : a < nAc N := by omega
  unfold fL_copy
  obtain ⟨σ1, G1, J1, i1, j1, e1, L1, w1, z1, n1, c1, d1⟩ := ls_cwd h ha' hgr
  obtain ⟨σ2, G2, J2, i2, j2, e2, L2, w2, z2, n2', c2, d2⟩ := ls_wnc L1 ha' hgr
  rw [e1, bnO_ok, e2, bnO_ok]
  by_cases y : wcQ N a gr = 0
  · obtain ⟨σ3, G3, J3, i3, j3, e3, L3, w3, z3, n3', c3, d3⟩ := ls_copy L2 (by omega) ha' hgr y
    have h8 := wcQ_8 hw y
    have wf := ad_wf hw h8 ha' hgr (wcQ_0 y)
    have cc := cc_sm (ad_cc (a := a) (gr := gr) h8) hw
    have sn := sm_n cc
    have nc := ad_n (a := a) (gr := gr) h8
    obtain ⟨l1, l2, l3, l4⟩ := ad_l (N := N) (a := a) (gr := gr) (by omega) hgr
    have ecp : cpW (adN N a gr) (nCp N) 2 = wbA N a gr := by
      rw [← wba_ad (gr := gr) hw h8 ha']
      show sumI _ (aM (adN N a gr) (oO (adN N a gr) (nCp N))) = sumI _ (aM (adN N a gr) a)
      rw [l3, l4]
    obtain ⟨c, c7, c8⟩ := hq.2.2.2.1
    have h7 : adN N a gr 7 = N 7 + (3 - nI gr) := rfl
    have e3g : (3 : Int32) - nI gr = nI (3 - gr) := nI_sub (a := 3) (by omega)
    have qn : QN (q + 1) (adN N a gr) := by
      obtain ⟨k, k1, k2⟩ := hq.2.2.2.2.1
      have o : ∀ j, j ≠ 6 → j ≠ 7 → (j < 111 ∨ 127 ≤ j) → adN N a gr j = N j := fun j h6 h7 h => ad_o h6 h7 (by omega) (by omega)
      refine ⟨wf, sn.2.1.trans n2, ?_, ⟨c + (3 - gr), by rw [h7, c7, e3g, nI_add], by omega⟩, ⟨k, by rw [o 21 (by decide) (by decide) (by omega)]; exact k1, by omega⟩, fun y => ?_⟩
      · have c := hq.2.2.1
        unfold CSH at c ⊢
        rw [sn.2.1, nc, h7, o 8 (by decide) (by decide) (by omega), sumI_cong (f := fun a_1 => adN N a gr (9 + 9 * a_1 + 4)) (g := fun a => N (9 + 9 * a + 4)) (fun k hk => o _ (by omega) (by omega) (by omega))]
        show _ = N 8 + _ + (sumI (fun c => 3 - nI (oG (adN N a gr) c)) (nCp N) + (3 - nI (oG (adN N a gr) (nCp N))))
        rw [l4, sumI_cong (f := fun c => 3 - nI (oG (adN N a gr) c)) (g := fun c => 3 - nI (oG N c)) (fun k hk => by
          show 3 - nI (oG (adN N a gr) k) = 3 - nI (oG N k)
          rw [(ad_c (a := a) (gr := gr) hk).2.2.2]), ← Int32.add_assoc, ← c]
      · rw [o 19 (by decide) (by decide) (by omega)] at y
        rw [o 22 (by decide) (by decide) (by omega)]
        exact hq.2.2.2.2.2 y
    have ej : (N 7 + (3 - nI gr)).toInt64 = (N 7).toInt64 + 3 - (nI gr).toInt64 := by
      rw [c7, e3g, nI_add, show (3 : Int64) = (nI 3).toInt64 from by decide, j_add (by omega), j_sub (by omega) (by omega)]
      congr 2
      omega
    rw [if_pos y, e3, bnO_ok, show fX9_copy (some 0) (nI (nCp N)) 2 (wc σ3 G3 J3) = _ from lq_copy L3 (c := nCp N) (by rw [nc]; omega) 2 (by decide), exO_1, bnP_1, ecp, if_pos rfl, bnP_1, show fX9_count (some 0) 9 (wc σ3 G3 J3) = _ from lq_count L3 9 (by decide), exO_1, bnP_1, show aJ (wc σ3 G3 J3) (some w) 9 = _ from aj_w L3 (n := 9) (by decide), bnP_1, w3.trans (w2.trans w1), s.2.1, show cntQ (adN N a gr) 9 = adN N a gr 7 from rfl, h7, if_pos ((lg_cmp_eq _ _).mpr ej)]
    exact ⟨σ3, G3, J3, _, I, _, _, rfl, L3, hI, qn, w3.trans (w2.trans w1), z3.trans (z2.trans z1), by omega, by omega, by omega⟩
  · rw [if_neg y]
    exact ⟨σ2, G2, J2, _, I, _, _, rfl, L2, hI, qn_up hq, w2.trans w1, z2.trans z1, by omega, by omega, by omega⟩
theorem lf_st (hw : WFN N) (hl : l < nLv N) : ∃ n, N (99 + l) = nI n ∧ n < 3 := ⟨_, (hw.2.2.2.2.1 l hl).1, (hw.2.2.2.2.1 l hl).2⟩
theorem cs_lose (h : LST σ G J N V w z I) (hI : I.1 = 0) (hq : QN q N) (s : SN J w N) (hb : hN σ + 200 < BIG) (hl : l < nLv N) (v10 v11 v13 v14 : Int32) : CSR (fL_lose (some 0) (some 80) (some w) v10 v11 (nI l) v13 v14 (wc σ G J)) σ J q V w z := by
  have hw := hq.1
  have hbN := w1_b hw.1
  have h12 := nlv_12 hw.1
  unfold fL_lose
  obtain ⟨n, hn, hn3⟩ := lf_st hw hl
  rw [lq_uif h hl, exO_1, bnP_1, show fX9_leaf (some 0) (nI l) 0 (wc σ G J) = _ from lq_leaf h hl 0 (by decide), exO_1, bnP_1, show lefW N l 0 = N (99 + l) from rfl]
  by_cases y : n = 2
  · rw [if_pos (by rw [hn, y]; decide)]
    exact cs_id h hI hq
  · have h0 : N (99 + l) ≠ 2 := by
      rw [hn]
      intro e
      exact y ((nI_eq (b := 2) (by omega) (by decide)).mp e)
    obtain ⟨σ2, G2, J2, i2, j2, e2, L2, w2, z2, n2', c2, d2⟩ := ls_lose h (by omega) hl h0
    obtain ⟨k1, k2, k3, k4, k5⟩ := ls_lost hw hl
    have ud := uk_dif hw k3 k4 hl h0 k1 (fun k _ hne => k2 k hne)
    have hc := cntN_le (fun k => decide (cwN N (l * nRm N + k) = 0)) (pOn N l)
    have hp : pOn N l ≤ 20 := by
      unfold pOn
      split <;> omega
    have hu : ukN N ≤ nWd N := cntN_le _ _
    have el : lostQ N l = nI (cntN (fun k => decide (cwN N (l * nRm N + k) = 0)) (pOn N l)) := by
      unfold lostQ
      rw [if_neg h0]
    rw [if_neg (show ¬ 2 ≤ N (99 + l) by rw [hn]; exact nI_ge (show n < 2 by omega) (by decide)), e2, bnO_ok, if_pos rfl, bnP_1, show fX9_count (some 0) 15 (wc σ2 G2 J2) = _ from lq_count L2 15 (by decide), exO_1, bnP_1, show aJ (wc σ2 G2 J2) (some w) 15 = _ from aj_w L2 (n := 15) (by decide), bnP_1, w2, s.2.2.2.2.1, show cntQ (lsN (lfN N l 2) l) 15 = nI (ukN (lsN (lfN N l 2) l)) from rfl, ud, el, if_pos ((lg_cmp_eq _ _).mpr (by rw [j_add (by omega)]))]
    exact ⟨σ2, G2, J2, _, I, _, _, rfl, L2, hI, qn_lf hq k5 k4, w2, z2, by omega, by omega, by omega⟩
theorem cs_find (h : LST σ G J N V w z I) (hI : I.1 = 0) (hq : QN q N) (hb : hN σ + 200 < BIG) (hl : l < nLv N) (v10 v11 v13 v14 : Int32) : CSR (fL_find (some 0) (some 80) (some w) v10 v11 (nI l) v13 v14 (wc σ G J)) σ J q V w z := by
  have hw := hq.1
  have hbN := w1_b hw.1
  have h12 := nlv_12 hw.1
  unfold fL_find
  rw [show fX9_leaf (some 0) (nI l) 0 (wc σ G J) = _ from lq_leaf h hl 0 (by decide), exO_1, bnP_1, show lefW N l 0 = N (99 + l) from rfl]
  by_cases y : N (99 + l) = 2
  · obtain ⟨σ2, G2, J2, i2, j2, e2, L2, w2, z2, n2', c2, d2⟩ := ls_recover h (by omega) hl y
    have wf := lf_wf (x := 0) hw hl (Or.inl rfl)
    have n2 := lf_n2 (x := 0) hw hl
    obtain ⟨wf2, s2, f2, g2, k2⟩ := bm_wf (l := l) wf
    have hl2 : l < nLv (bmN (lfN N l 0) l) := by rw [(sm_n s2).2.2.2.2.1, n2.2]; exact hl
    have e0 : bmN (lfN N l 0) l (99 + l) = 0 := by
      rw [g2]
      exact u1_e _ _ _
    have hc := cntN_le (fun k => decide (cwN (bmN (lfN N l 0) l) (l * nRm (bmN (lfN N l 0) l) + k) = 0)) (pOn (bmN (lfN N l 0) l) l)
    have hbM := w1_b wf2.1
    have hp : pOn (bmN (lfN N l 0) l) l ≤ 20 := by
      unfold pOn
      split <;> omega
    have el : ¬ lostQ (bmN (lfN N l 0) l) l < 0 := by
      unfold lostQ
      rw [if_neg (by rw [e0]; decide)]
      exact nI_lt0 (by omega)
    rw [if_pos y, e2, bnO_ok, if_neg el, bnP_1, show fX9_leaf (some 0) (nI l) 0 (wc σ2 G2 J2) = _ from lq_leaf L2 hl2 0 (by decide), exO_1, bnP_1, show lefW (bmN (lfN N l 0) l) l 0 = bmN (lfN N l 0) l (99 + l) from rfl, e0, if_pos rfl]
    refine ⟨σ2, G2, J2, _, I, _, _, rfl, L2, hI, qn_lf hq wf2 (fun j hj => ?_), w2, z2, by omega, by omega, by omega⟩
    rw [f2 j (by rw [n2.2]; exact hj), lf_o (by omega)]
  · rw [if_neg y]
    exact cs_id h hI hq
theorem it_s (M : Nat → Int32) (hn : nLv (itN M 1) = nLv M) : ∀ k, itN (itN M 1) k = itN M (k + 1)
  | 0 => rfl
  | k + 1 => by
    show shK (itN (itN M 1) k) (nLv (itN M 1)) = shK (itN M (k + 1)) (nLv M)
    rw [it_s M hn k, hn]
theorem cs_shake (h : LST σ G J N V w z I) (hI : I.1 = 0) (hq : QN q N) (hb : hN σ + 200 < BIG) (v10 v11 v12 v13 v14 : Int32) : CSR (fL_shake (some 0) (some 80) (some w) v10 v11 v12 v13 v14 (wc σ G J)) σ J q V w z := by
  have hw := hq.1
  have hbN := w1_b hw.1
  have h12 := nlv_12 hw.1
  obtain ⟨n, hn, h0, hp⟩ := it_end hw
  obtain ⟨w2', n2, -, f2⟩ := sh_wf hw (nLv N) (Nat.le_refl _)
  have n1 : nLv (itN N 1) = nLv N := n2
  unfold fL_shake
  obtain ⟨σ1, G1, J1, i1, j1, e1, L1, w1, z1, n1', c1, d1⟩ := ls_shk h hn h0 hp
  obtain ⟨σ2, G2, J2, i2, j2, e2, L2, w2, z2, n2', c2, d2⟩ := ls_shake L1 (by omega)
  have hc := cntN_le (lsB N) (nLv N)
  rw [e1, bnO_ok, e2, bnO_ok]
  by_cases y : n = 0
  · subst y
    have h0 : cntN (lsB N) (nLv N) = 0 := h0
    rw [if_pos (show nI 0 = 0 from rfl), h0, if_pos (show nI 0 = 0 from rfl)]
    exact ⟨σ2, G2, J2, _, I, _, _, rfl, L2, hI, qn_lf hq w2' f2, w2.trans w1, z2.trans z1, by omega, by omega, by omega⟩
  · have hp0 : 0 < cntN (lsB N) (nLv N) := hp 0 (by omega)
    have fe : ∀ k, fallC (shK N (nLv N)) k = fallC N (k + 1) := fun k => by
      have e := it_s N n1 k
      have e : itN (shK N (nLv N)) k = itN N (k + 1) := e
      unfold fallC
      rw [e, n2]
    obtain ⟨σ3, G3, J3, i3, j3, e3, L3, w3, z3, n3', c3, d3⟩ := ls_shk L2 (q := n - 1) (by omega) (by rw [fe, Nat.sub_add_cancel (by omega)]; exact h0) (fun k hk => by rw [fe]; exact hp _ (by omega))
    rw [if_neg (show ¬ nI n = 0 from nI_ne0 (by omega) (by omega)), if_neg (show ¬ nI (cntN (lsB N) (nLv N)) < 1 from nI_nlt (b := 1) (by omega) (by omega)), bnP_1, e3, bnO_ok, if_pos (show nI (n - 1) = nI n - 1 from (nI_m1 (by omega)).symm)]
    exact ⟨σ3, G3, J3, _, I, _, _, rfl, L3, hI, qn_lf hq w2' f2, w3.trans (w2.trans w1), z3.trans (z2.trans z1), by omega, by omega, by omega⟩
end P56E
