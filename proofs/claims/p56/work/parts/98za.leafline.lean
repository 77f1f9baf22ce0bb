/-! THE PURE LEVEL, 85: the class reads a leaf's line -/
def kw (f : Nat → Int32) (e p j : Nat) : Bool := kwB f e p (byS j)
def lnLeaf (f : Nat → Int32) (e p : Nat) (N : tN) : PRes := if kw f e p 13 = true then lnLose f e p N else if kw f e p 14 = true then lnFind f e p N else if kw f e p 15 = true then lnSew f e p N else .error (1, tkS f e p)
section CLF
variable {σ : HpT} {G : Nat → Nat → Int32} {J : Nat → Nat → Int64} {f : Nat → Int32} {e p c : Nat} {N : tN}
theorem kw_at (h : PC σ c) (g : CGd f e p c N G J) (j : Nat) (hj : j < 47) (hk : 1 ≤ j ∧ j < 16) : fX5_isAtWord (some 68) (some (BIG + j)) (wc σ G J) = some (kw f e p j) := c_isAtWord h.1 h.2.1.1 h.2.1.2.1 h.2.2.1 g.1.2.1 g.2.1 hj (kw_ok j hj hk)
theorem kw_x {i j : Nat} (h : kw f e p i = true) (hi : 0 < (byS i).length) (hj : 0 < (byS j).length) (hd : (byS i).getD 0 0 ≠ (byS j).getD 0 0) : kw f e p j = false := kw_dj h hi hj hd
theorem cg_lv (h : PC σ c) (g : CGd f e p c N G J) : gI (wc σ G J) (some (c + 10)) 4 1 = some (nI (nLv N)) := by
  rw [lk_I (bk_L (pc_B h)), (rl_of g.2.2.2).2.1]
theorem cl_lv (h : PC σ c) (g : CGd f e p c N G J) : gR (wc σ G J) (some c) 1 9 = some (some (c + 10)) := bk_r9 (pc_B h)
theorem cg_loose (h : PC σ c) (g : CGd f e p c N G J) {l : Nat} (hl : l < nLv N) : fX4_isLoose (some (c + 10)) (nI l) (wc σ G J) = some (decide (N (99 + l) = 1)) := by
  have h12 := nlv_12 g.2.2.1.1
  rw [c_isLoose (pc_B h) g.2.2.1 g.2.2.2]
  unfold thB stB
  rw [inN_e (by omega) (by omega), decide_eq_true hl, Bool.true_and, nI_clamp (by omega)]
theorem cl_leaf (h : PC σ c) (g : CGd f e p c N G J) : CPo σ f e c G J (fX5_readLeafLine (some 68) (wc σ G J)) (lnLeaf f e p N) := by
  have hw := g.2.2.1
  have B := pc_B h
  have h12 := nlv_12 hw.1
  unfold fX5_readLeafLine lnLeaf
  rw [pc_o h, bnP_1, kw_at h g 13 (by decide) (by decide), bnP_1, kw_at h g 14 (by decide) (by decide), bnP_1]
  cases k1 : kw f e p 13
  · cases k2 : kw f e p 14
    · rw [if_neg (by decide), if_neg (by decide), kw_at h g 15 (by decide) (by decide), bnP_1]
      cases k3 : kw f e p 15
      · rw [if_neg (by decide), if_neg (by decide), if_neg (by decide), if_neg (by decide)]
        exact cp_id (c_failP h g 1)
      · rw [if_pos rfl, if_neg (by decide), if_neg (by decide), if_pos rfl, pc_b h, bnP_1, cl_lv h g, bnP_1, cg_lv h g, bnP_1]
        unfold lnSew
        cases q : nmS f e (tkX f e p) 0 (nLv N) with
        | error x =>
          obtain ⟨G', J', e1, e2, e3, e4⟩ := c_cnn_err h g (hb_m (n := nLv N) (by omega)) (by decide) q
          refine ⟨false, G', J', ?_, e2, rfl, e3, e4⟩
          rw [show (0 : Int32) = nI 0 from rfl, e1, bnS_1, if_neg (by decide)]
        | ok l =>
          obtain ⟨G', J', e1, e2, e3, e4, e5⟩ := c_cnn h g (hb_m (n := nLv N) (by omega)) (by decide) q
          have hl := (nm_ok q).2.2.2
          rw [show (0 : Int32) = nI 0 from rfl, e1, bnS_1, if_pos rfl, pc_s h, bnP_1, e4, bnP_1, if_neg (by decide), if_neg (by decide), if_neg (by decide), if_neg (by decide), cg_loose h e3 hl, bnP_1]
          refine cp_pre (pf_69 e2) ?_
          show CPo σ f e c G' J' _ (if N (99 + l) = 1 then _ else _)
          by_cases y : N (99 + l) = 1
          · obtain ⟨f1, f2⟩ := cg_upd h e3 (G2 := up G' (c + 11) l 0) (J2 := J') (fun a ha => up_a (by omega)) (fun _ _ => rfl) (lf_wf hw hl (Or.inl rfl)) (lf_rb (x := 0) hw hl e3.2.2.2)
            rw [if_pos y, decide_eq_true y, if_pos rfl, c_fasten B hw e3.2.2.2 hl, bnP_1]
            exact cp_pre f2 (cp_id (c_fin h f1))
          · rw [if_neg y, decide_eq_false y, if_neg (by decide)]
            exact cp_id (c_failP h e3 3)
    · rw [if_neg (by decide), if_pos rfl, if_neg (by decide), if_pos rfl, pc_b h, bnP_1, cl_lv h g, bnP_1, cg_lv h g, bnP_1]
      unfold lnFind
      cases q : nmS f e (tkX f e p) 0 (nLv N) with
      | error x =>
        obtain ⟨G', J', e1, e2, e3, e4⟩ := c_cnn_err h g (hb_m (n := nLv N) (by omega)) (by decide) q
        refine ⟨false, G', J', ?_, e2, rfl, e3, e4⟩
        rw [show (0 : Int32) = nI 0 from rfl, e1, bnS_1, if_neg (by decide)]
      | ok l =>
        obtain ⟨G', J', e1, e2, e3, e4, e5⟩ := c_cnn h g (hb_m (n := nLv N) (by omega)) (by decide) q
        have hl := (nm_ok q).2.2.2
        rw [show (0 : Int32) = nI 0 from rfl, e1, bnS_1, if_pos rfl, pc_s h, bnP_1, e4, bnP_1, if_neg (by decide), if_pos rfl, c_isLost B hw.1 e3.2.2.2 hl, bnP_1]
        refine cp_pre (pf_69 e2) ?_
        show CPo σ f e c G' J' _ (if N (99 + l) = 2 then _ else _)
        by_cases y : N (99 + l) = 2
        · obtain ⟨G3, u1, u2, u3⟩ := c_bringBack (J := J') B hw e3.2.2.2 hl
          have w0 := bm_wf (l := l) (lf_wf (x := 0) hw hl (Or.inl rfl))
          obtain ⟨f1, f2⟩ := cg_upd h e3 (G2 := G3) (J2 := J') u2 (fun _ _ => rfl) w0.1 u3
          rw [if_pos y, decide_eq_true y, if_pos rfl, u1, bnP_1]
          exact cp_pre f2 (cp_id (c_fin h f1))
        · rw [if_neg y, decide_eq_false y, if_neg (by decide), if_neg (by decide), if_pos rfl]
          exact cp_id (c_failP h e3 3)
  · have k2 : kw f e p 14 = false := kw_x k1 (by decide) (by decide) (by decide)
    rw [if_pos rfl, if_pos rfl, pc_b h, bnP_1, cl_lv h g, bnP_1, cg_lv h g, bnP_1, k2]
    unfold lnLose
    cases q : nmS f e (tkX f e p) 0 (nLv N) with
    | error x =>
      obtain ⟨G', J', e1, e2, e3, e4⟩ := c_cnn_err h g (hb_m (n := nLv N) (by omega)) (by decide) q
      refine ⟨false, G', J', ?_, e2, rfl, e3, e4⟩
      rw [show (0 : Int32) = nI 0 from rfl, e1, bnS_1, if_neg (by decide)]
    | ok l =>
      obtain ⟨G', J', e1, e2, e3, e4, e5⟩ := c_cnn h g (hb_m (n := nLv N) (by omega)) (by decide) q
      have hl := (nm_ok q).2.2.2
      rw [show (0 : Int32) = nI 0 from rfl, e1, bnS_1, if_pos rfl, pc_s h, bnP_1, e4, bnP_1, if_pos rfl, c_isLost B hw.1 e3.2.2.2 hl, bnP_1]
      refine cp_pre (pf_69 e2) ?_
      show CPo σ f e c G' J' _ (if N (99 + l) = 2 then _ else _)
      by_cases y : N (99 + l) = 2
      · rw [if_pos y, decide_eq_true y, if_pos rfl, if_neg (by decide), if_pos rfl]
        exact cp_id (c_failP h e3 3)
      · obtain ⟨G3, u1, u2, u3⟩ := c_drop (J := J') B hw e3.2.2.2 hl
        have w0 := ls_lost (l := l) hw hl
        obtain ⟨f1, f2⟩ := cg_upd h e3 (G2 := G3) (J2 := J') u2 (fun _ _ => rfl) w0.2.2.2.2 u3
        rw [if_neg y, decide_eq_false y, if_neg (by decide), u1, bnP_1]
        exact cp_pre f2 (cp_id (c_fin h f1))
end CLF
