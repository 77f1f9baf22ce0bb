/-! THE PURE LEVEL, 84: the class reads a line (but of an act) -/
section CLN
variable {σ : HpT} {G : Nat → Nat → Int32} {J : Nat → Nat → Int64} {f : Nat → Int32} {e p c : Nat} {N : tN}
theorem cl_strike (h : PC σ c) (g : CGd f e p c N G J) : CPo σ f e c G J (fX5_readStrikeLine (some 68) (wc σ G J)) (lnStrike f e p N) := by
  have hw := g.2.2.1
  have B := pc_B h
  have hz := opSz_b hw.1 hw.2.1
  unfold fX5_readStrikeLine lnStrike
  rw [pc_o h, bnP_1, pc_b h, bnP_1, c_openSize B hw.1 hw.2.1 g.2.2.2, bnP_1]
  cases q : nmS f e (tkX f e p) 0 (opSz N) with
  | error x =>
    obtain ⟨G', J', e1, e2, e3, e4⟩ := c_cnn_err h g (hb_m (n := opSz N) (by omega)) (by decide) q
    refine ⟨false, G', J', ?_, e2, rfl, e3, e4⟩
    rw [show (0 : Int32) = nI 0 from rfl, e1, bnS_1, if_neg (by decide)]
  | ok v =>
    obtain ⟨G', J', e1, e2, e3, e4, e5⟩ := c_cnn h g (hb_m (n := opSz N) (by omega)) (by decide) q
    obtain ⟨-, -, -, q4⟩ := nm_ok q
    obtain ⟨qo, qs⟩ := hz.2 (by omega)
    rw [show (0 : Int32) = nI 0 from rfl, e1, bnS_1, if_pos rfl, pc_b h, bnP_1, pc_s h, bnP_1, e4, bnP_1, c_strikeReason B hw e3.2.2.2, bnP_1]
    refine cp_pre (pf_69 e2) ?_
    show CPo σ f e c G' J' _ (if strQ N (nI v) = 0 then _ else _)
    by_cases y : strQ N (nI v) = 0
    · have sk := c_strikeWord B hw e3.2.2.2 qo (i := v) (by omega)
      obtain ⟨f1, f2⟩ := cg_upd (N2 := stkN N (opW N v) 1) h e3 (G2 := up (cw G' (c + 7) (stfG (opW N v) 1 (G' (c + 7)))) (c + 15 + (nAc N - 1)) 4 (G' (c + 15 + (nAc N - 1)) 4 + 1)) (J2 := J') (fun a ha => by have := w1_b hw.1; rw [up_a (by omega), cw_b (by omega)]) (fun _ _ => rfl) (stk_wf hw (by have := act_le hw.1 hw.2.1 (a := nAc N - 1) (by have := qo.1; omega); unfold opW; omega)) (stk_rb hw qo (by unfold opW; omega) (by unfold opW; omega) e3.2.2.2 (by rw [up_a (by omega), cw_a]) (by rw [up_is, cw_a, cw_b (by omega)]) (fun a h1 h2 => by rw [up_a h2, cw_b h1]))
      rw [if_pos y, if_pos (show strQ N (nI v) = nI 0 from y), bnP_1, bnP_1, e4, bnP_1, sk, bnP_1]
      exact cp_pre f2 (cp_id (c_fin h f1))
    · rw [if_neg y, if_neg (show ¬ strQ N (nI v) = nI 0 from y)]
      exact cp_id (c_failP h e3 3)
theorem cl_out (h : PC σ c) (g : CGd f e p c N G J) : CPo σ f e c G J (fX5_readOutLine (some 68) (wc σ G J)) (lnOut f e p N) := by
  have hw := g.2.2.1
  have B := pc_B h
  have hz := opSz_b hw.1 hw.2.1
  unfold fX5_readOutLine lnOut
  rw [pc_o h, bnP_1, pc_b h, bnP_1, c_openSize B hw.1 hw.2.1 g.2.2.2, bnP_1]
  cases q : nmS f e (tkX f e p) 0 (opSz N) with
  | error x =>
    obtain ⟨G', J', e1, e2, e3, e4⟩ := c_cnn_err h g (hb_m (n := opSz N) (by omega)) (by decide) q
    refine ⟨false, G', J', ?_, e2, rfl, e3, e4⟩
    rw [show (0 : Int32) = nI 0 from rfl, e1, bnS_1, if_neg (by decide)]
  | ok v =>
    obtain ⟨G', J', e1, e2, e3, e4, e5⟩ := c_cnn h g (hb_m (n := opSz N) (by omega)) (by decide) q
    obtain ⟨-, -, -, q4⟩ := nm_ok q
    obtain ⟨qo, qs⟩ := hz.2 (by omega)
    rw [show (0 : Int32) = nI 0 from rfl, e1, bnS_1, if_pos rfl, pc_b h, bnP_1, pc_s h, bnP_1, e4, bnP_1]
    refine cp_pre (pf_69 e2) ?_
    show CPo σ f e c G' J' _ (if wW N (opW N v) = 0 then _ else _)
    by_cases y : wW N (opW N v) = 0
    · rw [if_pos y, c_seekA0 B hw e3.2.2.2 (Or.inr ⟨qo, Or.inr (by rw [nI_clamp (by omega)]; exact y)⟩), bnS_1, if_neg (by decide)]
      exact cp_id (c_failP h e3 3)
    · obtain ⟨k, hk⟩ : ∃ k, wW N (opW N v) = k + 1 := ⟨wW N (opW N v) - 1, by omega⟩
      obtain ⟨s, s1, -⟩ := c_seekA1 B hw e3.2.2.2 qo (by omega) hk
      have hc := h.2.2.2.2
      obtain ⟨f1, f2⟩ := cg_upd (N2 := N) h e3 (G2 := cw G' (c + 13) s) (J2 := J') (fun a ha => cw_b (by omega)) (fun _ _ => rfl) hw (rb_s13 hw.1 e3.2.2.2 s)
      obtain ⟨G2, t1, t2, t3⟩ := c_strikeAround (J := J') B hw f1.2.2.2 qo (by omega) hk
      have hkb : cF N k ≤ cT N k ∧ cT N k < nWd N := by
        obtain ⟨-, -, z⟩ := w3_w hw.2.2.1 (a := nAc N - 1) (g := opW N v) (by have := qo.1; omega) (by unfold opW; omega) (by unfold opW; omega)
        rcases z with ⟨z, -⟩ | ⟨p', z1, z2, z3, z4, z5, z6⟩
        · omega
        · obtain rfl : p' = k := by omega
          have cl := w3_cl hw.2.2.1 (a := nAc N - 1) (by have := qo.1; omega) p' z2 z3
          have hl := act_le hw.1 hw.2.1 (a := nAc N - 1) (by have := qo.1; omega)
          omega
      obtain ⟨f3, f4⟩ := cg_upd (N2 := stkN N (cF N k) (cT N k - cF N k + 1)) h f1 (G2 := G2) (J2 := J') t2 (fun _ _ => rfl) (stk_wf hw (by omega)) t3
      rw [if_neg y, s1, bnS_1, if_pos rfl, pc_b h, bnP_1, pc_s h, bnP_1, cg_num h f1 (by exact (nm_ok q).1), (nm_ok q).2.1, bnP_1, t1, bnS_1, hk, Nat.add_sub_cancel]
      exact cp_pre f2 (cp_pre f4 (cp_id (c_fin h f3)))
theorem cl_insert (h : PC σ c) (g : CGd f e p c N G J) : CPo σ f e c G J (fX5_readInsertLine (some 68) (wc σ G J)) (lnInsert f e p N) := by
  have hw := g.2.2.1
  have B := pc_B h
  have hz := opSz_b hw.1 hw.2.1
  unfold fX5_readInsertLine lnInsert
  rw [pc_o h, bnP_1, pc_b h, bnP_1, c_openSize B hw.1 hw.2.1 g.2.2.2, bnP_1]
  cases q : nmS f e (tkX f e p) 0 (opSz N) with
  | error x =>
    obtain ⟨G', J', e1, e2, e3, e4⟩ := c_cnn_err h g (hb_m (n := opSz N) (by omega)) (by decide) q
    refine ⟨false, G', J', ?_, e2, rfl, e3, e4⟩
    rw [show (0 : Int32) = nI 0 from rfl, e1, bnS_1, if_neg (by decide)]
  | ok v =>
    obtain ⟨G', J', e1, e2, e3, e4, e5⟩ := c_cnn h g (hb_m (n := opSz N) (by omega)) (by decide) q
    obtain ⟨-, -, -, q4⟩ := nm_ok q
    obtain ⟨qo, qs⟩ := hz.2 (by omega)
    have eci : ciB N (nI v) = decide (wN' N (opW N v) < 4) := by
      unfold ciB
      rw [askB_0, decide_eq_true (show 0 < nAc N ∧ N (9 + 9 * (nAc N - 1) + 1) = 0 from qo), inR_nI (by omega) (by decide) (by omega), decide_eq_true (Nat.zero_le v), decide_eq_true (show v ≤ aM N (nAc N - 1) - 1 by omega), nI_clamp (by omega)]
      rfl
    rw [show (0 : Int32) = nI 0 from rfl, e1, bnS_1, if_pos rfl, pc_s h, bnP_1, e4, bnP_1, pc_b h, bnP_1, c_canInsert B hw e3.2.2.2, bnP_1, eci]
    refine cp_pre (pf_69 e2) ?_
    show CPo σ f e c G' J' _ (if wN' N (opW N v) < 4 then _ else _)
    by_cases y : wN' N (opW N v) < 4
    · obtain ⟨G2, J2, s1, s2, s3⟩ := c_stepX h e3
      have h7 := tk_7 (f := f) (e := e) (p := tkX f e (tkX f e p))
      rw [if_pos y, decide_eq_true y, if_pos rfl, bnP_1, s1, bnP_1, pc_s h, bnP_1, cg_kind h s3, bnP_1]
      refine cp_pre (pf_69 s2) ?_
      by_cases z : tkK f e (tkX f e (tkX f e p)) = 1
      · have hwd := tk_wd s3.1.2.1 z
        have wd : wdR (wLo f e (tkX f e (tkX f e p))) (wHi f e (tkX f e (tkX f e p))) (J2 69 6) := by
          rw [s3.2.1.2.2.2.2.2 z]
          exact ⟨_, _, hwd.1, hwd.2.1, fun k hk => (hwd.2.2 k hk).2, rfl, rfl, rfl⟩
        obtain ⟨G3, J3, t1, t2, t3, t4⟩ := c_insertWord B hw s3.2.2.2 qo (i := v) (by omega) y wd
        obtain ⟨f3, f4⟩ := cg_upd h s3 t2 t3 (int_wf hw (by have := act_le hw.1 hw.2.1 (a := nAc N - 1) (by have := qo.1; omega); unfold opW; omega) y) t4
        rw [if_pos z, if_pos (show nI (tkK f e (tkX f e (tkX f e p))) = 1 by rw [z]; rfl), pc_b h, bnP_1, bnP_1, pk_J h.1, bnP_1, t1, bnP_1]
        exact cp_pre f4 (cp_id (c_fin h f3))
      · rw [if_neg z, if_neg (show ¬ nI (tkK f e (tkX f e (tkX f e p))) = 1 from fun q => z ((kI h7 (by decide)).mp q))]
        exact cp_id (c_failP h s3 1)
    · rw [if_neg y, decide_eq_false y, if_neg (by decide)]
      exact cp_id (c_failP h e3 3)
theorem cl_seal (h : PC σ c) (g : CGd f e p c N G J) : CPo σ f e c G J (fX5_readSealLine (some 68) (wc σ G J)) (lnSeal f e p N) := by
  have hw := g.2.2.1
  have B := pc_B h
  unfold fX5_readSealLine lnSeal
  rw [pc_o h, bnP_1]
  cases q : nmS f e (tkX f e p) 0 10 with
  | error x =>
    obtain ⟨G', J', e1, e2, e3, e4⟩ := c_cnn_err h g (hb_n (n := 9) (by decide)) (by decide) q
    refine ⟨false, G', J', ?_, e2, rfl, e3, e4⟩
    rw [show (0 : Int32) = nI 0 from rfl, show (9 : Int32) = nI 9 from rfl, e1, bnS_1, if_neg (by decide)]
  | ok v =>
    obtain ⟨G', J', e1, e2, e3, e4, e5⟩ := c_cnn h g (hb_n (n := 9) (by decide)) (by decide) q
    rw [show (0 : Int32) = nI 0 from rfl, show (9 : Int32) = nI 9 from rfl, e1, bnS_1, if_pos rfl, pc_s h, bnP_1, e4, bnP_1]
    refine cp_pre (pf_69 e2) ?_
    show CPo σ f e c G' J' _ (match nmS f e (tkX f e (tkX f e p)) 0 100 with | .error x => _ | .ok w => _)
    cases q2 : nmS f e (tkX f e (tkX f e p)) 0 100 with
    | error x =>
      obtain ⟨G2, J2, s1, s2, s3, s4⟩ := c_cnn_err h e3 (hb_n (n := 99) (by decide)) (by decide) q2
      refine ⟨false, G2, J2, ?_, s2, rfl, s3, s4⟩
      rw [show (99 : Int32) = nI 99 from rfl, s1, bnS_1, if_neg (by decide)]
    | ok w =>
      obtain ⟨G2, J2, s1, s2, s3, s4, s5⟩ := c_cnn h e3 (hb_n (n := 99) (by decide)) (by decide) q2
      rw [show (99 : Int32) = nI 99 from rfl, s1, bnS_1, if_pos rfl, pc_b h, bnP_1, pc_s h, bnP_1, s4, bnP_1, c_sealReason B hw s3.2.2.2, bnP_1]
      refine cp_pre (pf_69 s2) ?_
      show CPo σ f e c G2 J2 _ (if sealQ N (nI v) (nI w) = 0 then _ else _)
      by_cases y : sealQ N (nI v) (nI w) = 0
      · have qo := sealQ_o y
        obtain ⟨G3, t1, t2, t3⟩ := c_sealOpen (J := J2) B hw s3.2.2.2 qo (nI v)
        obtain ⟨f3, f4⟩ := cg_upd h s3 t2 (fun _ _ => rfl) (sl_wf hw qo (Or.inl rfl)) t3
        rw [if_pos y, if_pos (show sealQ N (nI v) (nI w) = nI 0 from y), bnP_1, t1, bnS_1]
        exact cp_pre f4 (cp_id (c_fin h f3))
      · rw [if_neg y, if_neg (show ¬ sealQ N (nI v) (nI w) = nI 0 from y)]
        exact cp_id (c_failP h s3 3)
theorem cl_cancel (h : PC σ c) (g : CGd f e p c N G J) : CPo σ f e c G J (fX5_readCancelLine (some 68) (wc σ G J)) (lnCancel f e p N) := by
  have hw := g.2.2.1
  have B := pc_B h
  have hbb := w1_b hw.1
  unfold fX5_readCancelLine lnCancel
  rw [pc_o h, bnP_1, pc_b h, bnP_1]
  by_cases q : isO N
  · have hp := q.1
    have r' := g.2.2.2
    have hr := rb_act r' (a := nAc N - 1) (by omega)
    have rb2 : RB (up G (c + 15 + (nAc N - 1)) 2 2) J c (sealN N 2 (N (11 + 9 * (nAc N - 1))) (N (13 + 9 * (nAc N - 1))) 0) := by
      refine sl_rb hw q r' (fun k _ _ => by rw [up_a (by omega)]) (by rw [up_a (by omega), Int32.add_zero]) (fun k hk => up_k (by omega)) (up_eq _ _ _ _) ?_ ?_ (fun a _ h => up_a h)
      · rw [up_k (by decide), hr.2.2.2.1]
        congr 1
        omega
      · rw [up_k (by decide), hr.2.2.2.2.2.2.2]
        congr 1
        omega
    obtain ⟨f3, f4⟩ := cg_upd h g (G2 := up G (c + 15 + (nAc N - 1)) 2 2) (J2 := J) (fun a ha => up_a (by omega)) (fun _ _ => rfl) (sl_wf hw q (Or.inr rfl)) rb2
    rw [c_openAct1 B hw.1 r' q, bnP_1, if_neg (fun e => by cases e), bnP_1, if_pos (isOb_1 q)]
    unfold fX1_cancelOpen
    rw [bk_o B, bnP_1, c_openAct1 B hw.1 r' q, bnP_1, if_neg (fun e => by cases e), bk_aP B (by omega), bnP_1, bnP_1]
    exact cp_pre f4 (cp_id (c_fin h f3))
  · rw [c_openAct0 B hw.1 g.2.2.2 q, bnP_1, if_pos rfl, if_neg (fun e => q (isOb_t e))]
    exact cp_id (c_failP h g 3)
theorem cl_copy (h : PC σ c) (g : CGd f e p c N G J) : CPo σ f e c G J (fX5_readCopyLine (some 68) (wc σ G J)) (lnCopy f e p N) := by
  have hw := g.2.2.1
  have B := pc_B h
  have hbb := w1_b hw.1
  have hc := h.2.2.2.2
  unfold fX5_readCopyLine lnCopy
  rw [pc_o h, bnP_1, pc_b h, bnP_1, bk_I B, bnP_1, rb_p g.2.2.2 hw.1]
  by_cases z8 : nCp N = 8
  · rw [if_pos z8, if_neg (show ¬ nI (nCp N) < 8 by rw [z8]; decide)]
    exact cp_id (c_failP h g 4)
  · rw [if_neg z8, if_pos (show nI (nCp N) < 8 from nI_lt (b := 8) (by omega) (by decide)), bnP_1, bk_I B, bnP_1, rb_n g.2.2.2 hw.1]
    cases q : nmS f e (tkX f e p) 1 (nAc N + 1) with
    | error x =>
      obtain ⟨G', J', e1, e2, e3, e4⟩ := c_cnn_err h g (hb_n (n := nAc N) (by omega)) (by decide) q
      refine ⟨false, G', J', ?_, e2, rfl, e3, e4⟩
      rw [show (1 : Int32) = nI 1 from rfl, e1, bnS_1, if_neg (by decide)]
    | ok v =>
      obtain ⟨G', J', e1, e2, e3, e4, e5⟩ := c_cnn h g (hb_n (n := nAc N) (by omega)) (by decide) q
      obtain ⟨-, -, q3, q4⟩ := nm_ok q
      rw [show (1 : Int32) = nI 1 from rfl, e1, bnS_1, if_pos rfl, pc_s h, bnP_1, e4, bnP_1]
      refine cp_pre (pf_69 e2) ?_
      show CPo σ f e c G' J' _ (match nmS f e (tkX f e (tkX f e p)) 0 3 with | .error x => _ | .ok w => _)
      cases q2 : nmS f e (tkX f e (tkX f e p)) 0 3 with
      | error x =>
        obtain ⟨G2, J2, s1, s2, s3, s4⟩ := c_cnn_err h e3 (hb_n (n := 2) (by decide)) (by decide) q2
        refine ⟨false, G2, J2, ?_, s2, rfl, s3, s4⟩
        rw [show (0 : Int32) = nI 0 from rfl, show (2 : Int32) = nI 2 from rfl, s1, bnS_1, if_neg (by decide)]
      | ok w =>
        obtain ⟨G2, J2, s1, s2, s3, s4, s5⟩ := c_cnn h e3 (hb_n (n := 2) (by decide)) (by decide) q2
        obtain ⟨-, -, -, r4⟩ := nm_ok q2
        obtain ⟨a, rfl⟩ : ∃ a, v = a + 1 := ⟨v - 1, by omega⟩
        obtain ⟨t, t1⟩ := c_copyReason (J := J2) B hw s3.2.2.2 (a := a) (gr := w) (by omega) r4
        obtain ⟨f1, f2⟩ := cg_upd (N2 := N) h s3 (G2 := cw G2 (c + 14) t) (J2 := J2) (fun a ha => cw_b (by omega)) (fun _ _ => rfl) hw (rb_s14 hw.1 s3.2.2.2 t)
        rw [show (0 : Int32) = nI 0 from rfl, show (2 : Int32) = nI 2 from rfl, s1, bnS_1, if_pos rfl, pc_b h, bnP_1, pc_s h, bnP_1, s4, bnP_1, t1, bnS_1]
        refine cp_pre (pf_69 s2) (cp_pre f2 ?_)
        show CPo σ f e c (cw G2 (c + 14) t) J2 _ (if wcQ N (a + 1 - 1) w = 0 then _ else _)
        rw [Nat.add_sub_cancel]
        by_cases y : wcQ N a w = 0
        · have h8 := wcQ_8 hw y
          obtain ⟨G3, u1, u2, u3⟩ := c_makeCopy (J := J2) B hw f1.2.2.2 h8 (a := a) (gr := w) (by omega) r4
          obtain ⟨f3, f4⟩ := cg_upd h f1 u2 (fun _ _ => rfl) (ad_wf hw h8 (by omega) r4 (wcQ_0 y)) u3
          rw [if_pos y, if_pos (show wcQ N a w = nI 0 from y), pc_b h, bnP_1, pc_s h, bnP_1, cg_num h f1 (nm_ok q2).1, (nm_ok q2).2.1, bnP_1, u1, bnP_1]
          exact cp_pre f4 (cp_id (c_fin h f3))
        · rw [if_neg y, if_neg (show ¬ wcQ N a w = nI 0 from y)]
          exact cp_id (c_failP h f1 3)
theorem cl_shake (h : PC σ c) (g : CGd f e p c N G J) : CPo σ f e c G J (bnP (gR (wc σ G J) (some 68) 5 4) (fun x20 => bnP (gR (wc σ G J) x20 1 9) (fun x22 => bnS (fX4_dropLoose x22 (wc σ G J)) (fun x24 s26 => bnS (fX5_finishLine (some 68) s26) (fun x27 s29 => some (x27, s29)))))) (lnShake f e p N) := by
  have hw := g.2.2.1
  have B := pc_B h
  obtain ⟨w2, n2, -, f2⟩ := sh_wf hw (nLv N) (Nat.le_refl _)
  have h12 := nlv_12 hw.1
  obtain ⟨G2, e2, g2, l2⟩ := l_dropLoose (G := G) (J := J) (bk_L B) hw (rl_of g.2.2.2)
  obtain ⟨f3, f4⟩ := cg_upd h g (G2 := G2) (J2 := J) (fun a ha => g2 a (by omega) (by omega)) (fun _ _ => rfl) w2 (lv_rb hw f2 g.2.2.2 l2 (fun a h1 h2 => g2 a h1 h2))
  rw [pc_b h, bnP_1, bk_r9 B, bnP_1, e2, bnS_1]
  unfold lnShake
  exact cp_pre f4 (cp_id (c_fin h f3))
theorem kw_dj {l l2 : List Int32} (h : kwB f e p l = true) (h1 : 0 < l.length) (h2 : 0 < l2.length) (hd : l.getD 0 0 ≠ l2.getD 0 0) : kwB f e p l2 = false := by
  cases q : kwB f e p l2
  · rfl
  · exact absurd (((kwB_t _).mp h).2.2 0 h1 ▸ ((kwB_t _).mp q).2.2 0 h2 : l.getD 0 0 = l2.getD 0 0) hd
end CLN
