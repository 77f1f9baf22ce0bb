/-! p56, pure: the cases of a round -/
/-- what the law saw before the case -/
def SN (J : Nat → Nat → Int64) (w : Nat) (N : tN) : Prop := J w 3 = (N 3).toInt64 ∧ J w 9 = (N 7).toInt64 ∧ J w 11 = (stN N 0 (nWd N)).toInt64 ∧ J w 13 = (cntQ N 13).toInt64 ∧ J w 15 = (nI (ukN N)).toInt64 ∧ J w 22 = (N 21).toInt64
def CSR (o : AT Unit) (σ : HpT) (J : Nat → Nat → Int64) (q : Nat) (V : tV) (w z : Nat) : Prop :=
  ∃ σ' G' J' N' I' i j, o = some (.ok (), wc σ' G' J', i, j) ∧ LST σ' G' J' N' V w z I' ∧ I'.1 = 0 ∧ QN (q + 1) N' ∧ J' w = J w ∧ J' z = J z ∧ hN σ' ≤ hN σ + 140 ∧ i ≤ 140 ∧ j ≤ 10000
section P56D
variable {σ : HpT} {G G' : Nat → Nat → Int32} {J J' : Nat → Nat → Int64} {N N' : tN} {V : tV} {w z a i k l c q : Nat} {I : tI}
theorem cs_id (h : LST σ G J N V w z I) (hI : I.1 = 0) (hq : QN q N) : CSR (some (.ok (), wc σ G J, 0, 0)) σ J q V w z :=
  ⟨σ, G, J, N, I, 0, 0, rfl, h, hI, qn_up hq, rfl, rfl, by omega, by decide, by decide⟩
/-- the row behind a change that leaves the fees -/
theorem qn_mk (h : QN q N) (hw : WFN N') (e : ∀ j, j = 3 ∨ j = 6 ∨ j = 7 ∨ j = 8 ∨ j = 13 ∨ j = 22 ∨ (111 ≤ j ∧ j < 127) → N' j = N j) (e19 : N' 19 = N 19 ∨ N' 19 ≠ 0) (m : N' 21 = N 21 ∨ N' 21 = N 21 + 1) : QN (q + 1) N' := by
  obtain ⟨h1, h2, h3, ⟨c, h4, h5⟩, ⟨k, h6, h7⟩, h8⟩ := h
  have hb := w1_b h1.1
  have n2 : nAc N' = nAc N := congrArg Int32.toNatClampNeg (e 3 (by omega))
  refine ⟨hw, n2.trans h2, csh_eq h3 n2 (congrArg Int32.toNatClampNeg (e 6 (by omega))) (e 7 (by omega)) (e 8 (by omega)) (fun a ha => e _ (by omega)) (fun c hc => congrArg Int32.toNatClampNeg (e _ (by omega))), ⟨c, by rw [e 7 (by omega)]; exact h4, by omega⟩, ?_, fun y => ?_⟩
  · rcases m with m | m
    · exact ⟨k, by rw [m]; exact h6, by omega⟩
    · exact ⟨k + 1, by rw [m, h6, nI_a1], by omega⟩
  · rcases e19 with e19 | e19
    · rw [e19] at y
      rw [e 22 (by omega)]
      exact h8 y
    · exact absurd y e19
theorem qn_lf (h : QN q N) (hw : WFN N') (f : ∀ j, (j < 99 ∨ 99 + nLv N ≤ j) → N' j = N j) : QN (q + 1) N' := by
  have h12 := nlv_12 h.1.1
  exact qn_mk h hw (fun j hj => f j (by omega)) (Or.inl (f 19 (by omega))) (Or.inl (f 21 (by omega)))
theorem opN_2 (h : QN q N) : (isO N ∧ opN N = nI 2) ∨ (¬ isO N ∧ opN N = nI 0) := by
  unfold opN isO
  by_cases y : 0 < nAc N ∧ N (9 + 9 * (nAc N - 1) + 1) = 0
  · refine Or.inl ⟨y, ?_⟩
    rw [if_pos y, h.2.1]
  · refine Or.inr ⟨y, ?_⟩
    rw [if_neg y]
    rfl
theorem op_2 (h : QN q N) (qo : isO N) : opN N = nI 2 := by
  rcases opN_2 h with y | y
  · exact y.2
  · exact absurd qo y.1
theorem op_19 (h : QN q N) (qo : isO N) : N 19 = 0 := by
  have := qo.2
  rw [h.2.1] at this
  exact this
theorem strQ_1 (hw : WFN N) (qo : isO N) (hi : i < aM N (nAc N - 1)) : strQ N (nI i) = if skN N (opW N i) = true then 0 else 3 := by
  have hb := w2_b hw.2.1 (a := nAc N - 1) (by have := qo.1; omega)
  unfold strQ
  rw [if_pos (show 0 < nAc N ∧ N (9 + 9 * (nAc N - 1) + 1) = 0 from qo), inR_y (Nat.zero_le i) (by omega) (by omega), if_pos rfl, nI_clamp (by omega)]
  rfl
theorem aj_w (h : LST σ G J N V w z I) {n : Nat} (hn : n < 100) : aJ (wc σ G J) (some w) (nI n) = some (J w n) := by
  obtain ⟨⟨k1, k2, k3, k4⟩, -⟩ := ls_ar h
  exact aJ_c k1 k4 k2 hn (by decide)
theorem cs_strike (h : LST σ G J N V w z I) (hI : I.1 = 0) (hq : QN q N) (hq18 : q < 18) (s : SN J w N) (hb : hN σ + 200 < BIG) (v v12 v13 v14 : Int32) : CSR (fL_strike (some 0) (some 80) (some w) (opN N) v v12 v13 v14 (wc σ G J)) σ J q V w z := by
  have hw := hq.1
  have n2 := hq.2.1
  have hbN := w1_b hw.1
  unfold fL_strike
  rw [lq_wns h, exO_1, bnP_1]
  by_cases y : strQ N v = 0
  · rw [if_pos y]
    obtain ⟨qo, i, rfl, hi, hs⟩ := strQ_t hw.1 hw.2.1 (Or.inl y)
    have ha : nAc N - 1 < nAc N := by omega
    have hle := act_le hw.1 hw.2.1 ha
    have hof : opW N i + 1 ≤ nWd N := by unfold opW; omega
    have sk : skN N (opW N i) = true := by
      cases e : skN N (opW N i)
      · rw [e, if_neg (by decide), y] at hs
        cases hs
      · rfl
    obtain ⟨σ1, G1, J1, i1, j1, e1, L1, w1, z1, n1, c1, d1⟩ := ls_si h (v := nI i) (cl := 0) (by
      unfold askB
      rw [y]
      rfl)
    obtain ⟨σ2, G2, J2, i2, j2, e2, L2, w2, z2, n2', c2, d2⟩ := ls_strike L1 (by omega) (v := nI i) y
    rw [nI_clamp (by omega)] at e1 e2 L2
    have st := stk_st (f := opW N i) (n := 1) hw qo hof
    have wf := stk_wf (f := opW N i) (n := 1) hw hof
    have ex : stN (stkN N (opW N i) 1) (aF N (nAc N - 1)) (aM N (nAc N - 1)) = siQ N i 0 := by
      have e := st_stk hw (f := aF N (nAc N - 1)) (n := aM N (nAc N - 1)) (f' := opW N i) (n' := 1) (by unfold opW; omega) (by unfold opW; omega)
      have ec : cntN (fun k => skN N (opW N i + k)) 1 = 1 := by
        show 0 + (if skN N (opW N i + 0) = true then 1 else 0) = 1
        rw [Nat.add_zero, sk]
        rfl
      rw [ec] at e
      unfold siQ
      rw [if_pos rfl, sk, show bI true = nI 1 from rfl, ← e, Int32.add_sub_cancel]
    have s3 : strQ (stkN N (opW N i) 1) (nI i) = 3 := by
      have eo : opW (stkN N (opW N i) 1) i = opW N i := by
        unfold opW at st ⊢
        rw [st.2.1, st.2.2.1]
      rw [strQ_1 wf st.1 (by rw [st.2.1, st.2.2.2]; exact hi), eo, sk_stk hw, decide_eq_true (show opW N i ≤ opW N i ∧ opW N i < opW N i + 1 by omega), Bool.not_true, Bool.and_false]
      rfl
    have m := stk_m (N := N) (f := opW N i) (n := 1) (by omega)
    rw [n2] at m
    have m : stkN N (opW N i) 1 21 = N 21 + 1 := m
    have qn : QN (q + 1) (stkN N (opW N i) 1) := qn_mk hq wf (fun j hj => stk_o (by omega) (by omega)) (Or.inl (stk_o (by omega) (by omega))) (Or.inr m)
    obtain ⟨mk, m1, m2⟩ := hq.2.2.2.2.1
    rw [e1, bnO_ok, e2, bnO_ok, if_pos ex, bnP_1, lq_wns L2, exO_1, bnP_1, s3, if_pos rfl, bnP_1, op_2 hq qo, show fX9_act (some 0) (nI 2) 3 (wc σ2 G2 J2) = _ from lq_act L2 (a := 1) (by rw [st.2.1]; omega) 3 (by decide), exO_1, bnP_1, show (20 : Int32) + nI 2 = nI 22 from by decide, aj_w L2 (by decide), bnP_1, w2.trans w1, s.2.2.2.2.2, show actW (stkN N (opW N i) 1) 1 3 = stkN N (opW N i) 1 21 from rfl, m, m1, if_pos ((lg_cmp_eq _ _).mpr (by rw [nI_a1, j_1 (by omega)]))]
    exact ⟨σ2, G2, J2, _, I, _, _, rfl, L2, hI, qn, w2.trans w1, z2.trans z1, by omega, by omega, by omega⟩
  · rw [if_neg y]
    exact cs_id h hI hq
theorem cov_w (hw : WFN N) {a g : Nat} (ha : a < nAc N) (h1 : aF N a ≤ g) (h2 : g < aF N a + aM N a) (hc : 0 < cov (cF N) (cT N) (aK N a) (aC N a) g) : ∃ p, wW N g = p + 1 ∧ aF N a ≤ cF N p ∧ cF N p ≤ cT N p ∧ cT N p < aF N a + aM N a := by
  obtain ⟨x1, x2, x3⟩ := (hw.2.2.1 a ha).2 g h1 h2
  rcases x2 with ⟨-, y⟩ | ⟨p, y1, y2, y3, -⟩
  · exfalso
    have : cov (cF N) (cT N) (aK N a) (aC N a) g = 0 := cntN_zero fun i hi => by
      have := y (aK N a + i) (by omega) (by omega)
      by_cases u : cF N (aK N a + i) ≤ g
      · rw [decide_eq_false (show ¬ g ≤ cT N (aK N a + i) from fun v => this ⟨u, v⟩), Bool.and_false]
      · rw [decide_eq_false u, Bool.false_and]
    omega
  · obtain ⟨-, -, -, u1, u2, u3, -⟩ := (hw.2.2.1 a ha).1 p y2 y3
    exact ⟨p, y1, u1, u2, u3⟩
theorem cs_clause (h : LST σ G J N V w z I) (hI : I.1 = 0) (hq : QN q N) (s : SN J w N) (hb : hN σ + 200 < BIG) (hi : isO N → i < aM N 1) (v12 v13 v14 : Int32) : CSR (fL_clause (some 0) (some 80) (some w) (opN N) (nI i) v12 v13 v14 (wc σ G J)) σ J q V w z := by
  have hw := hq.1
  have n2 := hq.2.1
  have hbN := w1_b hw.1
  have h1lt : 1 < nAc N := by omega
  have hle := act_le hw.1 hw.2.1 h1lt
  unfold fL_clause
  rcases opN_2 hq with ⟨qo, eo⟩ | ⟨qo, eo⟩
  · have hi := hi qo
    have hg2 := cntN_le (fun i_1 => decide (cF N (aK N 1 + i_1) ≤ aF N 1 + i) && decide (aF N 1 + i ≤ cT N (aK N 1 + i_1))) (aC N 1)
    have hC := w2_b hw.2.1 h1lt
    have hcl : cov (cF N) (cT N) (aK N 1) (aC N 1) (aF N 1 + i) ≤ aC N 1 := hg2
    rw [eo, if_neg (show ¬ nI 2 ≤ 0 by decide), show fX9_word (some 0) (nI 2) (nI i) 2 (wc σ G J) = _ from lq_word h (a := 1) h1lt hi 2 (by decide), exO_1, bnP_1, show wrdW N 1 (aF N 1 + i) 2 = nI (cov (cF N) (cT N) (aK N 1) (aC N 1) (aF N 1 + i)) from rfl]
    by_cases y : 0 < cov (cF N) (cT N) (aK N 1) (aC N 1) (aF N 1 + i)
    · obtain ⟨p, hp, f1, f2, f3⟩ := cov_w hw h1lt (by omega) (by omega) y
      have eW : opW N i = aF N 1 + i := by
        unfold opW
        rw [n2]
      have hp' : wW N (opW N i) = p + 1 := by rw [eW]; exact hp
      have hf : cF N p + (cT N p - cF N p + 1) ≤ nWd N := by omega
      have hi' : i < aM N (nAc N - 1) := by rw [n2]; exact hi
      generalize hn : cT N p - cF N p + 1 = n at hf
      have st := stk_st (f := cF N p) (n := n) hw qo hf
      have wf := stk_wf (f := cF N p) (n := n) hw hf
      obtain ⟨σ1, G1, J1, i1, j1, e1, L1, w1, z1, n1, c1, d1⟩ := ls_si h (v := nI i) (cl := 1) (by
        unfold askB
        rw [strQ_1 hw qo hi', nI_clamp (by omega), hp', decide_eq_true (show 0 < p + 1 by omega), Bool.or_true, Bool.and_true]
        cases skN N (opW N i)
        · rfl
        · rfl)
      obtain ⟨σ2, G2, J2, i2, j2, e2, L2, w2, z2, n2', c2, d2⟩ := ls_clause L1 (by omega) qo hi' hp' (by rw [hn]; exact hf)
      rw [hn] at e2 L2
      rw [nI_clamp (by omega)] at e1
      have sn := sm_n (stk_s (f := cF N p) (n := n) hw hf)
      have sa := sm_a (stk_s (f := cF N p) (n := n) hw hf) h1lt
      have hcn := cntN_le (fun k => skN N (cF N p + k)) n
      have ex : stN (stkN N (cF N p) n) (aF N 1) (aM N 1) = siQ N i 1 := by
        have e := st_stk hw (f := aF N 1) (n := aM N 1) (f' := cF N p) (n' := n) f1 (by omega)
        unfold siQ
        rw [if_neg (by decide), hp', Nat.add_sub_cancel, hn, n2, ← e, Int32.add_sub_cancel]
      have m := stk_m (N := N) (f := cF N p) (n := n) (by omega)
      rw [n2] at m
      have m : stkN N (cF N p) n 21 = N 21 + 1 := m
      have qn : QN (q + 1) (stkN N (cF N p) n) := qn_mk hq wf (fun j hj => stk_o (by omega) (by omega)) (Or.inl (stk_o (by omega) (by omega))) (Or.inr m)
      have et : (stN N 0 (nWd N)).toInt64 - (nI (cntN (fun k => skN N (cF N p + k)) n)).toInt64 = (stN (stkN N (cF N p) n) 0 (nWd N)).toInt64 := by
        have e := st_stk hw (f := 0) (n := nWd N) (f' := cF N p) (n' := n) (Nat.zero_le _) (by omega)
        obtain ⟨s1, x1, x2⟩ := stn_n hw (f := 0) (n := nWd N) (by omega)
        obtain ⟨s2, x3, x4⟩ := stn_n wf (f := 0) (n := nWd N) (by rw [sn.2.2.1]; omega)
        rw [x1, x3, nI_add] at e
        have e := (nI_eq (by omega) (by omega)).mp e
        rw [x1, x3, j_sub (by omega) (by omega)]
        congr 2
        omega
      rw [if_neg (nI_nle y (by omega)), e1, bnO_ok, e2, bnO_ok, show fX9_act (some 0) (nI 2) 5 (wc σ2 G2 J2) = _ from lq_act L2 (a := 1) (by rw [sn.2.1]; omega) 5 (by decide), exO_1, bnP_1, show actW (stkN N (cF N p) n) 1 5 = stN (stkN N (cF N p) n) (aF (stkN N (cF N p) n) 1) (aM (stkN N (cF N p) n) 1) from rfl, sa.1, sa.2.1, if_pos ex, bnP_1, show aJ (wc σ2 G2 J2) (some w) 11 = _ from aj_w L2 (n := 11) (by decide), bnP_1, show fX9_count (some 0) 11 (wc σ2 G2 J2) = _ from lq_count L2 11 (by decide), exO_1, bnP_1, w2.trans w1, s.2.2.1, show cntQ (stkN N (cF N p) n) 11 = stN (stkN N (cF N p) n) 0 (nWd (stkN N (cF N p) n)) from rfl, sn.2.2.1, if_pos ((lg_cmp_eq _ _).mpr et)]
      exact ⟨σ2, G2, J2, _, I, _, _, rfl, L2, hI, qn, w2.trans w1, z2.trans z1, by omega, by omega, by omega⟩
    · rw [if_pos (show nI (cov (cF N) (cT N) (aK N 1) (aC N 1) (aF N 1 + i)) ≤ 0 from nI_le (b := 0) (by omega) (by decide))]
      exact cs_id h hI hq
  · rw [eo, if_pos (show nI 0 ≤ 0 by decide)]
    exact cs_id h hI hq
theorem cs_seal (h : LST σ G J N V w z I) (hI : I.1 = 0) (hq : QN q N) (hq18 : q < 18) (s : SN J w N) (hb : hN σ + 200 < BIG) (v11 v12 v13 v14 : Int32) : CSR (fL_seal (some 0) (some 80) (some w) (opN N) v11 v12 v13 v14 (wc σ G J)) σ J q V w z := by
  have hw := hq.1
  have n2 := hq.2.1
  have hbN := w1_b hw.1
  have h1lt : 1 < nAc N := by omega
  unfold fL_seal
  rcases opN_2 hq with ⟨qo, eo⟩ | ⟨qo, eo⟩
  · obtain ⟨m, m1, m2⟩ := hq.2.2.2.2.1
    have hu : inR (N 21) 0 99 = true := by
      rw [m1]
      exact inR_y (lo := 0) (hi := 99) (Nat.zero_le _) (by omega) (by decide)
    have a3 : fX9_act (some 0) (nI 2) 3 (wc σ G J) = some (.ok (N 21)) := lq_act h (a := 1) h1lt 3 (by decide)
    rw [eo, if_neg (show ¬ nI 2 ≤ 0 by decide), a3, exO_1, bnP_1, lq_wnl h (show inR 4 0 9 = true by decide) hu, exO_1, bnP_1]
    by_cases y : sealQ N 4 (N 21) = 0
    · obtain ⟨σ2, G2, J2, i2, j2, e2, L2, w2, z2, n2', c2, d2⟩ := ls_seal h (by omega) (show inR 4 0 9 = true by decide) hu y
      have wf := sl_wf (p := 4) (fe := feQ N) (d := feQ N) hw qo (Or.inl rfl : (1 : Int32) = 1 ∨ (1 : Int32) = 2)
      have sn := sm_n (sl_s (s := 1) (p := 4) (fe := feQ N) (d := feQ N) hw)
      obtain ⟨fs, x1, x2⟩ := stn_n hw (f := aF N 1) (n := aM N 1) (act_le hw.1 hw.2.1 h1lt)
      have hm := w2_b hw.2.1 h1lt
      have ef : ∃ f, feQ N = nI f ∧ f ≤ 1210 := by
        unfold feQ bsF
        rw [n2, x1]
        have e5 : (5 : Int32) + nI fs = nI (5 + fs) := nI_add 5 fs
        have e3 : (3 : Int32) + nI fs = nI (3 + fs) := nI_add 3 fs
        have e4 : (4 : Int32) + nI fs = nI (4 + fs) := nI_add 4 fs
        split
        · exact ⟨_, e5, by omega⟩
        · split
          · exact ⟨_, e3, by omega⟩
          · exact ⟨_, e4, by omega⟩
      obtain ⟨f, f1, f2⟩ := ef
      have h7 : sealN N 1 4 (feQ N) (feQ N) 7 = N 7 + feQ N := by
        unfold sealN
        rw [if_neg (by omega), if_neg (by omega), if_neg (by omega), if_pos rfl]
      have h22 : sealN N 1 4 (feQ N) (feQ N) 22 = feQ N := by
        unfold sealN
        rw [if_neg (by omega), if_neg (by omega), if_pos (by omega)]
      have h19 : sealN N 1 4 (feQ N) (feQ N) 19 = 1 := by
        unfold sealN
        rw [if_pos (by omega)]
      obtain ⟨c, c7, c8⟩ := hq.2.2.2.1
      have qn : QN (q + 1) (sealN N 1 4 (feQ N) (feQ N)) := by
        refine ⟨wf, sn.2.1.trans n2, ?_, ⟨c + f, by rw [h7, c7, f1, nI_add], by omega⟩, ⟨m, by rw [sl_o (by omega) (by omega) (by omega) (by omega)]; exact m1, by omega⟩, fun y => by rw [h19] at y; cases y⟩
        have c := hq.2.2.1
        have z22 := hq.2.2.2.2.2 (op_19 hq qo)
        unfold CSH at c ⊢
        rw [sn.2.1, show nCp (sealN N 1 4 (feQ N) (feQ N)) = nCp N from congrArg Int32.toNatClampNeg (sl_o (by omega) (by omega) (by omega) (by omega)), h7, show sealN N 1 4 (feQ N) (feQ N) 8 = N 8 from sl_o (by omega) (by omega) (by omega) (by omega), sumI_cong (f := fun c => 3 - nI (oG (sealN N 1 4 (feQ N) (feQ N)) c)) (g := fun c => 3 - nI (oG N c)) (fun k hk => by
          show 3 - nI (oG (sealN N 1 4 (feQ N) (feQ N)) k) = 3 - nI (oG N k)
          rw [show oG (sealN N 1 4 (feQ N) (feQ N)) k = oG N k from congrArg Int32.toNatClampNeg (sl_o (by omega) (by omega) (by omega) (by omega))]), sumI_plus (f := fun a => N (9 + 9 * a + 4)) (g := fun a => sealN N 1 4 (feQ N) (feQ N) (9 + 9 * a + 4)) (y := feQ N) (n := nAc N) (j := 1) h1lt (by
          show sealN N 1 4 (feQ N) (feQ N) 22 = N 22 + feQ N
          rw [h22, z22, Int32.zero_add]) (fun k hk hne => sl_o (by omega) (by omega) (by omega) (by omega))]
        generalize sumI (fun a => N (9 + 9 * a + 4)) (nAc N) = x at c ⊢
        generalize sumI (fun c => 3 - nI (oG N c)) (nCp N) = u at c ⊢
        rw [c, Int32.add_assoc (N 8 + x) u, Int32.add_comm u, ← Int32.add_assoc (N 8 + x), Int32.add_assoc (N 8) x]
      have op0 : opN (sealN N 1 4 (feQ N) (feQ N)) = 0 := by
        unfold opN
        rw [if_neg]
        rintro ⟨-, y2⟩
        rw [sn.2.1, n2, show 9 + 9 * (2 - 1) + 1 = 19 from rfl, h19] at y2
        cases y2
      rw [if_pos y, bnP_1, e2, bnO_ok, show fX9_count (some 0) 9 (wc σ2 G2 J2) = _ from lq_count L2 9 (by decide), exO_1, bnP_1, show aJ (wc σ2 G2 J2) (some w) 9 = _ from aj_w L2 (n := 9) (by decide), bnP_1, w2, s.2.1, show cntQ (sealN N 1 4 (feQ N) (feQ N)) 9 = sealN N 1 4 (feQ N) (feQ N) 7 from rfl, h7, if_pos ((lg_cmp_eq _ _).mpr (show (N 7 + feQ N).toInt64 = (N 7).toInt64 + (feQ N).toInt64 by rw [c7, f1, nI_add, j_add (by omega)])), bnP_1, show fX9_count (some 0) 14 (wc σ2 G2 J2) = _ from lq_count L2 14 (by decide), exO_1, bnP_1, show cntQ (sealN N 1 4 (feQ N) (feQ N)) 14 = opN (sealN N 1 4 (feQ N) (feQ N)) from rfl, op0, if_pos rfl, bnP_1, show fX9_act (some 0) (nI 2) 1 (wc σ2 G2 J2) = _ from lq_act L2 (a := 1) (by rw [sn.2.1]; exact h1lt) 1 (by decide), exO_1, bnP_1, show actW (sealN N 1 4 (feQ N) (feQ N)) 1 1 = sealN N 1 4 (feQ N) (feQ N) 19 from rfl, h19, if_pos rfl]
      exact ⟨σ2, G2, J2, _, I, _, _, rfl, L2, hI, qn, w2, z2, by omega, by omega, by omega⟩
    · rw [if_neg y]
      exact cs_id h hI hq
  · rw [eo, if_pos (show nI 0 ≤ 0 by decide)]
    exact cs_id h hI hq
theorem cs_cancel (h : LST σ G J N V w z I) (hI : I.1 = 0) (hq : QN q N) (s : SN J w N) (hb : hN σ + 200 < BIG) (v11 v12 v13 v14 : Int32) : CSR (fL_cancel (some 0) (some 80) (some w) (opN N) v11 v12 v13 v14 (wc σ G J)) σ J q V w z := by
  have hw := hq.1
  have n2 := hq.2.1
  have hbN := w1_b hw.1
  have h1lt : 1 < nAc N := by omega
  unfold fL_cancel
  rcases opN_2 hq with ⟨qo, eo⟩ | ⟨qo, eo⟩
  · obtain ⟨σ2, G2, J2, i2, j2, e2, L2, w2, z2, n2', c2, d2⟩ := ls_cancel h (by omega) qo
    generalize hN2 : sealN N 2 (N (11 + 9 * (nAc N - 1))) (N (13 + 9 * (nAc N - 1))) 0 = N2 at L2
    have wf : WFN N2 := by rw [← hN2]; exact sl_wf hw qo (Or.inr rfl)
    have sn : nAc N2 = nAc N := by rw [← hN2]; exact (sm_n (sl_s hw)).2.1
    have o : ∀ j, j ≠ 19 → N2 j = N j := fun j hj => by
      rw [← hN2]
      unfold sealN
      rw [if_neg (by omega)]
      by_cases y1 : j = 11 + 9 * (nAc N - 1)
      · rw [if_pos y1, y1]
      · rw [if_neg y1]
        by_cases y2 : j = 13 + 9 * (nAc N - 1)
        · rw [if_pos y2, y2]
        · rw [if_neg y2]
          split
          · exact Int32.add_zero _
          · rfl
    have h19 : N2 19 = 2 := by
      rw [← hN2]
      unfold sealN
      rw [if_pos (by omega)]
    have qn : QN (q + 1) N2 := qn_mk hq wf (fun j hj => o j (by omega)) (Or.inr (by rw [h19]; decide)) (Or.inl (o 21 (by decide)))
    have e13 : cntN (fun a => decide (N2 (9 + 9 * a + 1) = 2)) (nAc N2) = cntN (fun a => decide (N (9 + 9 * a + 1) = 2)) (nAc N) + 1 := by
      rw [sn]
      refine cntN_mo (j := 1) h1lt ?_ ?_ (fun k hk hne => ?_)
      · show decide (N2 19 = 2) = true
        rw [h19]
        rfl
      · show decide (N 19 = 2) = false
        rw [op_19 hq qo]
        rfl
      · show decide (N2 (9 + 9 * k + 1) = 2) = decide (N (9 + 9 * k + 1) = 2)
        rw [o _ (by omega)]
    have hc := cntN_le (fun a => decide (N (9 + 9 * a + 1) = 2)) (nAc N)
    rw [eo, if_neg (show ¬ nI 2 ≤ 0 by decide), e2, bnO_ok, (w1_e hw.1).2.1, n2, if_pos rfl, bnP_1, show fX9_count (some 0) 13 (wc σ2 G2 J2) = _ from lq_count L2 13 (by decide), exO_1, bnP_1, show aJ (wc σ2 G2 J2) (some w) 13 = _ from aj_w L2 (n := 13) (by decide), bnP_1, w2, s.2.2.2.1, show cntQ N2 13 = nI (cntN (fun a => decide (N2 (9 + 9 * a + 1) = 2)) (nAc N2)) from rfl, show cntQ N 13 = nI (cntN (fun a => decide (N (9 + 9 * a + 1) = 2)) (nAc N)) from rfl, e13, if_pos ((lg_cmp_eq _ _).mpr (by rw [j_1 (by omega)]))]
    exact ⟨σ2, G2, J2, _, I, _, _, rfl, L2, hI, qn, w2, z2, by omega, by omega, by omega⟩
  · rw [eo, if_pos (show nI 0 ≤ 0 by decide)]
    exact cs_id h hI hq
end P56D
