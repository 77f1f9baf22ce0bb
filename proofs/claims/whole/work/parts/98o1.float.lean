/-! THE PURE LEVEL, 73b: KNOWNSHARE, MEANWORDS -/
def ksQ (N : Nat → Int32) : UInt32 := if nWd N = 0 then FP.fconst0 else FP.fdiv (FP.i2f (nI (nWd N - ukN N))) (FP.i2f (nI (nWd N)))
def mwQ (N : Nat → Int32) : UInt64 := if cntN (fun a => decide (N (9 + 9 * a + 1) = 1)) (nAc N) = 0 then FP.dconst0 else FP.ddiv (FP.i2d (sumI (slN N) (nAc N))) (FP.i2d (nI (cntN (fun a => decide (N (9 + 9 * a + 1) = 1)) (nAc N))))
section FLT
variable {σ : HpT} {G : Nat → Nat → Int32} {J : Nat → Nat → Int64} {o b bs ps tx m : Nat} {P : Nat → Option Nat} {E : tE} {I T : tI} {N : Nat → Int32} {U : tU} {V : tV}
theorem ks_ok (w1 : W1 N) : FP.Core.decode FP.Core.b32 (ksQ N).toNat ≠ .nan := by
  have hb := w1_b w1
  unfold ksQ
  by_cases q : nWd N = 0
  · rw [if_pos q]
    exact f0_ok
  · rw [if_neg q]
    exact fdiv_ok (by omega) (by omega) q
theorem mw_ok (w1 : W1 N) : FP.Core.decode FP.Core.b64 (mwQ N).toNat ≠ .nan := by
  have hb := w1_b w1
  have hc := cntN_le (fun a => decide (N (9 + 9 * a + 1) = 1)) (nAc N)
  unfold mwQ
  by_cases q : cntN (fun a => decide (N (9 + 9 * a + 1) = 1)) (nAc N) = 0
  · rw [if_pos q]
    exact d0_ok
  · rw [if_neg q]
    exact ddiv_ok (by omega) q
theorem cq_knownShare (h : NK σ o b) (hwr : G o 4 ≠ 0 → WFN N ∧ RB G J b N) : fX9_knownShare (some o) (wc σ G J) = some (if G o 4 = 0 then .error 0 else .ok (ksQ N)) := by
  have B := nk_B h
  unfold fX9_knownShare
  rw [nk_o h, bnP_1, c_requireBook h]
  by_cases q : G o 4 = 0
  · rw [if_pos q, if_pos q, bnX_e]
  · obtain ⟨hw, r⟩ := hwr q
    have hb := w1_b hw.1
    have hu : ukN N ≤ nWd N := cntN_le _ _
    have e := c_unknownFrom (f := 0) (n := nWd N) B hw r (by omega)
    rw [show (fun k => !knN N (0 + k)) = fun k => !knN N k from funext fun k => by rw [Nat.zero_add]] at e
    have e : fX1_unknownFrom (some b) 0 (nI (nWd N)) (wc σ G J) = some (nI (ukN N)) := e
    rw [if_neg q, if_neg q, bnX_1, nk_b h, bnP_1, bk_r8 B, bnP_1, sk_I (bk_S B), bnP_1, rb_w r hw.1]
    unfold ksQ
    by_cases z : nWd N = 0
    · rw [z, if_pos (show nI 0 = 0 from rfl), if_pos rfl]
    · rw [if_neg (show ¬ nI (nWd N) = 0 from fun e => z ((nI_eq (b := 0) (by omega) (by decide)).mp e)), if_neg z, bnP_1, e, bnP_1, nI_sub hu, chF_ok (fdiv_ok (by omega) (by omega) z), bnP_1]
theorem mq_knownShare (h : MK σ m) (hw : G m 6 ≠ 0 → WFN (G (m + 1))) (hr : G m 6 = 0 ∨ G m 6 = 1) : fX10_knownShare (some m) (wi σ G) = some (if decide (G m 6 ≠ 0) = true then ksQ (G (m + 1)) else FP.fconst0, wi σ (up G m 0 (thr (decide (G m 6 ≠ 0)) true true))) := by
  unfold fX10_knownShare
  rw [mk_o h, bnP_1, m_mayLook h hr, bnS_1]
  cases e : decide (G m 6 ≠ 0)
  · rfl
  · have q : G m 6 ≠ 0 := of_decide_eq_true e
    have hw := hw q
    rw [if_pos rfl, if_pos rfl]
    generalize hG : up G m 0 (thr true true true) = G'
    have eG : G' (m + 1) = G (m + 1) := by rw [← hG]; exact up_a (by omega)
    rw [← eG] at hw ⊢
    clear hG
    have hb := w1_b hw.1
    have hu : ukN (G' (m + 1)) ≤ nWd (G' (m + 1)) := cntN_le _ _
    rw [mk_r1 h, bnP_1, show (4 : Int32) = nI 4 from rfl, mk_a1 h (by decide), bnP_1, (w1_e hw.1).2.2.1]
    unfold ksQ
    by_cases z : nWd (G' (m + 1)) = 0
    · rw [z, if_pos (show nI 0 ≤ 0 by decide), if_pos rfl, bnP_1]
    · rw [if_neg (show ¬ nI (nWd (G' (m + 1))) ≤ 0 from nI_ge (a := 0) (by omega) (by omega)), if_neg z, bnP_1, mk_a1 h (by decide), bnP_1, m_unknown h hw, bnP_1, bnP_1, mk_a1 h (by decide), bnP_1, (w1_e hw.1).2.2.1, nI_sub hu, chF_ok (fdiv_ok (by omega) (by omega) z), bnP_1, bnP_1]
theorem c_standingOfSealed (h : BK σ b) (hw : WFN N) (r : RB G J b N) : fX1_standingOfSealed (some b) (wc σ G J) = some (sumI (slN N) (nAc N)) := by
  have w1 := hw.1
  have hb := w1_b w1
  unfold fX1_standingOfSealed
  have e : lpP (fX1_standingOfSealed_l1 (some b) (wc σ G J)) FUEL (0, 0) = some (sumI (slN N) (nAc N)) := by
    refine lpP_f (nAc N) (fun k => (sumI (slN N) k, nI k)) rfl (by omega) (fun k hk => ?_) ?_
    · obtain ⟨⟨p1, p2, p3, p4, p5⟩, -⟩ := act_ok w1 hw.2.1 hk
      have hl := act_le w1 hw.2.1 hk
      have ra := rb_act r hk
      unfold fX1_standingOfSealed_l1
      have hs : sumI (slN N) (k + 1) = sumI (slN N) k + slN N k := rfl
      rw [bk_I h, bnP_1, rb_n r w1]
      dsimp only
      rw [if_neg (by rw [nI_leI (by omega) (by omega)]; omega), bk_r6 h, bnP_1, bk_aR h (by omega), bnP_1, bk_aI h (by omega), bnP_1, ra.2.2.1, hs]
      unfold slN
      by_cases q : N (9 + 9 * k + 1) = 1
      · rw [if_pos q, if_pos q, bk_r8 h, bnP_1, bnP_1, bk_aR h (by omega), bnP_1, bk_aI h (by omega), bnP_1, bnP_1, bk_aR h (by omega), bnP_1, bk_aI h (by omega), bnP_1, ra.2.2.2.2.2.1, ra.2.2.2.2.2.2.1, p2, p3, c_standingFrom h w1 r hl, bnP_1, nI_a1]
      · rw [if_neg q, if_neg q, Int32.add_zero, nI_a1]
    · unfold fX1_standingOfSealed_l1
      rw [bk_I h, bnP_1, rb_n r w1]
      dsimp only
      rw [if_pos (by rw [nI_leI (by omega) (by omega)]; exact Nat.le_refl _)]
  rw [bk_o h, bnP_1, e, bnP_1]
theorem cq_meanWords (h : NK σ o b) (hwr : G o 4 ≠ 0 → WFN N ∧ RB G J b N) : fX9_meanWords (some o) (wc σ G J) = some (if G o 4 = 0 then .error 0 else .ok (mwQ N)) := by
  have B := nk_B h
  unfold fX9_meanWords
  rw [nk_o h, bnP_1, c_requireBook h]
  by_cases q : G o 4 = 0
  · rw [if_pos q, if_pos q, bnX_e]
  · obtain ⟨hw, r⟩ := hwr q
    have hb := w1_b hw.1
    have hc := cntN_le (fun a => decide (N (9 + 9 * a + 1) = 1)) (nAc N)
    rw [if_neg q, if_neg q, bnX_1, nk_b h, bnP_1, c_actsAt B hw.1 r, bnP_1]
    unfold mwQ
    by_cases z : cntN (fun a => decide (N (9 + 9 * a + 1) = 1)) (nAc N) = 0
    · rw [z, if_pos (show nI 0 = 0 from rfl), if_pos rfl]
    · rw [if_neg (show ¬ nI (cntN (fun a => decide (N (9 + 9 * a + 1) = 1)) (nAc N)) = 0 from fun e => z ((nI_eq (b := 0) (by omega) (by decide)).mp e)), if_neg z, bnP_1, c_standingOfSealed B hw r, bnP_1, chD_ok (ddiv_ok (by omega) z), bnP_1]
theorem mq_meanWords (h : MK σ m) (hw : G m 6 ≠ 0 → WFN (G (m + 1))) (hr : G m 6 = 0 ∨ G m 6 = 1) : fX10_meanWords (some m) (wi σ G) = some (if decide (G m 6 ≠ 0) = true then mwQ (G (m + 1)) else FP.dconst0, wi σ (up G m 0 (thr (decide (G m 6 ≠ 0)) true true))) := by
  unfold fX10_meanWords
  rw [mk_o h, bnP_1, m_mayLook h hr, bnS_1]
  cases e : decide (G m 6 ≠ 0)
  · rfl
  · have q : G m 6 ≠ 0 := of_decide_eq_true e
    have hw := hw q
    rw [if_pos rfl, if_pos rfl]
    generalize hG : up G m 0 (thr true true true) = G'
    have eG : G' (m + 1) = G (m + 1) := by rw [← hG]; exact up_a (by omega)
    rw [← eG] at hw ⊢
    clear hG
    have hb := w1_b hw.1
    have hc := cntN_le (fun a => decide (G' (m + 1) (9 + 9 * a + 1) = 1)) (nAc (G' (m + 1)))
    rw [m_actsWith h hw.1, bnP_1]
    unfold mwQ
    by_cases z : cntN (fun a => decide (G' (m + 1) (9 + 9 * a + 1) = 1)) (nAc (G' (m + 1))) = 0
    · rw [z, if_pos (show nI 0 ≤ 0 by decide), if_pos rfl, bnP_1]
    · rw [if_neg (show ¬ nI (cntN (fun a => decide (G' (m + 1) (9 + 9 * a + 1) = 1)) (nAc (G' (m + 1)))) ≤ 0 from nI_ge (a := 0) (by omega) (by omega)), if_neg z, m_standingAll1 h hw.1 hw.2.1, bnP_1, bnP_1, chD_ok (ddiv_ok (by omega) z), bnP_1, bnP_1]
theorem fl_err {α : Type} {n : Nat} {S S2 : HpT} {t : Int32} {F : α → HpT → AT Int32} {g : Nat → HpT → AT Int32} {K : Int32 → HpT → AT Unit} (hg : g n S = some (.ok t, S, 0, 0)) (hK : K t S = some (.ok (), S2, 0, 0)) : bnO (bnC (xA S (some (.error n : Except Nat α))) F g) K = some (.ok (), S2, 1, 6) := by
  have e1 : bnC (xA S (some (.error n : Except Nat α))) F g = some (.ok t, S, 1, 6) := bnC_e (i := 1) (j := 6) (i2 := 0) (j2 := 0) hg
  rw [e1]
  exact bnO_1 (i := 1) (j := 6) (i2 := 0) (j2 := 0) hK
theorem fl_ok {α : Type} {x : α} {S S1 S2 : HpT} {t : Int32} {F : α → HpT → AT Int32} {g : Nat → HpT → AT Int32} {K : Int32 → HpT → AT Unit} (hF : F x S = some (.ok t, S1, 0, 0)) (hK : K t S1 = some (.ok (), S2, 0, 0)) : bnO (bnC (xA S (some (.ok x : Except Nat α))) F g) K = some (.ok (), S2, 0, 0) := by
  have e1 : bnC (xA S (some (.ok x : Except Nat α))) F g = some (.ok t, S1, 0, 0) := bnC_1 (i := 0) (j := 0) (i2 := 0) (j2 := 0) hF
  rw [e1]
  exact bnO_1 (i := 0) (j := 0) (i2 := 0) (j2 := 0) hK
theorem sD_90 (hD : DK σ) (hn : 91 ≤ hN σ) (x : UInt64) : sD (wc σ G J) (some 90) 0 x = some (wc (wD σ 90 0 x) G J) := by
  unfold sD
  dsimp only
  rw [if_pos ⟨⟨hD.2.1, by rw [show hZ (wc σ G J) 90 = 1 from hD.2.2]; decide⟩, by show 90 < hN σ; omega⟩]
  rfl
theorem aD_90 (hD : DK σ) (hn : 91 ≤ hN σ) (x : UInt64) (G' : Nat → Nat → Int32) : aD (wc (wD σ 90 0 x) G' J) (some 90) 0 = some x := by
  unfold aD
  dsimp only
  rw [if_pos ⟨hD.2.1, by rw [show hZ (wc (wD σ 90 0 x) G' J) 90 = 1 from hD.2.2]; decide⟩]
  congr 1
  have h2 : (90 : Nat) < σ.1 := by
    have : hN σ = σ.1 := rfl
    omega
  show (if 90 < σ.1 then (if (90 : Nat) = 90 ∧ (0 : Int32).toNatClampNeg = 0 then x else σ.2.2.2.2.2.2 90 (0 : Int32).toNatClampNeg) else 0) = x
  rw [if_pos h2, if_pos ⟨rfl, by decide⟩]
/-- case 30: KNOWNSHARE -/
theorem sc30 (hC : CR σ G J b bs ps P tx E I N U V T) (hM : MR σ G E I N U V T) (hA : AW E I N U V T) (hD : DK σ) {Lx : Nat} {xs : Nat → Int32} {v5 : Int32} (v3 : Option Nat) : STEP σ (fL_c30 Lx xs (some 0) (some 80) v3 (some 90) v5 (wc σ G J)) := by
  have lo := lo_of hC hM hA hD
  have e4 := hC.2.1.1
  have f6 := hM.2.1.1
  have f81 := hM.2.2.2.1.1
  have hn := hC.1.1.1.1
  have hr : G 80 6 = 0 ∨ G 80 6 = 1 := by rw [f6]; exact hA.1.1
  have cq := cq_knownShare (G := G) (J := J) (N := N) lo.1 (fun q => ⟨hA.2.1 (by rw [← e4]; exact q), hC.2.2.2.1 (by rw [← e4]; exact q)⟩)
  have mq : ∀ σ2, MK σ2 80 → fX10_knownShare (some 80) (wc σ2 G J) = some (if decide (E.1 ≠ 0) = true then ksQ N else FP.fconst0, wc σ2 (up G 80 0 (thr (decide (E.1 ≠ 0)) true true)) J) := fun σ2 mk => by
    have := mq_knownShare (σ := wc σ2 G J) (G := G) (m := 80) mk (fun q => by rw [show G (80 + 1) = N from f81]; exact hA.2.1 (by rw [← f6]; exact q)) hr
    rw [show G (80 + 1) = N from f81, f6] at this
    exact this
  have th : ∀ σ2 G2, MK σ2 80 → fX10_thrown (some 80) (wc σ2 G2 J) = some (G2 80 0) := fun σ2 G2 mk => m_thrown (σ := wc σ2 G2 J) (G := G2) mk
  unfold fL_c30 fL_knownShare
  rw [cq]
  by_cases q : E.1 = 0
  · rw [if_pos (by rw [e4]; exact q)]
    refine ⟨σ, up G 80 0 1, J, 1, 6, fl_err (t := 1) rfl ?_, inv_q hC hM hA hD (qg_m P G (Or.inl rfl) 1) (fun _ _ => rfl), by omega, by omega, by omega⟩
    rw [mq σ hM.1, bnS_1, decide_eq_false (fun e => e q), th _ _ hM.1, bnP_1, up_eq, if_pos (show thr false true true = 1 from rfl), if_neg (by decide)]
    rfl
  · have hw := hA.2.1 q
    have mk2 : MK (wD σ 90 0 (FP.f2d (ksQ N))) 80 := hM.1
    rw [if_neg (by rw [e4]; exact q)]
    refine ⟨wD σ 90 0 (FP.f2d (ksQ N)), up G 80 0 0, J, 0, 0, fl_ok (t := 0) (S1 := wc (wD σ 90 0 (FP.f2d (ksQ N))) G J) ?_ ?_, inv_q (σ := wD σ 90 0 (FP.f2d (ksQ N))) (G := G) (J := J) hC hM hA hD (qg_m P G (Or.inl rfl) 0) (fun _ _ => rfl), ?_, ?_, ?_⟩
    · rw [chD_ok (f2d_ok (ks_ok hw.1)), bnP_1, sD_90 hD hn, bnP_1]
    · rw [mq _ mk2, bnS_1, decide_eq_true q, if_pos rfl, th _ _ mk2, bnP_1, up_eq, if_pos (show thr true true true = 0 from rfl), if_pos rfl, aD_90 hD hn, bnP_1, chD_ok (f2d_ok (ks_ok hw.1)), bnP_1, if_pos (cmp_ok (f2d_ok (ks_ok hw.1)))]
      rfl
    · show hN σ + capO σ ≤ hN σ + 40 + capO σ
      omega
    · show 0 + capO σ ≤ 40 + capO σ
      omega
    · show 0 + 2 * capO σ ≤ 4000 + 2 * capO σ
      omega
/-- case 31: MEANWORDS -/
theorem sc31 (hC : CR σ G J b bs ps P tx E I N U V T) (hM : MR σ G E I N U V T) (hA : AW E I N U V T) (hD : DK σ) {Lx : Nat} {xs : Nat → Int32} {v5 : Int32} (v3 : Option Nat) : STEP σ (fL_c31 Lx xs (some 0) (some 80) v3 (some 90) v5 (wc σ G J)) := by
  have lo := lo_of hC hM hA hD
  have e4 := hC.2.1.1
  have f6 := hM.2.1.1
  have f81 := hM.2.2.2.1.1
  have hn := hC.1.1.1.1
  have hr : G 80 6 = 0 ∨ G 80 6 = 1 := by rw [f6]; exact hA.1.1
  have cq := cq_meanWords (G := G) (J := J) (N := N) lo.1 (fun q => ⟨hA.2.1 (by rw [← e4]; exact q), hC.2.2.2.1 (by rw [← e4]; exact q)⟩)
  have mq : ∀ σ2, MK σ2 80 → fX10_meanWords (some 80) (wc σ2 G J) = some (if decide (E.1 ≠ 0) = true then mwQ N else FP.dconst0, wc σ2 (up G 80 0 (thr (decide (E.1 ≠ 0)) true true)) J) := fun σ2 mk => by
    have := mq_meanWords (σ := wc σ2 G J) (G := G) (m := 80) mk (fun q => by rw [show G (80 + 1) = N from f81]; exact hA.2.1 (by rw [← f6]; exact q)) hr
    rw [show G (80 + 1) = N from f81, f6] at this
    exact this
  have th : ∀ σ2 G2, MK σ2 80 → fX10_thrown (some 80) (wc σ2 G2 J) = some (G2 80 0) := fun σ2 G2 mk => m_thrown (σ := wc σ2 G2 J) (G := G2) mk
  unfold fL_c31 fL_meanWords
  rw [cq]
  by_cases q : E.1 = 0
  · rw [if_pos (by rw [e4]; exact q)]
    refine ⟨σ, up G 80 0 1, J, 1, 6, fl_err (t := 1) rfl ?_, inv_q hC hM hA hD (qg_m P G (Or.inl rfl) 1) (fun _ _ => rfl), by omega, by omega, by omega⟩
    rw [mq σ hM.1, bnS_1, decide_eq_false (fun e => e q), th _ _ hM.1, bnP_1, up_eq, if_pos (show thr false true true = 1 from rfl), if_neg (by decide)]
    rfl
  · have hw := hA.2.1 q
    have mk2 : MK (wD σ 90 0 (mwQ N)) 80 := hM.1
    rw [if_neg (by rw [e4]; exact q)]
    refine ⟨wD σ 90 0 (mwQ N), up G 80 0 0, J, 0, 0, fl_ok (t := 0) (S1 := wc (wD σ 90 0 (mwQ N)) G J) ?_ ?_, inv_q (σ := wD σ 90 0 (mwQ N)) (G := G) (J := J) hC hM hA hD (qg_m P G (Or.inl rfl) 0) (fun _ _ => rfl), ?_, ?_, ?_⟩
    · rw [sD_90 hD hn, bnP_1]
    · rw [mq _ mk2, bnS_1, decide_eq_true q, if_pos rfl, th _ _ mk2, bnP_1, up_eq, if_pos (show thr true true true = 0 from rfl), if_pos rfl, aD_90 hD hn, bnP_1, if_pos (cmp_ok (mw_ok hw.1))]
      rfl
    · show hN σ + capO σ ≤ hN σ + 40 + capO σ
      omega
    · show 0 + capO σ ≤ 40 + capO σ
      omega
    · show 0 + 2 * capO σ ≤ 4000 + 2 * capO σ
      omega
end FLT
