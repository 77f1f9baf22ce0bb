/-! THE PURE LEVEL, 59: SHAKE -/
section CHW
variable {σ σ' : HpT} {G G' : Nat → Nat → Int32} {J J' : Nat → Nat → Int64} {b bs ps ps' tx : Nat} {P : Nat → Option Nat} {E : tE} {I I' T : tI} {N N' : Nat → Int32} {U U' : tU} {V : tV}
/-- a change goes well: cl tells that the buffer is emptied -/
theorem chgW {C : AT Int32} {M : HpT → Option (Int32 × HpT)} {g : Nat → HpT → AT Int32} {x : Int32} (cl : Bool) (g7 : (Nat → Int32) → Nat → Int32) (hC : CR σ G J b bs ps P tx E I N U V T) (hM : MR σ G E I N U V T) (hA : AW E I N U V T) (hD : DK σ) (hE : E.1 ≠ 0) (hb : hN σ + 40 < BIG) (hw : WFN N') (hz : ∀ j, 6139 ≤ j → N' j = 0)
    (h1 : ∀ σ' G' J' ps' P' i j, fX9_remember (some 0) (wc σ G J) = some (.ok (), wc σ' G' J', i, j) → CR σ' G' J' b bs ps' P' tx E I N (pushU U N) V T → ∃ G2 J2, C = some (.ok x, wc σ' G2 J2, i, j) ∧ (∀ a, a < b ∨ b + 33 ≤ a → G2 a = inG cl G' 0 1 a) ∧ (∀ a, a < b ∨ b + 33 ≤ a → J2 a = J' a) ∧ RB G2 J2 b N')
    (h2 : ∀ S G1 G1', MR S G1 E I N U V T → fX10_remembers (some 80) (wi S (up G1 80 0 0)) = some (wi S G1') → G1' 81 = N → G1' 86 = G1 86 → G1' 80 9 = G1 80 9 → M (wi S G1) = some (x, wi S (inG cl (cw (cw G1' 87 (g7 (G1' 87))) 81 N') 80 9))) :
    STEP σ (bnO (bnC C (fun x1 s2 => bnP (sJ s2 (some 89) 0 x1.toInt64) (fun s11 => some (.ok 0, s11, 0, 0))) g) (fun x3 s5 => bnS (M s5) (fun x12 s14 => bnP (fX10_thrown (some 80) s14) (fun x15 => (if x15 = x3 then (if x3 = 0 then bnP (aJ s14 (some 89) 0) (fun x17 => (if (lg_cmp x17 ((x12).toInt64)) = 0 then some (.ok (), s14, 0, 0) else none)) else some (.ok (), s14, 0, 0)) else none))))) := by
  obtain ⟨σ', G', J', ps', P', i, j, e1, hC', hX, hi, hj⟩ := c_remember hC hA hE hb
  obtain ⟨G2, J2, eC, fG, fJ, rb⟩ := h1 σ' G' J' ps' P' i j e1 hC'
  have hn := hC.1.1.1.1
  have b3 := hC.1.2.2.2.1
  have hbb := cr_b hC
  have pb := hC'.1.2.2.2.2.2
  have hbz : b + 33 ≤ hN σ' := (pb.1 0 b (by decide) hC'.1.2.2.2.1).1.1
  have g80 : ∀ a, 80 ≤ a → a < 91 → G2 a = G' a := fun a h1 h2 => by rw [fG a (by omega), inG_a (by omega)]
  have m2 : MR σ' G2 E I N U V T := mr_c (exm_mr hX hM) g80
  have m3 : MR σ' (up G2 80 0 0) E I N U V T := mr_frame m2 (fun k hk => up_k (by omega)) (fun a ha => up_a (by omega))
  obtain ⟨eR, hf⟩ := m_remembers m3 hA
  have m4 := mr_push m3 hf
  generalize hf0 : remF U N (up G2 80 0 0 83) = f at eR m4
  generalize hG1 : up (cw (up G2 80 0 0) 83 f) 80 7 (nI (pushU U N).1) = G1' at eR m4
  have q81 : G1' 81 = N := m4.2.2.2.1.1
  have o80 : ∀ k, k ≠ 0 → k ≠ 7 → G1' 80 k = G2 80 k := fun k h0 h7 => by rw [← hG1, up_k h7, cw_b (by decide), up_k h0]
  have oa : ∀ a, a ≠ 80 → a ≠ 83 → G1' a = G2 a := fun a h0 h3 => by rw [← hG1, up_a h0, cw_b h3, up_a h0]
  have z0 : G1' 80 0 = 0 := by rw [← hG1, up_k (by decide), cw_b (by decide), up_eq]
  have e2 := h2 σ' G2 G1' m2 eR q81 (oa 86 (by decide) (by decide)) (o80 9 (by decide) (by decide))
  generalize hG3 : inG cl (cw (cw G1' 87 (g7 (G1' 87))) 81 N') 80 9 = G3 at e2
  have z3 : G3 80 0 = 0 := by rw [← hG3, inG_k (by decide), cw_b (by decide), cw_b (by decide), z0]
  have e2' : ∀ J', M (wc σ' G2 J') = some (x, wc σ' G3 J') := fun J' => by
    have m2' : MR (wc σ' G2 J') G2 E I N U V T := m2
    have := h2 (wc σ' G2 J') G2 G1' m2' (by
      have m3' : MR (wc σ' G2 J') (up G2 80 0 0) E I N U V T := m3
      have eR' := (m_remembers m3' hA).1
      rw [hf0, hG1] at eR'
      exact eR') q81 (oa 86 (by decide) (by decide)) (o80 9 (by decide) (by decide))
    rw [hG3] at this
    exact this
  have hd : hK σ' 89 = 21 ∧ 89 < hN σ' ∧ hZ σ' 89 = 1 := by
    have := (exm_dk hX hn hD).1
    exact ⟨this.1, by have := hX.1.1; omega, this.2⟩
  obtain ⟨y, hy⟩ := lq_gen (g := g) (r := .ok x) hd m2.1 eC e2' ⟨rfl, z3⟩
  refine ⟨σ', G3, upJ J2 89 0 y, i, j, hy, ⟨b, bs, ps', P', tx, E, inI cl I, N', pushU U N, V, T, ?_, ?_, ?_, exm_dk hX hn hD⟩, ?_, ?_, ?_⟩
  · have hA1 := aw_push hA hE
    have c1 := cr_cl cl hC' hA1
    have hA2 : AW E (inI cl I) N (pushU U N) V T := aw_in hA1 (inI_le cl hA.1.2.1)
    have c2 := cr_book (N' := N') c1 hA2 fG fJ (fun _ => rb)
    refine cr_m c2 (aw_now hA2 fun _ => hw) (fun a ha => ?_) (fun a ha => upJ_a ha)
    rw [← hG3, inG_a (by omega), cw_b (by omega), cw_b (by omega), oa a (by omega) (by omega)]
  · rw [← hG3]
    exact mr_cl cl (mr_now m4 (fun k _ => by rw [cw_b (by decide), cw_b (by decide)]) (fun a ha => by rw [cw_b (by omega), cw_b (by omega)]) (cw_a _ _ _) hz)
  · exact aw_in (aw_now (aw_push hA hE) fun _ => hw) (inI_le cl hA.1.2.1)
  · have c := exm_cap hX hn hC.1.1.2.2.2.2.2.1.2.2.2 hC.1.1.2.2.2.2.2.2.2.1
    have := hX.1.2
    omega
  · have c := exm_cap hX hn hC.1.1.2.2.2.2.2.1.2.2.2 hC.1.1.2.2.2.2.2.2.2.1
    omega
  · have c := exm_cap hX hn hC.1.1.2.2.2.2.2.1.2.2.2 hC.1.1.2.2.2.2.2.2.2.1
    omega
theorem sm_of {N N' : Nat → Int32} (hw : WFN N) (h : ∀ j, (j < 99 ∨ 99 + nLv N ≤ j) → N' j = N j) : SM N N' := by
  have hb := w1_b hw.1
  have h12 := nlv_12 hw.1
  exact ⟨fun k hk => h _ (by omega), fun a ha k hk => h _ (by omega), fun g hg => h _ (by omega), fun j hj => h _ (by omega)⟩
theorem lv_rb {N N' : Nat → Int32} {G2 : Nat → Nat → Int32} (hw : WFN N) (h : ∀ j, (j < 99 ∨ 99 + nLv N ≤ j) → N' j = N j) (r : RB G J b N) (lv : LvR G2 (b + 10) N') (go : ∀ a, a ≠ b + 11 → a ≠ b + 12 → G2 a = G a) : RB G2 J b N' := by
  have hb := w1_b hw.1
  have s := sm_of hw h
  have sn := sm_n s
  have sc := sm_c s
  have h12 := nlv_12 hw.1
  have e6 : N' 6 = N 6 := h 6 (by omega)
  obtain ⟨⟨a1, a2, a3, a4, a5, a6, a7, a8, a9, a10, a11⟩, ⟨b1, b2⟩, c1⟩ := r
  refine ⟨⟨?_, ?_, ?_, ?_, ?_, ?_, ?_, lv.1, lv.2.1, fun a ha => ?_, lv.2.2⟩, ⟨fun k hn => ?_, fun a ha k q1 q2 => ?_⟩, ?_⟩
  · rw [go b (by omega) (by omega), s.1 0 (by decide)]
    exact a1
  · rw [go b (by omega) (by omega), s.1 1 (by decide)]
    exact a2
  · rw [go b (by omega) (by omega), s.1 3 (by decide)]
    exact a3
  · rw [go b (by omega) (by omega), e6]
    exact a4
  · rw [go b (by omega) (by omega), h 7 (by omega)]
    exact a5
  · rw [go b (by omega) (by omega), h 8 (by omega)]
    exact a6
  · rw [go (b + 3) (by omega) (by omega), s.1 4 (by decide)]
    exact a7
  · rw [sn.2.1] at ha
    rw [h (9 + 9 * a) (by omega), h (9 + 9 * a + 1) (by omega), h (9 + 9 * a + 2) (by omega), h (9 + 9 * a + 3) (by omega), h (9 + 9 * a + 5) (by omega), h (9 + 9 * a + 6) (by omega), h (9 + 9 * a + 4) (by omega), go _ (by omega) (by omega)]
    exact a10 a ha
  · rw [sn.2.2.1] at hn
    obtain ⟨t1, t2, t3, t4⟩ := b1 k hn
    have e4 : N' (127 + 13 * k + 4) = N (127 + 13 * k + 4) := h _ (by omega)
    rw [h (127 + 13 * k) (by omega), h (127 + 13 * k + 1) (by omega), h (127 + 13 * k + 2) (by omega), e4, show wN' N' k = wN' N k from congrArg Int32.toNatClampNeg e4, go (b + 7) (by omega) (by omega), go (b + 8) (by omega) (by omega)]
    refine ⟨t1, t2, t3, fun j hj => ?_⟩
    rw [h _ (by omega), h _ (by omega)]
    exact t4 j hj
  · rw [sn.2.1] at ha
    have e := sm_a s ha
    rw [e.1] at q1 q2
    rw [e.2.1] at q2
    rw [sc.1, sc.2.1, e.2.2.1, e.2.2.2, go (b + 5) (by omega) (by omega), go (b + 6) (by omega) (by omega)]
    exact b2 a ha k q1 q2
  · exact rc_cg s hw (fun c hc => ⟨h _ (by omega), h _ (by omega), fun k _ => by rw [go _ (by omega) (by omega)], fun k q1 q2 => ⟨h _ (by omega), h _ (by omega)⟩⟩) (congrArg Int32.toNatClampNeg e6) c1
end CHW
