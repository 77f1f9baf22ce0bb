/-! THE PURE LEVEL, 50: a leaf's state changed; SEW -/
def lfN (N : Nat → Int32) (l : Nat) (x : Int32) : Nat → Int32 := u1 N (99 + l) x
section LFR
variable {σ : HpT} {G G1 G2 : Nat → Nat → Int32} {J J2 : Nat → Nat → Int64} {b bs ps tx : Nat} {P : Nat → Option Nat} {E : tE} {I T : tI} {N : Nat → Int32} {U : tU} {V : tV} {l : Nat} {x : Int32}
theorem lf_o {j : Nat} (h : j ≠ 99 + l) : lfN N l x j = N j := u1_k h
theorem lf_s (hw : WFN N) (hl : l < nLv N) : SM N (lfN N l x) := by
  have hb := w1_b hw.1
  have h12 := nlv_12 hw.1
  exact ⟨fun k hk => lf_o (by omega), fun a ha k hk => lf_o (by omega), fun g hg => lf_o (by omega), fun j hj => lf_o (by omega)⟩
theorem lf_wf (hw : WFN N) (hl : l < nLv N) (hx : x = 0 ∨ x = 1 ∨ x = 2) : WFN (lfN N l x) := by
  have hb := w1_b hw.1
  have s := lf_s (x := x) hw hl
  have sn := sm_n s
  have h12 := nlv_12 hw.1
  have e6 : lfN N l x 6 = N 6 := lf_o (by omega)
  refine ⟨sm_1 s hw.1 ((isN_eq e6).mpr hw.1.2.2.2.2.2.2), sm_2 s hw.2.1 (fun a ha => ?_), sm_3 s hw.1 hw.2.1 hw.2.2.1, ?_, ?_, ?_⟩
  · have e : lfN N l x (9 + 9 * a + 1) = N (9 + 9 * a + 1) := lf_o (by omega)
    have w := hw.2.1.2 a ha
    refine ⟨(isN_eq e).mpr w.1.2, fun q => ?_⟩
    rw [show nv (lfN N l x) (9 + 9 * a + 1) = nv N (9 + 9 * a + 1) from congrArg Int32.toNatClampNeg e]
    exact (w.2.2.2.2.1 q).2.2
  · intro k hk
    rw [sn.2.2.1] at hk
    have w := hw.2.2.2.1 k hk
    rw [show lfN N l x (127 + 13 * k + 2) = N (127 + 13 * k + 2) from lf_o (by omega)]
    exact ⟨(isN_eq (lf_o (by omega))).mpr w.1, w.2⟩
  · intro k hk
    rw [sn.2.2.2.2.1] at hk
    by_cases z : k = l
    · have e : lfN N l x (99 + k) = x := by
        rw [z]
        exact u1_e _ _ _
      rcases hx with rfl | rfl | rfl
      · exact (isN_of (n := 0) e (by decide) (by decide)).1
      · exact (isN_of (n := 1) e (by decide) (by decide)).1
      · exact (isN_of (n := 2) e (by decide) (by decide)).1
    · exact (isN_eq (lf_o (by omega))).mpr (hw.2.2.2.2.1 k hk)
  · intro c hc
    rw [show nCp (lfN N l x) = nCp N from congrArg Int32.toNatClampNeg e6] at hc
    obtain ⟨w1, w2, w3, w4⟩ := hw.2.2.2.2.2 c hc
    have e0 : lfN N l x (111 + 2 * c) = N (111 + 2 * c) := lf_o (by omega)
    rw [show oO (lfN N l x) c = oO N c from congrArg Int32.toNatClampNeg e0, sn.2.1]
    exact ⟨(isN_eq e0).mpr w1, w2, (isN_eq (lf_o (by omega))).mpr w3, by rw [lf_o (by omega)]; exact w4⟩
theorem lf_rb (hw : WFN N) (hl : l < nLv N) (r : RB G J b N) : RB (up G (b + 11) l x) J b (lfN N l x) := by
  have hb := w1_b hw.1
  have s := lf_s (x := x) hw hl
  have sn := sm_n s
  have sc := sm_c s
  have h12 := nlv_12 hw.1
  have e6 : lfN N l x 6 = N 6 := lf_o (by omega)
  have go : ∀ a, a ≠ b + 11 → up G (b + 11) l x a = G a := fun a h => up_a h
  obtain ⟨⟨a1, a2, a3, a4, a5, a6, a7, a8, a9, a10, a11⟩, ⟨b1, b2⟩, c1⟩ := r
  refine ⟨⟨?_, ?_, ?_, ?_, ?_, ?_, ?_, ?_, ?_, fun a ha => ?_, fun k hn => ?_⟩, ⟨fun k hn => ?_, fun a ha k q1 q2 => ?_⟩, ?_⟩
  · rw [go b (by omega), s.1 0 (by decide)]
    exact a1
  · rw [go b (by omega), s.1 1 (by decide)]
    exact a2
  · rw [go b (by omega), s.1 3 (by decide)]
    exact a3
  · rw [go b (by omega), e6]
    exact a4
  · rw [go b (by omega), lf_o (by omega)]
    exact a5
  · rw [go b (by omega), lf_o (by omega)]
    exact a6
  · rw [go (b + 3) (by omega), s.1 4 (by decide)]
    exact a7
  · rw [go (b + 10) (by omega), s.1 2 (by decide)]
    exact a8
  · rw [go (b + 10) (by omega), sn.2.2.2.2.1]
    exact a9
  · rw [sn.2.1] at ha
    have e1 : lfN N l x (9 + 9 * a + 1) = N (9 + 9 * a + 1) := lf_o (by omega)
    have e2 : lfN N l x (9 + 9 * a + 2) = N (9 + 9 * a + 2) := lf_o (by omega)
    have e3 : lfN N l x (9 + 9 * a + 3) = N (9 + 9 * a + 3) := lf_o (by omega)
    have e4 : lfN N l x (9 + 9 * a + 4) = N (9 + 9 * a + 4) := lf_o (by omega)
    rw [show lfN N l x (9 + 9 * a) = N (9 + 9 * a) from s.2.1 a ha 0 (by omega), e1, e2, e3, s.2.1 a ha 5 (by omega), s.2.1 a ha 6 (by omega), e4, go _ (by omega)]
    exact a10 a ha
  · rw [sn.2.2.2.2.1] at hn
    by_cases z : k = l
    · rw [z, up_eq]
      exact (u1_e _ _ _).symm
    · rw [up_k z, lf_o (by omega)]
      exact a11 k hn
  · rw [sn.2.2.1] at hn
    obtain ⟨t1, t2, t3, t4⟩ := b1 k hn
    have e0 : lfN N l x (127 + 13 * k) = N (127 + 13 * k) := lf_o (by omega)
    have e1 : lfN N l x (127 + 13 * k + 1) = N (127 + 13 * k + 1) := lf_o (by omega)
    have e2 : lfN N l x (127 + 13 * k + 2) = N (127 + 13 * k + 2) := lf_o (by omega)
    have e4 : lfN N l x (127 + 13 * k + 4) = N (127 + 13 * k + 4) := lf_o (by omega)
    rw [e0, e1, e2, e4, show wN' (lfN N l x) k = wN' N k from congrArg Int32.toNatClampNeg e4, go (b + 7) (by omega), go (b + 8) (by omega)]
    refine ⟨t1, t2, t3, fun j hj => ?_⟩
    rw [lf_o (by omega), lf_o (by omega)]
    exact t4 j hj
  · rw [sn.2.1] at ha
    have e := sm_a s ha
    rw [e.1] at q1 q2
    rw [e.2.1] at q2
    rw [sc.1, sc.2.1, e.2.2.1, e.2.2.2, go (b + 5) (by omega), go (b + 6) (by omega)]
    exact b2 a ha k q1 q2
  · exact rc_cg s hw (fun c hc => ⟨lf_o (by omega), lf_o (by omega), fun k _ => by rw [go _ (by omega)], fun k q1 q2 => ⟨lf_o (by omega), lf_o (by omega)⟩⟩) (congrArg Int32.toNatClampNeg e6) c1
theorem there_1 (hw : W1 N) (hl : l < nLv N) : inR (nI l) (nI 0) (nI (nLv N) - 1) = true := by
  have h12 := nlv_12 hw
  rw [nI_m1 (by omega), inR_nI (by omega) (by decide) (by omega), decide_eq_true (Nat.zero_le l), decide_eq_true (show l ≤ nLv N - 1 by omega)]
  rfl
theorem c_fasten (h : BK σ b) (hw : WFN N) (r : RB G J b N) (hl : l < nLv N) : fX4_fasten (some (b + 10)) (nI l) (wc σ G J) = some (wc σ (up G (b + 11) l 0) J) := by
  have h12 := nlv_12 hw.1
  have hL := bk_L h
  unfold fX4_fasten
  rw [lk_o hL, bnP_1, c_isThere h hw.1 r, bnP_1, there_1 hw.1 hl, if_pos rfl, lk_r2 hL, bnP_1, lk_s2 hL (by omega), bnP_1]
end LFR
