/-! THE PURE LEVEL, 70: rows whose copies and cash alone differ -/
def CC (N N' : Nat → Int32) : Prop := ∀ j, j ≠ 6 → j ≠ 7 → j ≠ 8 → ¬ (111 ≤ j ∧ j < 127) → N' j = N j
section CCS
variable {σ : HpT} {G G2 : Nat → Nat → Int32} {J : Nat → Nat → Int64} {b : Nat} {N N' : Nat → Int32}
theorem cc_sm (h : CC N N') (hw : WFN N) : SM N N' := by
  have hb := w1_b hw.1
  exact ⟨fun k hk => h k (by omega) (by omega) (by omega) (by omega), fun a ha k hk => h _ (by omega) (by omega) (by omega) (by omega), fun g hg => h _ (by omega) (by omega) (by omega) (by omega), fun j hj => h _ (by omega) (by omega) (by omega) (by omega)⟩
theorem cc_dr (h : CC N N') (hw : WFN N) {a gr : Nat} (ha : a < nAc N) {f : Nat → Int32} (d : drC N a gr f) : drC N' a gr f := by
  have e := sm_a (cc_sm h hw) ha
  have w2 : ∀ g, N' (127 + 13 * g + 2) = N (127 + 13 * g + 2) := fun g => h _ (by omega) (by omega) (by omega) (by omega)
  have w4 : ∀ g, N' (127 + 13 * g + 4) = N (127 + 13 * g + 4) := fun g => h _ (by omega) (by omega) (by omega) (by omega)
  have ef : fsN N' (aF N a) (aM N a) = fsN N (aF N a) (aM N a) := fsN_cg fun k hk => w2 _
  obtain ⟨⟨d0, d1, d2⟩, d4⟩ := d
  refine ⟨⟨d0, d1, ?_⟩, ?_⟩
  · rw [e.1, e.2.1, ef]
    exact d2
  · rw [d4]
    unfold wbA
    rw [e.1, e.2.1]
    refine sumI_cong fun k hk => ?_
    have hbq : hbN N' (aF N a) (aM N a) gr (aF N a + k) = hbN N (aF N a) (aM N a) gr (aF N a + k) := by
      unfold hbN fstS lstS skN
      rw [ef, w2]
    rw [hbq, w4]
theorem rc_dr (w4 : W4 N) (r : RC G b N) {c : Nat} (hc : c < nCp N) : drC N (oO N c) (oG N c) (G (b + 25 + c)) := by
  obtain ⟨r0, r1, r2, r4⟩ := r c hc
  rw [(w4_c w4 hc).2.2] at r1
  exact ⟨⟨r0, r1, r2⟩, r4⟩
theorem dr_rc (h : ∀ c, c < nCp N → N (111 + 2 * c + 1) = nI (oG N c) ∧ drC N (oO N c) (oG N c) (G (b + 25 + c))) : RC G b N := by
  intro c hc
  obtain ⟨e, ⟨r0, r1, r2⟩, r4⟩ := h c hc
  exact ⟨r0, by rw [e]; exact r1, r2, r4⟩
theorem cc_wf (h : CC N N') (hw : WFN N) (h6 : isN N' 6 9) (hc : ∀ c, c < nCp N' → isN N' (111 + 2 * c) 10 ∧ oO N' c < nAc N ∧ isN N' (111 + 2 * c + 1) 3 ∧ N (9 + 9 * oO N' c + 1) = 1) : WFN N' := by
  have hb := w1_b hw.1
  have s := cc_sm h hw
  have sn := sm_n s
  have h12 := nlv_12 hw.1
  refine ⟨sm_1 s hw.1 h6, sm_2 s hw.2.1 (fun a ha => ?_), sm_3 s hw.1 hw.2.1 hw.2.2.1, fun g hg => ?_, fun l hl => ?_, fun c hcc => ?_⟩
  · have e : N' (9 + 9 * a + 1) = N (9 + 9 * a + 1) := h _ (by omega) (by omega) (by omega) (by omega)
    have w := hw.2.1.2 a ha
    refine ⟨(isN_eq e).mpr w.1.2, fun q => ?_⟩
    rw [show nv N' (9 + 9 * a + 1) = nv N (9 + 9 * a + 1) from congrArg Int32.toNatClampNeg e]
    exact (w.2.2.2.2.1 q).2.2
  · rw [sn.2.2.1] at hg
    have w := hw.2.2.2.1 g hg
    exact ⟨(isN_eq (h _ (by omega) (by omega) (by omega) (by omega))).mpr w.1, by rw [h _ (by omega) (by omega) (by omega) (by omega)]; exact w.2⟩
  · rw [sn.2.2.2.2.1] at hl
    exact (isN_eq (h _ (by omega) (by omega) (by omega) (by omega))).mpr (hw.2.2.2.2.1 l hl)
  · obtain ⟨w1, w2, w3, w4⟩ := hc c hcc
    rw [sn.2.1]
    exact ⟨w1, w2, w3, by rw [h _ (by omega) (by omega) (by omega) (by omega)]; exact w4⟩
theorem cc_rb (h : CC N N') (hw : WFN N) (r : RB G J b N) (g0 : ∀ k, k < 3 → G2 b k = G b k) (g3 : G2 b 3 = N' 6) (g4 : G2 b 4 = N' 7) (g5 : G2 b 5 = N' 8) (go : ∀ a, b < a → a < b + 25 → G2 a = G a) (rc : RC G2 b N') : RB G2 J b N' := by
  have hb := w1_b hw.1
  have s := cc_sm h hw
  have sn := sm_n s
  have sc := sm_c s
  have h12 := nlv_12 hw.1
  obtain ⟨⟨a1, a2, a3, a4, a5, a6, a7, a8, a9, a10, a11⟩, ⟨b1, b2⟩, c1⟩ := r
  refine ⟨⟨?_, ?_, ?_, g3, g4, g5, ?_, ?_, ?_, fun a ha => ?_, fun k hn => ?_⟩, ⟨fun k hn => ?_, fun a ha k q1 q2 => ?_⟩, rc⟩
  · rw [g0 0 (by omega), s.1 0 (by decide)]
    exact a1
  · rw [g0 1 (by omega), s.1 1 (by decide)]
    exact a2
  · rw [g0 2 (by omega), s.1 3 (by decide)]
    exact a3
  · rw [go (b + 3) (by omega) (by omega), s.1 4 (by decide)]
    exact a7
  · rw [go (b + 10) (by omega) (by omega), s.1 2 (by decide)]
    exact a8
  · rw [go (b + 10) (by omega) (by omega), sn.2.2.2.2.1]
    exact a9
  · rw [sn.2.1] at ha
    have e : ∀ k, k < 9 → N' (9 + 9 * a + k) = N (9 + 9 * a + k) := fun k hk => h _ (by omega) (by omega) (by omega) (by omega)
    rw [show N' (9 + 9 * a) = N (9 + 9 * a) from e 0 (by omega), e 1 (by omega), e 2 (by omega), e 3 (by omega), e 4 (by omega), e 5 (by omega), e 6 (by omega), go _ (by omega) (by omega)]
    exact a10 a ha
  · rw [sn.2.2.2.2.1] at hn
    rw [go _ (by omega) (by omega), h _ (by omega) (by omega) (by omega) (by omega)]
    exact a11 k hn
  · rw [sn.2.2.1] at hn
    obtain ⟨t1, t2, t3, t4⟩ := b1 k hn
    have e : ∀ i, i < 13 → N' (127 + 13 * k + i) = N (127 + 13 * k + i) := fun i hi => h _ (by omega) (by omega) (by omega) (by omega)
    have e4 := e 4 (by omega)
    rw [show N' (127 + 13 * k) = N (127 + 13 * k) from e 0 (by omega), e 1 (by omega), e 2 (by omega), e4, show wN' N' k = wN' N k from congrArg Int32.toNatClampNeg e4, go (b + 7) (by omega) (by omega), go (b + 8) (by omega) (by omega)]
    refine ⟨t1, t2, t3, fun j hj => ?_⟩
    rw [h _ (by omega) (by omega) (by omega) (by omega), h _ (by omega) (by omega) (by omega) (by omega)]
    exact t4 j hj
  · rw [sn.2.1] at ha
    have e := sm_a s ha
    rw [e.1] at q1 q2
    rw [e.2.1] at q2
    rw [sc.1, sc.2.1, e.2.2.1, e.2.2.2, go (b + 5) (by omega) (by omega), go (b + 6) (by omega) (by omega)]
    exact b2 a ha k q1 q2
end CCS
