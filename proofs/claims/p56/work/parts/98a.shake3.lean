/-! THE PURE LEVEL, 59: SHAKE -/
section CHW
variable {σ σ' : HpT} {G G' : Nat → Nat → Int32} {J J' : Nat → Nat → Int64} {b bs ps ps' tx : Nat} {P : Nat → Option Nat} {E : tE} {I I' T : tI} {N N' : Nat → Int32} {U U' : tU} {V : tV}
theorem sm_of {N N' : Nat → Int32} (hw : WFN N) (h : ∀ j, (j < 99 ∨ 99 + nLv N ≤ j) → N' j = N j) : SM N N' := by
  have hb := w1_b hw.1
  have h12 := nlv_12 hw.1
  exact ⟨fun k hk => h _ (by omega), fun a ha k hk => h _ (by omega), fun g hg => h _ (by omega), fun j hj => h _ (by omega)⟩
theorem lv_rb {N N' : Nat → Int32} {G2 : Nat → Nat → Int32} (hw : WFN N) (h : ∀ j, (j < 99 ∨ 99 + nLv N ≤ j) → N' j = N j) (r : RB G J b N) (lv : LvR G2 (b + 10) N') (go : ∀ a, a ≠ b + 11 → a ≠ b + 12 → G2 a = G a) : RB G2 J b N' := by
  have hb := w1_b hw.1
  have s := sm_of hw h
  have sn := sm_n s
  have sc := sm_c s
  have h12 := nlv_12 hw.1
  have e6 : N' 6 = N 6 := h 6 (by omega)
  obtain ⟨⟨a1, a2, a3, a4, a5, a6, a7, a8, a9, a10, a11⟩, ⟨b1, b2⟩, c1⟩ := r
  refine ⟨⟨?_, ?_, ?_, ?_, ?_, ?_, ?_, lv.1, lv.2.1, fun a ha => ?_, lv.2.2⟩, ⟨fun k hn => ?_, fun a ha k q1 q2 => ?_⟩, ?_⟩
  · rw [go b (by omega) (by omega), s.1 0 (by decide)]
    exact a1
  · rw [go b (by omega) (by omega), s.1 1 (by decide)]
    exact a2
  · rw [go b (by omega) (by omega), s.1 3 (by decide)]
    exact a3
  · rw [go b (by omega) (by omega), e6]
    exact a4
  · rw [go b (by omega) (by omega), h 7 (by omega)]
    exact a5
  · rw [go b (by omega) (by omega), h 8 (by omega)]
    exact a6
  · rw [go (b + 3) (by omega) (by omega), s.1 4 (by decide)]
    exact a7
  · rw [sn.2.1] at ha
    rw [h (9 + 9 * a) (by omega), h (9 + 9 * a + 1) (by omega), h (9 + 9 * a + 2) (by omega), h (9 + 9 * a + 3) (by omega), h (9 + 9 * a + 5) (by omega), h (9 + 9 * a + 6) (by omega), h (9 + 9 * a + 4) (by omega), go _ (by omega) (by omega)]
    exact a10 a ha
  · rw [sn.2.2.1] at hn
    obtain ⟨t1, t2, t3, t4⟩ := b1 k hn
    have e4 : N' (127 + 13 * k + 4) = N (127 + 13 * k + 4) := h _ (by omega)
    rw [h (127 + 13 * k) (by omega), h (127 + 13 * k + 1) (by omega), h (127 + 13 * k + 2) (by omega), e4, show wN' N' k = wN' N k from congrArg Int32.toNatClampNeg e4, go (b + 7) (by omega) (by omega), go (b + 8) (by omega) (by omega)]
    refine ⟨t1, t2, t3, fun j hj => ?_⟩
    rw [h _ (by omega), h _ (by omega)]
    exact t4 j hj
  · rw [sn.2.1] at ha
    have e := sm_a s ha
    rw [e.1] at q1 q2
    rw [e.2.1] at q2
    rw [sc.1, sc.2.1, e.2.2.1, e.2.2.2, go (b + 5) (by omega) (by omega), go (b + 6) (by omega) (by omega)]
    exact b2 a ha k q1 q2
  · exact rc_cg s hw (fun c hc => ⟨h _ (by omega), h _ (by omega), fun k _ => by rw [go _ (by omega) (by omega)], fun k q1 q2 => ⟨h _ (by omega), h _ (by omega)⟩⟩) (congrArg Int32.toNatClampNeg e6) c1
end CHW
