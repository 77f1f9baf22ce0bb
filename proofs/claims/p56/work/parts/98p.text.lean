/-! THE PURE LEVEL, 74: texts; the reference writes -/
def TY (T : tI) : Prop := ∀ k, k < T.1 → ∃ d, d < 128 ∧ T.2 k = nI d
section TXT
variable {T : tI} {d n k : Nat} {lo hi : Int32}
theorem lenQ_le (lo hi : Int32) : lenQ lo hi ≤ 8 := by
  unfold lenQ
  cases e : fuN (fun k => decide (dg lo hi k = 0)) 8 with
  | none => exact Nat.le_refl _
  | some j =>
    have := (fuN_some e).1
    show j ≤ 8
    omega
theorem by_ok : ∀ d, d < 128 → (nI d).toInt8.toInt32 = nI d := by decide +kernel
theorem ch_ok : ∀ d, d < 128 → ((nI d).toUInt32 % 65536).toInt32 = nI d := by decide +kernel
theorem byc_ok : ∀ d, d < 128 → ((nI d &&& 255).toUInt32 % 65536).toInt32 = nI d := by decide +kernel
end TXT
section WDT
variable {N : Nat → Int32} {mk : Bool} {g mm j : Nat} {T : tI}
end WDT
section MTX
variable {σ : HpT} {G : Nat → Nat → Int32} {T : tI} {N : Nat → Int32} {a d g c q : Nat}
theorem cv_4 (hw : WFN N) (ha : a < nAc N) (h1 : aF N a ≤ g) (h2 : g < aF N a + aM N a) : cntV (cF N) (aK N a) (aC N a) g ≤ 4 ∧ cntV (cT N) (aK N a) (aC N a) g ≤ 4 := by
  have hc := ((hw.2.2.1 a ha).2 g h1 h2).2.2
  have cl := (hw.2.2.1 a ha).1
  refine ⟨Nat.le_trans (cntN_mono fun i hi e => ?_) hc, Nat.le_trans (cntN_mono fun i hi e => ?_) hc⟩
  · have e := of_decide_eq_true e
    have := (cl (aK N a + i) (by omega) (by omega)).2.2.2.2.1
    rw [decide_eq_true (show cF N (aK N a + i) ≤ g by omega), decide_eq_true (show g ≤ cT N (aK N a + i) by omega)]
    rfl
  · have e := of_decide_eq_true e
    have := (cl (aK N a + i) (by omega) (by omega)).2.2.2.2.1
    rw [decide_eq_true (show cF N (aK N a + i) ≤ g by omega), decide_eq_true (show g ≤ cT N (aK N a + i) by omega)]
    rfl
end MTX
