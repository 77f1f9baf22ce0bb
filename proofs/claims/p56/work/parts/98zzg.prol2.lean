/-! THE PURE LEVEL, 116: what the prologue leaves in the row -/
section ZZ
variable {S T : HpT} {y : Type}
theorem zA {α : Type} {κ : Nat} {f : Option Nat → HpT → AT α} {v : α} {a b : Nat} (h : bnA (nwA κ S) f = some (.ok v, T, a, b)) : ∃ a2 b2, f (some (hN S)) (wN S κ 0) = some (.ok v, T, a2, b2) := by
  rcases bnA_s h with ⟨e, -, q⟩ | ⟨w, S1, a1, b1, a2, b2, h1, h2, -, -⟩
  · cases q
  · unfold nwA at h1
    split at h1
    · cases h1
      exact ⟨a2, b2, h2⟩
    · cases h1
theorem zP {γ : Type} {r : Option Nat} {κ k : Nat} {x : Option Nat} {f : HpT → Option γ} {v : γ} (h : bnP (pR S r κ k x) f = some v) : ∃ a, f (wR S a k x) = some v := by
  obtain ⟨S1, h1, h2⟩ := bnP_s h
  obtain ⟨a, -, -, -, rfl⟩ := pR_s h1
  exact ⟨a, h2⟩
end ZZ
