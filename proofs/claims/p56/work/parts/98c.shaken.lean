/-! THE PURE LEVEL, 61: shaken until nothing falls -/
def itN (M : Nat → Int32) : Nat → Nat → Int32
  | 0 => M
  | k + 1 => shK (itN M k) (nLv M)
def fallC (M : Nat → Int32) (k : Nat) : Nat := cntN (lsB (itN M k)) (nLv M)
section ITN
variable {M : Nat → Int32}
theorem it_wf (hw : WFN M) : ∀ k, WFN (itN M k) ∧ nLv (itN M k) = nLv M ∧ ∀ j, (j < 99 ∨ 99 + nLv M ≤ j) → itN M k j = M j
  | 0 => ⟨hw, rfl, fun _ _ => rfl⟩
  | k + 1 => by
    obtain ⟨i1, i2, i3⟩ := it_wf hw k
    obtain ⟨s1, s2, -, s4⟩ := sh_wf i1 (nLv M) (by omega)
    exact ⟨s1, s2.trans i2, fun j hj => (s4 j (by rw [i2]; exact hj)).trans (i3 j hj)⟩
end ITN
