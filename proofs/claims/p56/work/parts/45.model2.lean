/-! THE PURE LEVEL, 4: the reference's questions -/
theorem nI_a1 (n : Nat) : nI n + 1 = nI (n + 1) := nI_add n 1
/-- act a of the row: its words f .. f + n - 1 -/
def aOK (N : Nat → Int32) (a f n : Nat) : Prop := a < 10 ∧ N (9 + 9 * a + 5) = nI f ∧ N (9 + 9 * a + 6) = nI n ∧ 1 ≤ n ∧ f + n ≤ 240
/-- what stands at word g -/
def skN (N : Nat → Int32) (g : Nat) : Bool := decide (N (127 + 13 * g + 2) = 0)
/-- first and last standing word of words f .. f + n - 1 -/
def fsN (N : Nat → Int32) (f : Nat) : Nat → Option (Nat × Nat)
  | 0 => none
  | n + 1 => if skN N (f + n) = true then (match fsN N f n with | none => some (f + n, f + n) | some (x, _) => some (x, f + n)) else fsN N f n
theorem fsN_none {N : Nat → Int32} {f : Nat} : ∀ {n : Nat}, fsN N f n = none → ∀ k, k < n → skN N (f + k) = false
  | 0, _, k, hk => absurd hk (Nat.not_lt_zero _)
  | n + 1, h, k, hk => by
    unfold fsN at h
    cases e : skN N (f + n)
    · rw [e] at h
      have h : fsN N f n = none := h
      rcases Nat.lt_succ_iff_lt_or_eq.mp hk with q | q
      · exact fsN_none h k q
      · rw [q]; exact e
    · rw [if_pos e] at h
      split at h <;> cases h
theorem fsN_some {N : Nat → Int32} {f x y : Nat} : ∀ {n : Nat}, fsN N f n = some (x, y) → (f ≤ x ∧ x ≤ y ∧ y < f + n) ∧ skN N x = true ∧ skN N y = true ∧ (∀ g, f ≤ g → g < x → skN N g = false) ∧ ∀ g, y < g → g < f + n → skN N g = false
  | 0, h => by cases h
  | n + 1, h => by
    unfold fsN at h
    cases e : skN N (f + n)
    · rw [e] at h
      obtain ⟨h1, h2, h3, h4, h5⟩ := fsN_some (n := n) h
      refine ⟨⟨h1.1, h1.2.1, by omega⟩, h2, h3, h4, fun g q1 q2 => ?_⟩
      by_cases q : g = f + n
      · rw [q]; exact e
      · exact h5 g q1 (by omega)
    · rw [if_pos e] at h
      split at h
      · rename_i e2
        cases h
        refine ⟨⟨by omega, Nat.le_refl _, by omega⟩, e, e, fun g q1 q2 => ?_, fun g q1 q2 => by omega⟩
        have := fsN_none e2 (g - f) (by omega)
        rw [show f + (g - f) = g by omega] at this
        exact this
      · rename_i x2 y2 e2
        cases h
        obtain ⟨h1, h2, h3, h4, h5⟩ := fsN_some (n := n) e2
        exact ⟨⟨h1.1, by omega, by omega⟩, h2, e, h4, fun g q1 q2 => by omega⟩
def fstS (N : Nat → Int32) (f n : Nat) : Int32 := match fsN N f n with | none => nO | some (x, _) => nI x
def lstS (N : Nat → Int32) (f n : Nat) : Int32 := match fsN N f n with | none => nO | some (_, y) => nI y
/-- has a copy of grade gr word g (of this act's words) -/
def hbN (N : Nat → Int32) (f n gr g : Nat) : Bool := skN N g && (decide (gr < 2) || decide (nI g = fstS N f n) || decide (nI g = lstS N f n))
section M2
variable {σ : HpT} {G : Nat → Nat → Int32} {m : Nat}
/-- standing words of an act, those behind them too -/
def stN (N : Nat → Int32) (f n : Nat) : Int32 := sumI (fun k => bI (skN N (f + k)) + N (127 + 13 * (f + k) + 4)) n
end M2
