/-! THE PURE LEVEL, 61: shaken until nothing falls -/
def itN (M : Nat → Int32) : Nat → Nat → Int32
  | 0 => M
  | k + 1 => shK (itN M k) (nLv M)
def fallC (M : Nat → Int32) (k : Nat) : Nat := cntN (lsB (itN M k)) (nLv M)
section ITN
variable {M : Nat → Int32}
theorem dr_2 {i : Nat} : ∀ k, (M (99 + i) = 2 ∨ (i < k ∧ M (99 + i) = 1)) → drK M k (99 + i) = 2
  | 0, h => by
    rcases h with h | h
    · exact h
    · omega
  | k + 1, h => by
    show (if M (99 + k) = 1 then lfN (drK M k) k 2 else drK M k) (99 + i) = 2
    by_cases q : M (99 + k) = 1
    · rw [if_pos q]
      by_cases z : i = k
      · rw [z]
        exact u1_e _ _ _
      · rw [lf_o (by omega)]
        exact dr_2 k (by
          rcases h with h | h
          · exact Or.inl h
          · exact Or.inr ⟨by omega, h.2⟩)
    · rw [if_neg q]
      exact dr_2 k (by
        rcases h with h | h
        · exact Or.inl h
        · refine Or.inr ⟨?_, h.2⟩
          by_cases z : i = k
          · rw [z] at h
            exact absurd h.2 q
          · omega)
theorem ls_2 {N : Nat → Int32} {i l : Nat} (h : N (99 + i) = 2) : lsN N l (99 + i) = 2 := by
  unfold lsN
  cases z : mtO N l 0
  · rw [if_neg (by decide)]
    exact h
  · rw [if_pos rfl]
    have q := of_decide_eq_true z
    by_cases e : i = mtN (nv N 2) l
    · rw [e, q.2.2] at h
      cases h
    · rw [lf_o (by omega)]
      exact h
theorem sh_2 {i : Nat} (h : M (99 + i) = 2 ∨ (i < nLv M ∧ M (99 + i) = 1)) : ∀ k, shK M k (99 + i) = 2
  | 0 => dr_2 _ h
  | k + 1 => by
    show (if M (99 + k) = 1 then lsN (shK M k) k else shK M k) (99 + i) = 2
    by_cases q : M (99 + k) = 1
    · rw [if_pos q]
      exact ls_2 (sh_2 h k)
    · rw [if_neg q]
      exact sh_2 h k
theorem it_wf (hw : WFN M) : ∀ k, WFN (itN M k) ∧ nLv (itN M k) = nLv M ∧ ∀ j, (j < 99 ∨ 99 + nLv M ≤ j) → itN M k j = M j
  | 0 => ⟨hw, rfl, fun _ _ => rfl⟩
  | k + 1 => by
    obtain ⟨i1, i2, i3⟩ := it_wf hw k
    obtain ⟨s1, s2, -, s4⟩ := sh_wf i1 (nLv M) (by omega)
    exact ⟨s1, s2.trans i2, fun j hj => (s4 j (by rw [i2]; exact hj)).trans (i3 j hj)⟩
def lostC (M : Nat → Int32) (k : Nat) : Nat := cntN (fun i => decide (itN M k (99 + i) = 2)) (nLv M)
theorem it_sum (k : Nat) : cntN (fun i => decide (itN M k (99 + i) = 1) || decide (itN M k (99 + i) = 2)) (nLv M) = fallC M k + lostC M k :=
  cntN_or fun i _ => ⟨rfl, by
    show (decide (itN M k (99 + i) = 1) && decide (itN M k (99 + i) = 2)) = false
    by_cases q : itN M k (99 + i) = 1
    · rw [q]
      decide
    · rw [decide_eq_false q, Bool.false_and]⟩
theorem it_up (hw : WFN M) (k : Nat) : fallC M k + lostC M k ≤ lostC M (k + 1) := by
  obtain ⟨i1, i2, i3⟩ := it_wf hw k
  rw [← it_sum]
  refine cntN_mono fun i hi e => ?_
  rw [Bool.or_eq_true] at e
  refine decide_eq_true (sh_2 ?_ (nLv M))
  rcases e with e | e
  · exact Or.inr ⟨by omega, of_decide_eq_true e⟩
  · exact Or.inl (of_decide_eq_true e)
theorem it_end (hw : WFN M) : ∃ q, q ≤ 12 ∧ fallC M q = 0 ∧ ∀ k, k < q → 0 < fallC M k := by
  have h12 := nlv_12 hw.1
  have key : ∀ n, n ≤ 12 → (∃ q, q ≤ n ∧ fallC M q = 0 ∧ ∀ k, k < q → 0 < fallC M k) ∨ (n ≤ lostC M n ∧ ∀ k, k < n → 0 < fallC M k) := by
    intro n
    induction n with
    | zero => exact fun _ => Or.inr ⟨Nat.zero_le _, fun k hk => absurd hk (Nat.not_lt_zero k)⟩
    | succ n ih =>
      intro hn
      rcases ih (by omega) with ⟨q, a, c, d⟩ | ⟨a, c⟩
      · exact Or.inl ⟨q, by omega, c, d⟩
      · by_cases z : fallC M n = 0
        · exact Or.inl ⟨n, by omega, z, c⟩
        · have := it_up hw n
          refine Or.inr ⟨by omega, fun k hk => ?_⟩
          by_cases e : k = n
          · rw [e]
            omega
          · exact c k (by omega)
  rcases key 12 (Nat.le_refl _) with h | ⟨a, c⟩
  · exact h
  · refine ⟨12, Nat.le_refl _, ?_, c⟩
    have s := it_sum (M := M) 12
    have := cntN_le (fun i => decide (itN M 12 (99 + i) = 1) || decide (itN M 12 (99 + i) = 2)) (nLv M)
    omega
end ITN
