/-! THE PURE LEVEL, 3: counting clauses -/
theorem cntN_add (p : Nat → Bool) : ∀ n m, cntN p (n + m) = cntN p n + cntN (fun k => p (n + k)) m
  | n, 0 => rfl
  | n, m + 1 => by
    show cntN p (n + m) + (if p (n + m) = true then 1 else 0) = cntN p n + (cntN (fun k => p (n + k)) m + (if p (n + m) = true then 1 else 0))
    rw [cntN_add p n m, Nat.add_assoc]
theorem cntN_zero {p : Nat → Bool} : ∀ {n : Nat}, (∀ k, k < n → p k = false) → cntN p n = 0
  | 0, _ => rfl
  | n + 1, h => by
    show cntN p n + (if p n = true then 1 else 0) = 0
    rw [cntN_zero (fun k hk => h k (by omega)), h n (by omega)]
    rfl
theorem cntN_all {p : Nat → Bool} : ∀ {n : Nat}, (∀ k, k < n → p k = true) → cntN p n = n
  | 0, _ => rfl
  | n + 1, h => by
    show cntN p n + (if p n = true then 1 else 0) = n + 1
    rw [cntN_all (fun k hk => h k (by omega)), h n (by omega)]
    rfl
/-- apart: what is one or the other, never both -/
theorem cntN_or {p q r : Nat → Bool} : ∀ {n : Nat}, (∀ k, k < n → r k = (p k || q k) ∧ (p k && q k) = false) → cntN r n = cntN p n + cntN q n
  | 0, _ => rfl
  | n + 1, h => by
    show cntN r n + (if r n = true then 1 else 0) = (cntN p n + (if p n = true then 1 else 0)) + (cntN q n + (if q n = true then 1 else 0))
    rw [cntN_or (p := p) (q := q) (fun k hk => h k (by omega)), (h n (by omega)).1]
    have h2 := (h n (by omega)).2
    cases hp : p n <;> cases hq : q n
    · simp
    · simp
      omega
    · simp
      omega
    · rw [hp, hq] at h2
      cases h2
theorem cntN_mono {p q : Nat → Bool} : ∀ {n : Nat}, (∀ k, k < n → p k = true → q k = true) → cntN p n ≤ cntN q n
  | 0, _ => Nat.le_refl _
  | n + 1, h => by
    show cntN p n + (if p n = true then 1 else 0) ≤ cntN q n + (if q n = true then 1 else 0)
    have h1 := cntN_mono (p := p) (q := q) (n := n) (fun k hk => h k (by omega))
    have h2 := h n (by omega)
    cases hp : p n
    · exact Nat.le_trans (Nat.le_of_eq (Nat.add_zero _)) (Nat.le_trans h1 (Nat.le_add_right _ _))
    · rw [h2 hp]
      simp
      omega
theorem cntN_pos {p : Nat → Bool} : ∀ {n : Nat}, 0 < cntN p n → ∃ k, k < n ∧ p k = true
  | 0, h => absurd h (Nat.lt_irrefl _)
  | n + 1, h => by
    have h : 0 < cntN p n + (if p n = true then 1 else 0) := h
    cases hp : p n
    · rw [hp] at h
      obtain ⟨k, hk, hq⟩ := cntN_pos (p := p) (n := n) (by simpa using h)
      exact ⟨k, by omega, hq⟩
    · exact ⟨n, by omega, hp⟩
theorem cntN_one {p : Nat → Bool} {n k : Nat} (hk : k < n) (hp : p k = true) : 0 < cntN p n := by
  by_cases h : 0 < cntN p n
  · exact h
  · exfalso
    have h2 : cntN p (k + 1) ≤ cntN p n := by
      obtain ⟨j, rfl⟩ : ∃ j, n = (k + 1) + j := ⟨n - (k + 1), by omega⟩
      have h4 := cntN_add p (k + 1) j
      omega
    have h3 : cntN p (k + 1) = cntN p k + (if p k = true then 1 else 0) := rfl
    rw [hp] at h3
    simp at h3
    omega
/-- the only one -/
theorem cntN_uniq {p : Nat → Bool} {n j : Nat} (hj : j < n) (hp : p j = true) (hu : ∀ k, k < n → p k = true → k = j) : cntN p n = 1 := by
  obtain ⟨i, rfl⟩ : ∃ i, n = (j + 1) + i := ⟨n - (j + 1), by omega⟩
  rw [cntN_add]
  have h1 : cntN p (j + 1) = cntN p j + (if p j = true then 1 else 0) := rfl
  rw [h1, hp, cntN_zero (p := p) (n := j), cntN_zero (p := fun k => p (j + 1 + k))]
  · rfl
  · intro k hk
    cases e : p (j + 1 + k)
    · rfl
    · exact absurd (hu _ (by omega) e) (by omega)
  · intro k hk
    cases e : p k
    · rfl
    · exact absurd (hu _ (by omega) e) (by omega)
def sumN (f : Nat → Nat) : Nat → Nat
  | 0 => 0
  | n + 1 => sumN f n + f n
theorem sumN_cong {f g : Nat → Nat} : ∀ {n : Nat}, (∀ k, k < n → f k = g k) → sumN f n = sumN g n
  | 0, _ => rfl
  | n + 1, h => by
    show sumN f n + f n = sumN g n + g n
    rw [sumN_cong (fun k hk => h k (by omega)), h n (by omega)]
theorem sumI_sumN (f : Nat → Nat) : ∀ n, sumI (fun k => nI (f k)) n = nI (sumN f n)
  | 0 => rfl
  | n + 1 => by
    show sumI (fun k => nI (f k)) n + nI (f n) = nI (sumN f n + f n)
    rw [sumI_sumN f n, nI_add]
/-- how many of the n clauses from k on have value w at f -/
def cntV (f : Nat → Nat) (k n w : Nat) : Nat := cntN (fun i => decide (f (k + i) = w)) n
def cntL (f : Nat → Nat) (k n w : Nat) : Nat := cntN (fun i => decide (f (k + i) < w)) n
theorem cntL_succ (f : Nat → Nat) (k n w : Nat) : cntL f k n (w + 1) = cntL f k n w + cntV f k n w := by
  unfold cntL cntV
  refine cntN_or (fun i _ => ⟨?_, ?_⟩)
  · by_cases h1 : f (k + i) < w
    · simp [h1]; omega
    · by_cases h2 : f (k + i) = w
      · simp [h2]
      · have h3 : ¬ f (k + i) < w + 1 := by omega
        simp [h1, h2, h3]
  · by_cases h1 : f (k + i) < w
    · have : ¬ f (k + i) = w := by omega
      simp [this]
    · simp [h1]
theorem cntL_sum (f : Nat → Nat) (k n a : Nat) (h : ∀ i, i < n → a ≤ f (k + i)) : ∀ w, cntL f k n (a + w) = sumN (fun j => cntV f k n (a + j)) w
  | 0 => cntN_zero (fun i hi => decide_eq_false (by have := h i hi; omega))
  | w + 1 => by
    show cntL f k n (a + w + 1) = sumN (fun j => cntV f k n (a + j)) w + cntV f k n (a + w)
    rw [cntL_succ, cntL_sum f k n a h w]
/-- clauses that hold word w -/
def cov (F T : Nat → Nat) (k n w : Nat) : Nat := cntN (fun i => decide (F (k + i) ≤ w) && decide (w ≤ T (k + i))) n
theorem cov_eq {F T : Nat → Nat} {k n : Nat} (h : ∀ i, i < n → F (k + i) ≤ T (k + i)) (w : Nat) : cntL F k n (w + 1) = cov F T k n w + cntL T k n w := by
  unfold cntL cov
  refine cntN_or (fun i hi => ⟨?_, ?_⟩)
  · have := h i hi
    by_cases h1 : F (k + i) ≤ w
    · by_cases h2 : w ≤ T (k + i)
      · have h3 : F (k + i) < w + 1 := by omega
        simp [h1, h2, h3]
      · have h3 : F (k + i) < w + 1 := by omega
        have h4 : T (k + i) < w := by omega
        simp [h3, h4]
    · have h3 : ¬ F (k + i) < w + 1 := by omega
      have h4 : ¬ T (k + i) < w := by omega
      simp [h1, h3, h4]
  · by_cases h1 : w ≤ T (k + i)
    · have h4 : ¬ T (k + i) < w := by omega
      simp [h4]
    · simp [h1]
/-- clauses open as word w is come to -/
def enr (F T : Nat → Nat) (k n w : Nat) : Nat := cntN (fun i => decide (F (k + i) < w) && decide (w ≤ T (k + i))) n
theorem ent_eq {F T : Nat → Nat} {k n : Nat} (h : ∀ i, i < n → F (k + i) ≤ T (k + i)) (w : Nat) : cntL F k n w = enr F T k n w + cntL T k n w := by
  unfold cntL enr
  refine cntN_or (fun i hi => ⟨?_, ?_⟩)
  · have := h i hi
    by_cases h1 : F (k + i) < w
    · by_cases h2 : w ≤ T (k + i)
      · simp [h1, h2]
      · have h4 : T (k + i) < w := by omega
        simp [h1, h4]
    · have h4 : ¬ T (k + i) < w := by omega
      simp [h1, h4]
  · by_cases h1 : w ≤ T (k + i)
    · have h4 : ¬ T (k + i) < w := by omega
      simp [h4]
    · simp [h1]
theorem cov_ent {F T : Nat → Nat} {k n : Nat} (h : ∀ i, i < n → F (k + i) ≤ T (k + i)) (w : Nat) : cov F T k n w = enr F T k n w + cntV F k n w := by
  have h1 := cov_eq h w
  have h2 := ent_eq h w
  have h3 := cntL_succ F k n w
  omega
theorem ent_succ {F T : Nat → Nat} {k n : Nat} (h : ∀ i, i < n → F (k + i) ≤ T (k + i)) (w : Nat) : enr F T k n (w + 1) + cntV T k n w = cov F T k n w := by
  have h1 := cov_eq h w
  have h2 := ent_eq h (w + 1)
  have h3 := cntL_succ T k n w
  omega
