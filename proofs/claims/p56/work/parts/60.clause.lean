/-! THE PURE LEVEL, 20: clauses in clauses -/
theorem cntN_at (P : Nat → Bool) (a j : Nat) : cntN P (a + 1 + j) = cntN P a + (if P a = true then 1 else 0) + cntN (fun i => P (a + 1 + i)) j := by
  rw [cntN_add]
  rfl
theorem cntN_cut {P Q : Nat → Bool} {a m : Nat} (ha : a < m) (h1 : ∀ i, i < a → P i = Q i) (h2 : P a = true) (h3 : ∀ i, a < i → i < m → P i = false) : cntN P m = cntN Q a + 1 := by
  obtain ⟨j, rfl⟩ : ∃ j, m = a + 1 + j := ⟨m - a - 1, by omega⟩
  rw [cntN_at, cntN_cong h1, if_pos h2, cntN_zero (p := fun i => P (a + 1 + i)) (fun i hi => h3 _ (by omega) (by omega))]
theorem cntN_pre {P : Nat → Bool} {a m : Nat} (ha : a ≤ m) (h : ∀ i, a ≤ i → i < m → P i = false) : cntN P m = cntN P a := by
  obtain ⟨j, rfl⟩ : ∃ j, m = a + j := ⟨m - a, by omega⟩
  rw [cntN_add, cntN_zero (p := fun i => P (a + i)) (fun i hi => h _ (by omega) (by omega)), Nat.add_zero]
theorem cntN_ple {P : Nat → Bool} {a m : Nat} (ha : a ≤ m) : cntN P a ≤ cntN P m := by
  obtain ⟨j, rfl⟩ : ∃ j, m = a + j := ⟨m - a, by omega⟩
  rw [cntN_add]
  exact Nat.le_add_right _ _
theorem cntN_fib (P : Nat → Bool) (f : Nat → Nat) (n lo : Nat) : ∀ m, (∀ i, i < n → P i = true → lo ≤ f i) → cntN (fun i => P i && decide (f i < lo + m)) n = sumN (fun j => cntN (fun i => P i && decide (f i = lo + j)) n) m
  | 0, h => cntN_zero (fun i hi => by
    cases e : P i
    · rfl
    · have := h i hi e
      rw [decide_eq_false (by omega)]
      rfl)
  | m + 1, h => by
    show _ = sumN (fun j => cntN (fun i => P i && decide (f i = lo + j)) n) m + cntN (fun i => P i && decide (f i = lo + m)) n
    rw [← cntN_fib P f n lo m h]
    refine cntN_or (fun i hi => ⟨?_, ?_⟩)
    · cases e : P i
      · rfl
      · rw [Bool.true_and, Bool.true_and, Bool.true_and, Bool.eq_iff_iff, Bool.or_eq_true, decide_eq_true_eq, decide_eq_true_eq, decide_eq_true_eq]
        omega
    · cases e : P i
      · rfl
      · rw [Bool.true_and, Bool.true_and]
        by_cases q : f i = lo + m
        · rw [decide_eq_false (show ¬ f i < lo + m by omega)]
          rfl
        · rw [decide_eq_false q, Bool.and_false]
def CLz (F T A : Nat → Nat) (k n lo hi : Nat) : Prop := ∀ c, k ≤ c → c < k + n → lo ≤ F c ∧ F c ≤ T c ∧ T c < hi ∧ (∀ d, k ≤ d → d < c → F d ≤ F c ∧ (T d < F c ∨ T c ≤ T d)) ∧ ((A c = 0 ∧ ∀ d, k ≤ d → d < c → T d < F c) ∨ ∃ p, A c = p + 1 ∧ k ≤ p ∧ p < c ∧ T c ≤ T p ∧ ∀ d, p < d → d < c → T d < F c)
/-- the depth of clause c -/
def dep (F T : Nat → Nat) (k c : Nat) : Nat := cntN (fun i => decide (F c ≤ T (k + i))) (c - k) + 1
section CLS
variable {F T A : Nat → Nat} {k n lo hi : Nat}
theorem cl_ft (h : CLz F T A k n lo hi) : ∀ i, i < n → F (k + i) ≤ T (k + i) := fun i hi => (h (k + i) (by omega) (by omega)).2.1
theorem dep_p (h : CLz F T A k n lo hi) {c p : Nat} (h1 : k ≤ c) (h2 : c < k + n) (e : A c = p + 1) : k ≤ p ∧ p < c ∧ dep F T k c = dep F T k p + 1 := by
  obtain ⟨c1, c2, c3, c4, q⟩ := h c h1 h2
  rcases q with ⟨q, -⟩ | ⟨p', q1, q2, q3, q4, q5⟩
  · omega
  · obtain rfl : p' = p := by omega
    obtain ⟨d1, d2, d3, d4, -⟩ := h p' q2 (by omega)
    refine ⟨q2, q3, ?_⟩
    unfold dep
    rw [cntN_cut (P := fun i => decide (F c ≤ T (k + i))) (Q := fun i => decide (F p' ≤ T (k + i))) (a := p' - k) (by omega)]
    · intro i hi
      have a1 := d4 (k + i) (by omega) (by omega)
      have a2 := c4 p' q2 q3
      exact decide_eq_decide.mpr (by omega)
    · show decide (F c ≤ T (k + (p' - k))) = true
      rw [show k + (p' - k) = p' by omega]
      exact decide_eq_true (by omega)
    · intro i h3 h4
      have := q5 (k + i) (by omega) (by omega)
      exact decide_eq_false (by omega)
theorem cov_dep (h : CLz F T A k n lo hi) {p g : Nat} (h1 : k ≤ p) (h2 : p < k + n) (h3 : F p ≤ g) (h4 : g ≤ T p) (h5 : ∀ c, p < c → c < k + n → ¬ (F c ≤ g ∧ g ≤ T c)) : cov F T k n g = dep F T k p := by
  obtain ⟨d1, d2, d3, d4, -⟩ := h p h1 h2
  unfold cov dep
  refine cntN_cut (a := p - k) (by omega) ?_ ?_ ?_
  · intro i hi
    have a1 := d4 (k + i) (by omega) (by omega)
    show (decide (F (k + i) ≤ g) && decide (g ≤ T (k + i))) = decide (F p ≤ T (k + i))
    rw [decide_eq_true (show F (k + i) ≤ g by omega), Bool.true_and]
    exact decide_eq_decide.mpr (by omega)
  · show (decide (F (k + (p - k)) ≤ g) && decide (g ≤ T (k + (p - k)))) = true
    rw [show k + (p - k) = p by omega, decide_eq_true h3, decide_eq_true h4]
    rfl
  · intro i hi hj
    have := h5 (k + i) (by omega) (by omega)
    show (decide (F (k + i) ≤ g) && decide (g ≤ T (k + i))) = false
    by_cases q : F (k + i) ≤ g
    · rw [decide_eq_false (show ¬ g ≤ T (k + i) from fun e => this ⟨q, e⟩), Bool.and_false]
    · rw [decide_eq_false q, Bool.false_and]
theorem cov_0 {g : Nat} (h5 : ∀ c, k ≤ c → c < k + n → ¬ (F c ≤ g ∧ g ≤ T c)) : cov F T k n g = 0 := by
  unfold cov
  refine cntN_zero (fun i hi => ?_)
  have := h5 (k + i) (by omega) (by omega)
  by_cases q : F (k + i) ≤ g
  · rw [decide_eq_false (show ¬ g ≤ T (k + i) from fun e => this ⟨q, e⟩), Bool.and_false]
  · rw [decide_eq_false q, Bool.false_and]
/-- the number of a clause, counted along the words -/
theorem cl_idx (h : CLz F T A k n lo hi) {c : Nat} (h1 : k ≤ c) (h2 : c < k + n) : c - k + enr F T k n (F c) + 1 = cntL F k n (F c) + dep F T k c ∧ enr F T k n (F c) + 1 ≤ dep F T k c ∧ cntL F k n (F c) ≤ c - k := by
  obtain ⟨d1, d2, d3, d4, -⟩ := h c h1 h2
  have srt : ∀ i, c - k ≤ i → i < n → F c ≤ F (k + i) := fun i q1 q2 => by
    by_cases q : k + i = c
    · rw [q]
      exact Nat.le_refl _
    · exact ((h (k + i) (by omega) (by omega)).2.2.2.1 c h1 (by omega)).1
  have e1 : cntL F k n (F c) = cntN (fun i => decide (F (k + i) < F c)) (c - k) := cntN_pre (by omega) (fun i q1 q2 => decide_eq_false (by have := srt i q1 q2; omega))
  have e2 : enr F T k n (F c) = cntN (fun i => decide (F (k + i) < F c) && decide (F c ≤ T (k + i))) (c - k) := cntN_pre (by omega) (fun i q1 q2 => by
    rw [decide_eq_false (show ¬ F (k + i) < F c by have := srt i q1 q2; omega), Bool.false_and])
  have e3 : cntN (fun i => decide (F c ≤ T (k + i))) (c - k) = cntN (fun i => decide (F (k + i) < F c) && decide (F c ≤ T (k + i))) (c - k) + cntN (fun i => decide (F (k + i) = F c)) (c - k) := cntN_or (fun i hi => by
    have a1 := d4 (k + i) (by omega) (by omega)
    have a2 := (h (k + i) (by omega) (by omega)).2.1
    by_cases q : F (k + i) = F c
    · rw [decide_eq_true q, decide_eq_false (show ¬ F (k + i) < F c by omega), decide_eq_true (show F c ≤ T (k + i) by omega)]
      exact ⟨rfl, rfl⟩
    · rw [decide_eq_false q, decide_eq_true (show F (k + i) < F c by omega), Bool.true_and, Bool.or_false, Bool.and_false]
      exact ⟨rfl, rfl⟩)
  have e4 : cntN (fun _ => true) (c - k) = cntN (fun i => decide (F (k + i) < F c)) (c - k) + cntN (fun i => decide (F (k + i) = F c)) (c - k) := cntN_or (fun i hi => by
    have a1 := d4 (k + i) (by omega) (by omega)
    by_cases q : F (k + i) = F c
    · rw [decide_eq_true q, decide_eq_false (show ¬ F (k + i) < F c by omega)]
      exact ⟨rfl, rfl⟩
    · rw [decide_eq_false q, decide_eq_true (show F (k + i) < F c by omega)]
      exact ⟨rfl, rfl⟩)
  rw [cntN_all (fun _ _ => rfl)] at e4
  unfold dep
  omega
theorem enr_ge (h : CLz F T A k n lo hi) {c v : Nat} (h1 : k ≤ c) (h2 : c < k + n) (h3 : F c < v) (h4 : v ≤ T c) : dep F T k c ≤ enr F T k n v := by
  obtain ⟨d1, d2, d3, d4, -⟩ := h c h1 h2
  have e1 : cntN (fun i => decide (F (k + i) < v) && decide (v ≤ T (k + i))) (c - k + 1) ≤ enr F T k n v := cntN_ple (by omega)
  have e2 : cntN (fun i => decide (F c ≤ T (k + i))) (c - k + 1) ≤ cntN (fun i => decide (F (k + i) < v) && decide (v ≤ T (k + i))) (c - k + 1) := cntN_mono (fun i hi q => by
    rw [decide_eq_true_eq] at q
    rw [Bool.and_eq_true, decide_eq_true_eq, decide_eq_true_eq]
    by_cases q2 : k + i = c
    · rw [q2]
      exact ⟨h3, h4⟩
    · have := d4 (k + i) (by omega) (by omega)
      omega)
  have e3 : cntN (fun i => decide (F c ≤ T (k + i))) (c - k + 1) = dep F T k c := by
    show cntN (fun i => decide (F c ≤ T (k + i))) (c - k) + (if decide (F c ≤ T (k + (c - k))) = true then 1 else 0) = _
    rw [show k + (c - k) = c by omega, if_pos (decide_eq_true d2)]
    rfl
  omega
theorem cov_ge (h : CLz F T A k n lo hi) {c v : Nat} (h1 : k ≤ c) (h2 : c < k + n) (h3 : F c ≤ v) (h4 : v ≤ T c) : dep F T k c ≤ cov F T k n v := by
  obtain ⟨d1, d2, d3, d4, -⟩ := h c h1 h2
  have e1 : cntN (fun i => decide (F (k + i) ≤ v) && decide (v ≤ T (k + i))) (c - k + 1) ≤ cov F T k n v := cntN_ple (by omega)
  have e2 : cntN (fun i => decide (F c ≤ T (k + i))) (c - k + 1) ≤ cntN (fun i => decide (F (k + i) ≤ v) && decide (v ≤ T (k + i))) (c - k + 1) := cntN_mono (fun i hi q => by
    rw [decide_eq_true_eq] at q
    rw [Bool.and_eq_true, decide_eq_true_eq, decide_eq_true_eq]
    by_cases q2 : k + i = c
    · rw [q2]
      exact ⟨h3, h4⟩
    · have := d4 (k + i) (by omega) (by omega)
      omega)
  have e3 : cntN (fun i => decide (F c ≤ T (k + i))) (c - k + 1) = dep F T k c := by
    show cntN (fun i => decide (F c ≤ T (k + i))) (c - k) + (if decide (F c ≤ T (k + (c - k))) = true then 1 else 0) = _
    rw [show k + (c - k) = c by omega, if_pos (decide_eq_true d2)]
    rfl
  omega
theorem enr_end (h : CLz F T A k n lo hi) {c : Nat} (h1 : k ≤ c) (h2 : c < k + n) : enr F T k n (T c + 1) < dep F T k c := by
  obtain ⟨d1, d2, d3, d4, -⟩ := h c h1 h2
  have e1 : enr F T k n (T c + 1) = cntN (fun i => decide (F (k + i) < T c + 1) && decide (T c + 1 ≤ T (k + i))) (c - k) := cntN_pre (by omega) (fun i q1 q2 => by
    by_cases q : k + i = c
    · rw [q, decide_eq_false (show ¬ T c + 1 ≤ T c by omega), Bool.and_false]
    · have := ((h (k + i) (by omega) (by omega)).2.2.2.1 c h1 (by omega)).2
      by_cases q3 : F (k + i) < T c + 1
      · rw [decide_eq_false (show ¬ T c + 1 ≤ T (k + i) by omega), Bool.and_false]
      · rw [decide_eq_false q3, Bool.false_and])
  have e2 : cntN (fun i => decide (F (k + i) < T c + 1) && decide (T c + 1 ≤ T (k + i))) (c - k) ≤ cntN (fun i => decide (F c ≤ T (k + i))) (c - k) := cntN_mono (fun i hi q => by
    rw [Bool.and_eq_true, decide_eq_true_eq, decide_eq_true_eq] at q
    exact decide_eq_true (by omega))
  unfold dep
  omega
/-- sorted by the first words: how many begin ahead of v -/
theorem cntL_lt (h : CLz F T A k n lo hi) {c v : Nat} (h1 : k ≤ c) (h2 : c < k + n) (h3 : v ≤ F c) : cntL F k n v ≤ c - k := by
  have e1 : cntL F k n v = cntN (fun i => decide (F (k + i) < v)) (c - k) := cntN_pre (by omega) (fun i q1 q2 => decide_eq_false (by
    by_cases q : k + i = c
    · rw [q]
      omega
    · have := ((h (k + i) (by omega) (by omega)).2.2.2.1 c h1 (by omega)).1
      omega))
  rw [e1]
  exact cntN_le _ _
theorem cntL_gt (h : CLz F T A k n lo hi) {c v : Nat} (h1 : k ≤ c) (h2 : c < k + n) (h3 : F c < v) : c - k < cntL F k n v := by
  have e1 : cntN (fun i => decide (F (k + i) < v)) (c - k + 1) ≤ cntL F k n v := cntN_ple (by omega)
  rw [cntN_all (fun i hi => decide_eq_true (by
    by_cases q : k + i = c
    · rw [q]
      exact h3
    · have := ((h c h1 h2).2.2.2.1 (k + i) (by omega) (by omega)).1
      omega))] at e1
  omega
/-- what begins at v, by its number -/
theorem cl_at (h : CLz F T A k n lo hi) {v j : Nat} (h1 : cntL F k n v ≤ j) (h2 : j < cntL F k n (v + 1)) : k + j < k + n ∧ F (k + j) = v := by
  have h3 : j < n := Nat.lt_of_lt_of_le h2 (cntN_le _ _)
  refine ⟨by omega, ?_⟩
  by_cases q1 : F (k + j) < v
  · have := cntL_gt h (c := k + j) (by omega) (by omega) q1
    omega
  · by_cases q2 : v < F (k + j)
    · have := cntL_lt h (c := k + j) (v := v + 1) (by omega) (by omega) q2
      omega
    · omega
/-- the innermost clause of the words up to one, as the class finds it -/
def innV (F T : Nat → Nat) (k n lo wd : Nat) : Nat → Int32
  | 0 => nO
  | j + 1 => if enr F T k n (lo + j) < wd ∧ wd ≤ enr F T k n (lo + j) + cntV F k n (lo + j) then nI (cntL F k n (lo + j) + wd - enr F T k n (lo + j) - 1) else innV F T k n lo wd j
theorem innV_0 (F T : Nat → Nat) (k n lo : Nat) : ∀ j, innV F T k n lo 0 j = nO
  | 0 => rfl
  | j + 1 => by
    unfold innV
    rw [if_neg (fun q => Nat.not_lt_zero _ q.1)]
    exact innV_0 F T k n lo j
theorem innV_p (h : CLz F T A k n lo hi) {c : Nat} (h1 : k ≤ c) (h2 : c < k + n) : ∀ j, F c < lo + j → lo + j ≤ T c + 1 → innV F T k n lo (dep F T k c) j = nI (c - k)
  | 0, q, _ => by
    have := (h c h1 h2).1
    omega
  | j + 1, q1, q2 => by
    have hi2 := cl_idx h h1 h2
    have hl := (h c h1 h2).1
    unfold innV
    by_cases e : F c = lo + j
    · have hc := cov_ge h h1 h2 (Nat.le_refl (F c)) (h c h1 h2).2.1
      have hc2 := cov_ent (cl_ft h) (F c)
      rw [← e, if_pos ⟨by omega, by omega⟩]
      exact congrArg nI (by omega)
    · have := enr_ge h h1 h2 (v := lo + j) (by omega) (by omega)
      rw [if_neg (by omega)]
      exact innV_p h h1 h2 j (by omega) (by omega)
/-- the clauses that are in one directly -/
def chC (F T : Nat → Nat) (k n c : Nat) : Nat → Nat
  | 0 => if dep F T k c < cov F T k n (F c) then 1 else 0
  | j + 1 => chC F T k n c j + (if enr F T k n (F c + j + 1) = dep F T k c ∧ 0 < cntV F k n (F c + j + 1) then 1 else 0)
theorem chC_sum (F T : Nat → Nat) (k n c : Nat) (K : Nat → Nat) (h0 : K 0 = if dep F T k c < cov F T k n (F c) then 1 else 0) : ∀ m, (∀ j, j < m → K (j + 1) = if enr F T k n (F c + j + 1) = dep F T k c ∧ 0 < cntV F k n (F c + j + 1) then 1 else 0) → sumN K (m + 1) = chC F T k n c m
  | 0, _ => by
    show 0 + K 0 = _
    rw [h0, Nat.zero_add]
    rfl
  | m + 1, h => by
    show sumN K (m + 1) + K (m + 1) = _
    rw [chC_sum F T k n c K h0 m (fun j hj => h j (by omega)), h m (by omega)]
    rfl
/-- a clause in clause c directly has the number that its first word tells -/
theorem ch_idx (h : CLz F T A k n lo hi) {c d : Nat} (h3 : k ≤ d) (h4 : d < k + n) (e : A d = c + 1) : k ≤ c ∧ c < d ∧ F c ≤ F d ∧ F d ≤ T c ∧ d - k + enr F T k n (F d) = cntL F k n (F d) + dep F T k c := by
  obtain ⟨p1, p2, p3⟩ := dep_p h h3 h4 e
  have hi2 := cl_idx h h3 h4
  obtain ⟨-, d2, -, d4, q⟩ := h d h3 h4
  rcases q with ⟨q, -⟩ | ⟨p', q1, q2, q3, q4, q5⟩
  · omega
  · obtain rfl : p' = c := by omega
    exact ⟨p1, p2, (d4 p' p1 p2).1, by omega, by omega⟩
theorem ch_one (h : CLz F T A k n lo hi) {c v : Nat} (h1 : k ≤ c) (h2 : c < k + n) (hp : ∃ d, k ≤ d ∧ d < k + n ∧ A d = c + 1 ∧ F d = v) : cntN (fun i => decide (A (k + i) = c + 1) && decide (F (k + i) = v)) n = 1 := by
  obtain ⟨d, q1, q2, q3, q4⟩ := hp
  refine cntN_uniq (j := d - k) (by omega) ?_ ?_
  · show (decide (A (k + (d - k)) = c + 1) && decide (F (k + (d - k)) = v)) = true
    rw [show k + (d - k) = d by omega, decide_eq_true q3, decide_eq_true q4]
    rfl
  · intro i hi q
    rw [Bool.and_eq_true, decide_eq_true_eq, decide_eq_true_eq] at q
    have r1 := (ch_idx h q1 q2 q3).2.2.2.2
    have r2 := (ch_idx h (d := k + i) (by omega) (by omega) q.1).2.2.2.2
    rw [q4] at r1
    rw [q.2] at r2
    omega
theorem ch_none {c v : Nat} (hp : ¬ ∃ d, k ≤ d ∧ d < k + n ∧ A d = c + 1 ∧ F d = v) : cntN (fun i => decide (A (k + i) = c + 1) && decide (F (k + i) = v)) n = 0 := cntN_zero (fun i hi => by
  by_cases q1 : A (k + i) = c + 1
  · by_cases q2 : F (k + i) = v
    · exact absurd ⟨k + i, by omega, by omega, q1, q2⟩ hp
    · rw [decide_eq_false q2, Bool.and_false]
  · rw [decide_eq_false q1, Bool.false_and])
theorem ch_first (h : CLz F T A k n lo hi) {c : Nat} (h1 : k ≤ c) (h2 : c < k + n) : (∃ d, k ≤ d ∧ d < k + n ∧ A d = c + 1 ∧ F d = F c) ↔ dep F T k c < cov F T k n (F c) := by
  have hc := (h c h1 h2)
  constructor
  · rintro ⟨d, q1, q2, q3, q4⟩
    obtain ⟨r1, r2, r3⟩ := dep_p h q1 q2 q3
    have r4 := cov_ge h q1 q2 (v := F c) (by omega) (by have := (h d q1 q2).2.1; omega)
    omega
  · intro q
    by_cases e : c + 1 < k + n ∧ F (c + 1) = F c
    · refine ⟨c + 1, by omega, e.1, ?_, e.2⟩
      obtain ⟨-, -, -, c4, q5⟩ := h (c + 1) (by omega) e.1
      rcases q5 with ⟨-, q5⟩ | ⟨p, s1, s2, s3, s4, s5⟩
      · have := q5 c h1 (by omega)
        omega
      · by_cases s : p = c
        · rw [s1, s]
        · have := s5 c (by omega) (by omega)
          omega
    · exfalso
      have : cov F T k n (F c) = dep F T k c := by
        refine cov_dep h h1 h2 (Nat.le_refl _) hc.2.1 (fun d q1 q2 q3 => ?_)
        have a1 := (h (c + 1) (by omega) (by omega)).2.2.2.1 c h1 (by omega)
        by_cases s : d = c + 1
        · rw [s] at q2 q3
          exact e ⟨q2, by omega⟩
        · have a2 := (h d (by omega) q2).2.2.2.1 (c + 1) (by omega) (by omega)
          exact e ⟨by omega, by omega⟩
      omega
theorem ch_next (h : CLz F T A k n lo hi) {c v : Nat} (h1 : k ≤ c) (h2 : c < k + n) (h3 : F c < v) (h4 : v ≤ T c) : (∃ d, k ≤ d ∧ d < k + n ∧ A d = c + 1 ∧ F d = v) ↔ enr F T k n v = dep F T k c ∧ 0 < cntV F k n v := by
  have hc := (h c h1 h2)
  constructor
  · rintro ⟨d, q1, q2, q3, q4⟩
    have r2 := (cl_idx h q1 q2).2.1
    have r3 := (dep_p h q1 q2 q3).2.2
    have r4 := enr_ge h h1 h2 h3 h4
    rw [q4] at r2
    refine ⟨by omega, ?_⟩
    exact cntN_one (k := d - k) (by omega) (by
      show decide (F (k + (d - k)) = v) = true
      rw [show k + (d - k) = d by omega]
      exact decide_eq_true q4)
  · rintro ⟨q1, q2⟩
    have s1 := cntL_succ F k n v
    obtain ⟨b1, b2⟩ := cl_at h (v := v) (j := cntL F k n v) (Nat.le_refl _) (by omega)
    generalize ed : k + cntL F k n v = d at b1 b2
    have r1 := cl_idx h (c := d) (by omega) b1
    rw [b2] at r1
    have cd : c < d := by
      by_cases q : d ≤ c
      · by_cases q3 : d = c
        · rw [q3] at b2
          omega
        · have := ((hc).2.2.2.1 d (by omega) (by omega)).1
          omega
      · omega
    refine ⟨d, by omega, b1, ?_, b2⟩
    obtain ⟨-, e2, -, e4, e5⟩ := h d (by omega) b1
    rcases e5 with ⟨-, e5⟩ | ⟨p, s1, s2, s3, s4, s5⟩
    · have := e5 c h1 cd
      omega
    · by_cases s : p = c
      · rw [s1, s]
      · exfalso
        have s6 : c < p := by
          by_cases s7 : c < p
          · exact s7
          · have := s5 c (by omega) cd
            omega
        -- p is in c: deeper than c, and d is deeper than p
        have t1 := (dep_p h (by omega) b1 s1).2.2
        have t2 : dep F T k c < dep F T k p := by
          have u1 := fun v => enr_ge h (c := c) (v := v) h1 h2
          have u2 := (cl_idx h (c := p) s2 (by omega)).2.1
          have u3 := ((h p s2 (by omega)).2.2.2.1 c h1 s6)
          have u6 := (e4 p s2 s3).1
          by_cases u4 : F c < F p
          · have := u1 (F p) u4 (by omega)
            omega
          · -- both begin at one word
            have u5 := (ch_first h h1 h2)
            have w1 : cntN (fun i => decide (F c ≤ T (k + i))) (c - k + 1) = dep F T k c := by
              show cntN (fun i => decide (F c ≤ T (k + i))) (c - k) + (if decide (F c ≤ T (k + (c - k))) = true then 1 else 0) = _
              rw [show k + (c - k) = c by omega, if_pos (decide_eq_true hc.2.1)]
              rfl
            have w2 : cntN (fun i => decide (F c ≤ T (k + i))) (c - k + 1) ≤ cntN (fun i => decide (F c ≤ T (k + i))) (p - k) := cntN_ple (by omega)
            have w3 : F p = F c := by omega
            unfold dep at w1 ⊢
            rw [w3]
            omega
        omega
theorem ch_all (h : CLz F T A k n lo hi) {c : Nat} (h1 : k ≤ c) (h2 : c < k + n) : cntN (fun i => decide (A (k + i) = c + 1)) n = chC F T k n c (T c - F c) := by
  have hc := (h c h1 h2)
  have e1 : cntN (fun i => decide (A (k + i) = c + 1)) n = cntN (fun i => decide (A (k + i) = c + 1) && decide (F (k + i) < F c + (T c - F c + 1))) n := cntN_cong (fun i hi => by
    by_cases q : A (k + i) = c + 1
    · have := ch_idx h (d := k + i) (by omega) (by omega) q
      rw [decide_eq_true (show F (k + i) < F c + (T c - F c + 1) by omega), Bool.and_true]
    · rw [decide_eq_false q, Bool.false_and])
  rw [e1, cntN_fib (fun i => decide (A (k + i) = c + 1)) (fun i => F (k + i)) n (F c) (T c - F c + 1) (fun i hi q => (ch_idx h (d := k + i) (by omega) (by omega) (of_decide_eq_true q)).2.2.1)]
  refine chC_sum F T k n c _ ?_ _ (fun j hj => ?_)
  · show cntN (fun i => decide (A (k + i) = c + 1) && decide (F (k + i) = F c)) n = _
    by_cases q : ∃ d, k ≤ d ∧ d < k + n ∧ A d = c + 1 ∧ F d = F c
    · rw [ch_one h h1 h2 q, if_pos ((ch_first h h1 h2).mp q)]
    · rw [ch_none q, if_neg (fun q2 => q ((ch_first h h1 h2).mpr q2))]
  · show cntN (fun i => decide (A (k + i) = c + 1) && decide (F (k + i) = F c + j + 1)) n = _
    by_cases q : ∃ d, k ≤ d ∧ d < k + n ∧ A d = c + 1 ∧ F d = F c + j + 1
    · rw [ch_one h h1 h2 q, if_pos ((ch_next h h1 h2 (by omega) (by omega)).mp q)]
    · rw [ch_none q, if_neg (fun q2 => q ((ch_next h h1 h2 (by omega) (by omega)).mpr q2))]
end CLS
