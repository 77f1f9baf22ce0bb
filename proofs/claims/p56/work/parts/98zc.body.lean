/-! THE PURE LEVEL, 87: an act's body: its clauses and words, apart from rows; a clause not yet closed ends at 1000 -/
def BV (F T A Wi : Nat → Nat) (k C f0 W cur d : Nat) : Prop :=
  (f0 ≤ W ∧ W ≤ 240 ∧ d ≤ 4) ∧
  (∀ c, k ≤ c → c < k + C → (f0 ≤ F c ∧ F c ≤ W ∧ (T c = 1000 ∨ (F c ≤ T c ∧ T c < W))) ∧ (∀ d, k ≤ d → d < c → F d ≤ F c ∧ (T d < F c ∨ T c ≤ T d)) ∧ ((A c = 0 ∧ ∀ d, k ≤ d → d < c → T d < F c) ∨ ∃ p, A c = p + 1 ∧ k ≤ p ∧ p < c ∧ T c ≤ T p ∧ ∀ d, p < d → d < c → T d < F c)) ∧
  (∀ g, f0 ≤ g → g < W → ((Wi g = 0 ∧ ∀ c, k ≤ c → c < k + C → ¬ (F c ≤ g ∧ g ≤ T c)) ∨ ∃ p, Wi g = p + 1 ∧ k ≤ p ∧ p < k + C ∧ F p ≤ g ∧ g ≤ T p ∧ ∀ c, p < c → c < k + C → ¬ (F c ≤ g ∧ g ≤ T c)) ∧ cov F T k C g ≤ 4) ∧
  cntN (fun i => decide (T (k + i) = 1000)) C = d ∧
  ((cur = 0 ∧ ∀ c, k ≤ c → c < k + C → T c ≠ 1000) ∨ ∃ p, cur = p + 1 ∧ k ≤ p ∧ p < k + C ∧ T p = 1000 ∧ ∀ c, p < c → c < k + C → T c ≠ 1000)
theorem cntN_s (p : Nat → Bool) (n : Nat) : cntN p (n + 1) = cntN p n + if p n = true then 1 else 0 := rfl
/-- one more -/
theorem cntN_up {p q : Nat → Bool} {n j : Nat} (hj : j < n) (hp : p j = false) (hq : q j = true) (h : ∀ k, k < n → k ≠ j → q k = p k) : cntN q n = cntN p n + 1 := by
  have e := cntN_or (p := p) (q := fun k => decide (k = j)) (r := q) (n := n) (fun k hk => by
    by_cases z : k = j
    · rw [z, hp, hq, decide_eq_true rfl]
      exact ⟨rfl, rfl⟩
    · rw [h k hk z, decide_eq_false z, Bool.or_false, Bool.and_false]
      exact ⟨rfl, rfl⟩)
  rw [e, cntN_uniq (p := fun k => decide (k = j)) hj (decide_eq_true rfl) (fun k _ hk => of_decide_eq_true hk)]
section BVS
variable {F T A Wi F' T' A' Wi' : Nat → Nat} {k C f0 W cur d p : Nat}
theorem cov_cong {g : Nat} (hF : ∀ c, k ≤ c → c < k + C → F' c = F c) (hT : ∀ c, k ≤ c → c < k + C → T' c = T c) : cov F' T' k C g = cov F T k C g := cntN_cong fun i hi => by
  show (decide (F' (k + i) ≤ g) && decide (g ≤ T' (k + i))) = (decide (F (k + i) ≤ g) && decide (g ≤ T (k + i)))
  rw [hF _ (by omega) (by omega), hT _ (by omega) (by omega)]
theorem bv_cong (hF : ∀ c, k ≤ c → c < k + C → F' c = F c) (hT : ∀ c, k ≤ c → c < k + C → T' c = T c) (hA : ∀ c, k ≤ c → c < k + C → A' c = A c) (hWi : ∀ g, f0 ≤ g → g < W → Wi' g = Wi g) (h : BV F T A Wi k C f0 W cur d) : BV F' T' A' Wi' k C f0 W cur d := by
  obtain ⟨h0, h1, h2, h3, h4⟩ := h
  refine ⟨h0, fun c c1 c2 => ?_, fun g g1 g2 => ?_, ?_, ?_⟩
  · obtain ⟨q1, q2, q3⟩ := h1 c c1 c2
    rw [hF c c1 c2, hT c c1 c2, hA c c1 c2]
    refine ⟨q1, fun d d1 d2 => by rw [hF d d1 (by omega), hT d d1 (by omega)]; exact q2 d d1 d2, ?_⟩
    rcases q3 with ⟨a, b⟩ | ⟨p, a1, a2, a3, a4, a5⟩
    · exact Or.inl ⟨a, fun d d1 d2 => by rw [hT d d1 (by omega)]; exact b d d1 d2⟩
    · exact Or.inr ⟨p, a1, a2, a3, by rw [hT p a2 (by omega)]; exact a4, fun d d1 d2 => by rw [hT d (by omega) (by omega)]; exact a5 d d1 d2⟩
  · obtain ⟨q1, q2⟩ := h2 g g1 g2
    rw [hWi g g1 g2, cov_cong hF hT]
    refine ⟨?_, q2⟩
    rcases q1 with ⟨a, b⟩ | ⟨p, a1, a2, a3, a4, a5, a6⟩
    · exact Or.inl ⟨a, fun c c1 c2 => by rw [hF c c1 c2, hT c c1 c2]; exact b c c1 c2⟩
    · exact Or.inr ⟨p, a1, a2, a3, by rw [hF p a2 a3]; exact a4, by rw [hT p a2 a3]; exact a5, fun c c1 c2 => by rw [hF c (by omega) c2, hT c (by omega) c2]; exact a6 c c1 c2⟩
  · rw [← h3]
    exact cntN_cong fun i hi => by rw [hT _ (by omega) (by omega)]
  · rcases h4 with ⟨a, b⟩ | ⟨p, a1, a2, a3, a4, a5⟩
    · exact Or.inl ⟨a, fun c c1 c2 => by rw [hT c c1 c2]; exact b c c1 c2⟩
    · exact Or.inr ⟨p, a1, a2, a3, by rw [hT p a2 a3]; exact a4, fun c c1 c2 => by rw [hT c (by omega) c2]; exact a5 c c1 c2⟩
theorem bv_word (h : BV F T A Wi k C f0 W cur d) (hW : W < 240) (h1 : Wi W = cur) : BV F T A Wi k C f0 (W + 1) cur d := by
  obtain ⟨⟨a1, a2, a3⟩, hc, hg, hn, hs⟩ := h
  refine ⟨⟨by omega, by omega, a3⟩, fun c c1 c2 => ?_, fun g g1 g2 => ?_, hn, hs⟩
  · obtain ⟨⟨q1, q2, q3⟩, q4⟩ := hc c c1 c2
    exact ⟨⟨q1, by omega, by omega⟩, q4⟩
  · by_cases z : g < W
    · exact hg g g1 z
    · obtain rfl : g = W := by omega
      constructor
      · rw [h1]
        rcases hs with ⟨b1, b2⟩ | ⟨p, b1, b2, b3, b4, b5⟩
        · refine Or.inl ⟨b1, fun c c1 c2 => ?_⟩
          have := (hc c c1 c2).1
          have := b2 c c1 c2
          omega
        · have := (hc p b2 b3).1
          refine Or.inr ⟨p, b1, b2, b3, by omega, by omega, fun c c1 c2 => ?_⟩
          have := (hc c (by omega) c2).1
          have := b5 c c1 c2
          omega
      · have e : cov F T k C g = d := by
          rw [← hn]
          refine cntN_cong fun i hi => ?_
          have := (hc (k + i) (by omega) (by omega)).1
          rw [decide_eq_true (show F (k + i) ≤ g by omega), Bool.true_and]
          exact decide_eq_decide.mpr (by omega)
        omega
theorem bv_open (h : BV F T A Wi k C f0 W cur d) (hd : d < 4) (hF : F (k + C) = W) (hT : T (k + C) = 1000) (hA : A (k + C) = cur) : BV F T A Wi k (C + 1) f0 W (k + C + 1) (d + 1) := by
  obtain ⟨⟨a1, a2, a3⟩, hc, hg, hn, hs⟩ := h
  refine ⟨⟨a1, a2, by omega⟩, fun c c1 c2 => ?_, fun g g1 g2 => ?_, ?_, Or.inr ⟨k + C, rfl, by omega, by omega, hT, fun c _ _ => by omega⟩⟩
  · by_cases z : c < k + C
    · exact hc c c1 z
    · obtain rfl : c = k + C := by omega
      rw [hF, hT, hA]
      refine ⟨⟨a1, Nat.le_refl _, Or.inl rfl⟩, fun d d1 d2 => ?_, ?_⟩
      · have := (hc d d1 (by omega)).1
        omega
      · rcases hs with ⟨b1, b2⟩ | ⟨p, b1, b2, b3, b4, b5⟩
        · refine Or.inl ⟨b1, fun d d1 d2 => ?_⟩
          have := (hc d d1 (by omega)).1
          have := b2 d d1 (by omega)
          omega
        · refine Or.inr ⟨p, b1, b2, b3, by omega, fun d d1 d2 => ?_⟩
          have := (hc d (by omega) (by omega)).1
          have := b5 d d1 (by omega)
          omega
  · obtain ⟨q1, q2⟩ := hg g g1 g2
    constructor
    · rcases q1 with ⟨b1, b2⟩ | ⟨p, b1, b2, b3, b4, b5, b6⟩
      · refine Or.inl ⟨b1, fun c c1 c2 => ?_⟩
        by_cases z : c < k + C
        · exact b2 c c1 z
        · obtain rfl : c = k + C := by omega
          omega
      · refine Or.inr ⟨p, b1, b2, by omega, b4, b5, fun c c1 c2 => ?_⟩
        by_cases z : c < k + C
        · exact b6 c c1 z
        · obtain rfl : c = k + C := by omega
          omega
    · show cntN _ (C + 1) ≤ 4
      rw [cntN_s, if_neg (by rw [hF, decide_eq_false (show ¬ W ≤ g by omega), Bool.false_and]; decide)]
      exact q2
  · rw [cntN_s, if_pos (decide_eq_true hT), hn]
theorem bv_close (h : BV F T A Wi k C f0 W (p + 1) d) (hp : F p ≠ W) (hT : T' p = W - 1) (hO : ∀ c, c ≠ p → T' c = T c) : BV F T' A Wi k C f0 W (A p) (d - 1) ∧ 0 < d := by
  obtain ⟨⟨a1, a2, a3⟩, hc, hg, hn, hs⟩ := h
  rcases hs with ⟨b1, -⟩ | ⟨p', b1, b2, b3, b4, b5⟩
  · omega
  obtain rfl : p' = p := by omega
  have hp0 := (hc p' b2 b3).1
  have hcl : ∀ c, p' < c → c < k + C → T c < W := fun c c1 c2 => by
    have := (hc c (by omega) c2).1
    have := b5 c c1 c2
    omega
  have hcn : cntN (fun i => decide (T (k + i) = 1000)) C = cntN (fun i => decide (T' (k + i) = 1000)) C + 1 := by
    refine cntN_up (j := p' - k) (by omega) ?_ ?_ fun i hi hne => ?_
    · rw [show k + (p' - k) = p' by omega, hT]
      exact decide_eq_false (by omega)
    · rw [show k + (p' - k) = p' by omega]
      exact decide_eq_true b4
    · rw [hO _ (by omega)]
  refine ⟨⟨⟨a1, a2, by omega⟩, fun c c1 c2 => ?_, fun g g1 g2 => ?_, by omega, ?_⟩, by omega⟩
  · obtain ⟨q1, q2, q3⟩ := hc c c1 c2
    by_cases z : c = p'
    · subst z
      rw [hT]
      refine ⟨⟨q1.1, q1.2.1, Or.inr ⟨by omega, by omega⟩⟩, fun d d1 d2 => ?_, ?_⟩
      · have := q2 d d1 d2
        rw [hO d (by omega)]
        omega
      · rcases q3 with ⟨r1, r2⟩ | ⟨q, r1, r2, r3, r4, r5⟩
        · exact Or.inl ⟨r1, fun d d1 d2 => by rw [hO d (by omega)]; exact r2 d d1 d2⟩
        · exact Or.inr ⟨q, r1, r2, r3, by rw [hO q (by omega)]; omega, fun d d1 d2 => by rw [hO d (by omega)]; exact r5 d d1 d2⟩
    · rw [hO c z]
      refine ⟨q1, fun d d1 d2 => ?_, ?_⟩
      · have := q2 d d1 d2
        by_cases y : d = p'
        · subst y
          have := hcl c d2 c2
          rw [hT]
          omega
        · rw [hO d y]
          exact this
      · rcases q3 with ⟨r1, r2⟩ | ⟨q, r1, r2, r3, r4, r5⟩
        · refine Or.inl ⟨r1, fun d d1 d2 => ?_⟩
          have := r2 d d1 d2
          by_cases y : d = p'
          · subst y
            omega
          · rw [hO d y]
            exact this
        · refine Or.inr ⟨q, r1, r2, r3, ?_, fun d d1 d2 => ?_⟩
          · by_cases y : q = p'
            · subst y
              have := hcl c r3 c2
              rw [hT]
              omega
            · rw [hO q y]
              exact r4
          · have := r5 d d1 d2
            by_cases y : d = p'
            · subst y
              omega
            · rw [hO d y]
              exact this
  · obtain ⟨q1, q2⟩ := hg g g1 g2
    have hT2 : ∀ c, (g ≤ T' c ↔ g ≤ T c) := fun c => by
      by_cases y : c = p'
      · subst y
        rw [hT]
        omega
      · rw [hO c y]
    constructor
    · rcases q1 with ⟨r1, r2⟩ | ⟨q, r1, r2, r3, r4, r5, r6⟩
      · exact Or.inl ⟨r1, fun c c1 c2 => by rw [hT2]; exact r2 c c1 c2⟩
      · exact Or.inr ⟨q, r1, r2, r3, r4, (hT2 q).mpr r5, fun c c1 c2 => by rw [hT2]; exact r6 c c1 c2⟩
    · have e : cov F T' k C g = cov F T k C g := cntN_cong fun i hi => by
        show (decide (F (k + i) ≤ g) && decide (g ≤ T' (k + i))) = (decide (F (k + i) ≤ g) && decide (g ≤ T (k + i)))
        rw [decide_eq_decide.mpr (hT2 (k + i))]
      rw [e]
      exact q2
  · obtain ⟨q1, q2, q3⟩ := hc p' b2 b3
    rcases q3 with ⟨r1, r2⟩ | ⟨q, r1, r2, r3, r4, r5⟩
    · refine Or.inl ⟨r1, fun c c1 c2 => ?_⟩
      by_cases y : c = p'
      · subst y
        rw [hT]
        omega
      · rw [hO c y]
        by_cases u : c < p'
        · have := r2 c c1 u
          omega
        · have := hcl c (by omega) c2
          omega
    · have hq := (hc q r2 (by omega)).1
      refine Or.inr ⟨q, r1, r2, by omega, ?_, fun c c1 c2 => ?_⟩
      · rw [hO q (by omega)]
        omega
      · by_cases y : c = p'
        · subst y
          rw [hT]
          omega
        · rw [hO c y]
          by_cases u : c < p'
          · have := r5 c c1 u
            omega
          · have := hcl c (by omega) c2
            omega
/-! brackets -/
theorem bv_T (h : BV F T A Wi k C f0 W cur d) : cntV T k C W = 0 := cntN_zero fun i hi => by
  have := (h.2.1 (k + i) (by omega) (by omega)).1
  have := h.1
  exact decide_eq_false (by omega)
theorem bv_pd (h : BV F T A Wi k C f0 W cur d) : cntV F k C W ≤ d := by
  rw [← h.2.2.2.1]
  refine cntN_mono fun i hi q => ?_
  have q := of_decide_eq_true q
  have := (h.2.1 (k + i) (by omega) (by omega)).1
  exact decide_eq_true (by omega)
theorem bv_p0 (h : BV F T A Wi k C f0 W (p + 1) d) : cntV F k C W = 0 ↔ F p ≠ W := by
  obtain ⟨⟨a1, a2, a3⟩, hc, hg, hn, hs⟩ := h
  rcases hs with ⟨b1, -⟩ | ⟨p', b1, b2, b3, b4, b5⟩
  · omega
  obtain rfl : p' = p := by omega
  constructor
  · intro z y
    have := cntN_one (p := fun i => decide (F (k + i) = W)) (n := C) (k := p' - k) (by omega) (by
      rw [show k + (p' - k) = p' by omega]
      exact decide_eq_true y)
    have z : cntN (fun i => decide (F (k + i) = W)) C = 0 := z
    omega
  · intro y
    by_cases z : cntV F k C W = 0
    · exact z
    · obtain ⟨i, hi, q⟩ := cntN_pos (p := fun i => decide (F (k + i) = W)) (n := C) (Nat.pos_of_ne_zero z)
      have q := of_decide_eq_true q
      have h1 := (hc (k + i) (by omega) (by omega)).1
      by_cases u : k + i ≤ p'
      · by_cases u2 : k + i = p'
        · rw [u2] at q
          exact absurd q y
        · have h2 := (hc p' b2 b3).2.1 (k + i) (by omega) (by omega)
          have h3 := (hc p' b2 b3).1
          omega
      · have := b5 (k + i) (by omega) (by omega)
        omega
theorem sumN_le {f : Nat → Nat} {b : Nat} : ∀ n, (∀ j, j < n → f j ≤ b) → sumN f n ≤ b * n
  | 0, _ => Nat.zero_le _
  | n + 1, h => by
    have h1 := sumN_le n fun j hj => h j (by omega)
    have h2 := h n (by omega)
    show sumN f n + f n ≤ b * (n + 1)
    rw [Nat.mul_succ]
    omega
theorem bv_C (h : BV F T A Wi k C f0 W cur d) : C ≤ 4 * (W - f0) + d := by
  have hp := bv_pd h
  obtain ⟨⟨a1, a2, a3⟩, hc, hg, hn, hs⟩ := h
  have e1 : cntL F k C (W + 1) = C := cntN_all fun i hi => decide_eq_true (by
    have := (hc (k + i) (by omega) (by omega)).1
    omega)
  have e2 := cntL_succ F k C W
  have e3 := cntL_sum F k C f0 (fun i hi => (hc (k + i) (by omega) (by omega)).1.1) (W - f0)
  rw [show f0 + (W - f0) = W by omega] at e3
  have e4 := sumN_le (f := fun j => cntV F k C (f0 + j)) (b := 4) (W - f0) fun j hj => by
    refine Nat.le_trans ?_ (hg (f0 + j) (by omega) (by omega)).2
    refine cntN_mono fun i hi q => ?_
    have q := of_decide_eq_true q
    have := (hc (k + i) (by omega) (by omega)).1
    rw [decide_eq_true (show F (k + i) ≤ f0 + j by omega), decide_eq_true (show f0 + j ≤ T (k + i) by omega)]
    rfl
  omega
end BVS
