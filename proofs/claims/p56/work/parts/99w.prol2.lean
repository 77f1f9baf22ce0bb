/-! p56, pure: what the law's objects are -/
def pX (S : HpT) : HpT := wN (wN (wN (wN (wN (wN S 0 0) 0 0) 0 0) 0 0) 0 0) 0 0
def dBK (σ : HpT) (b : Nat) : Decidable (BK σ b) := by
  unfold BK SK LK
  exact inferInstance
def dCK (σ : HpT) (b : Nat) : Decidable (CK σ b) := by
  unfold CK LK
  exact inferInstance
def n14 (S : HpT) : Nat → Bool
  | 0 => true
  | n + 1 => decide (hK S n ≠ 14) && n14 S n
def proF (S : HpT) : Bool := @decide (CK S 79) (dCK S 79) && (@decide (BK S 2) (dBK S 2) && (@decide (BK S 35) (dBK S 35) && (n14 S 81 && (decide (hR S 0 5 = some 2 ∧ hR S 0 6 = some 35) && (decide (hR S 71 0 = none ∧ hR S 71 1 = none ∧ hR S 71 2 = none ∧ hR S 71 3 = none ∧ hR S 71 4 = none ∧ hR S 71 5 = none ∧ hR S 71 6 = none ∧ hR S 71 7 = none) && (decide (hR S 72 0 = none ∧ hR S 72 1 = none) && (decide (hI S 0 4 = 0 ∧ hI S 0 2 = 0 ∧ hI S 0 3 = nO) && (decide (hI S 0 1 = nI 0 ∧ hI S 0 10 = nI 0 ∧ hI S 0 9 = nI 0) && (decide (hI S 73 0 = 0 ∧ hI S 73 1 = 0) && (decide (hI S 78 3 = nI 0 ∧ hI S 78 1 = 0) && decide (hK S 80 = 20 ∧ hZ S 80 = 7)))))))))))
def proD (S : HpT) : Bool := decide (hI S 80 0 = 0 ∧ hI S 80 1 = 0 ∧ hI S 80 2 = 0 ∧ hI S 80 3 = 0 ∧ hI S 80 4 = 0 ∧ hI S 80 5 = 0 ∧ hI S 80 6 = 0) && decide ((hK S 81 = 13 ∧ hR S 81 4 = some 82 ∧ hR S 81 6 = some 84) ∧ (hK S 84 = 20 ∧ hZ S 84 = 12) ∧ hK S 82 = 12 ∧ hR S 82 1 = some (BIG + 203) ∧ hI S 82 2 = nI 0)
theorem pro_c : (match prC (σE 0 (fun _ => 0)) with
    | some (.ok x, S, i, j) => decide (x = (some 0, some 80, some 81)) && (decide (hN S = 85) && (decide (i ≤ 1000) && (decide (j ≤ 100000) && (proF (pX S) && proD S))))
    | _ => false) = true := by decide +kernel
theorem n14_s {S : HpT} : ∀ {n : Nat}, n14 S n = true → ∀ a, a < n → hK S a ≠ 14
  | 0, _, _, h => absurd h (Nat.not_lt_zero _)
  | n + 1, h, a, ha => by
    unfold n14 at h
    rw [Bool.and_eq_true, decide_eq_true_eq] at h
    by_cases e : a = n
    · rw [e]; exact h.1
    · exact n14_s h.2 a (by omega)
theorem ck_ext {S S1 : HpT} (eK : ∀ a, a < 81 → hK S a = hK S1 a) (eZ : ∀ a, a < 81 → hZ S a = hZ S1 a) (eR : ∀ a k, a < 81 → hR S a k = hR S1 a k) (h91 : 91 ≤ hN S) (h : CK S1 79) : CK S 79 := by
  unfold CK LK at h ⊢
  rw [eK 0 (by decide), eK 1 (by decide), eK 68 (by decide), eK 69 (by decide), eK 71 (by decide), eK 72 (by decide), eK 73 (by decide), eK 74 (by decide), eK (74 + 1) (by decide), eK (74 + 2) (by decide), eK 77 (by decide), eK 78 (by decide), eK 79 (by decide), eZ 1 (by decide), eZ 71 (by decide), eZ 72 (by decide), eZ 73 (by decide), eZ (74 + 1) (by decide), eZ (74 + 2) (by decide), eZ 79 (by decide), eR 0 0 (by decide), eR 0 7 (by decide), eR 0 8 (by decide), eR 0 11 (by decide), eR 0 12 (by decide), eR 0 13 (by decide), eR 0 14 (by decide), eR 68 3 (by decide), eR 74 2 (by decide), eR 74 3 (by decide), eR 77 0 (by decide), eR 78 0 (by decide)]
  exact ⟨⟨h91, h.1.2⟩, h.2.1, h.2.2.1, h.2.2.2.1, ⟨by omega, h.2.2.2.2.1.2⟩, h.2.2.2.2.2.1, h.2.2.2.2.2.2.1, by omega, h.2.2.2.2.2.2.2.2⟩
theorem pro_cr {S S1 : HpT} (h : proF S1 = true) (eK : ∀ a, a < 81 → hK S a = hK S1 a) (eZ : ∀ a, a < 81 → hZ S a = hZ S1 a) (eR : ∀ a k, a < 81 → hR S a k = hR S1 a k) (eI : ∀ a k, a < 81 → S.2.2.2.1 a k = hI S1 a k) (hn : hN S1 ≤ hN S) : CR S S.2.2.2.1 S.2.2.2.2.1 2 35 0 (fun i => if i = 0 then some 2 else if i = 1 then some 35 else none) 79 (0, 0, nO) (0, fun _ => 0) (fun _ => 0) (0, fun _ _ => 0) (fun _ => false, fun _ _ => 0) (0, fun _ => 0) ∧ (hK S 80 = 20 ∧ hZ S 80 = 7) := by
  unfold proF at h
  simp only [Bool.and_eq_true, decide_eq_true_eq] at h
  obtain ⟨ck, b2, b35, -, ⟨r5, r6⟩, r71, r72, ⟨e0, e1, e2⟩, ⟨i0, u0, p0⟩, ⟨s0, s1⟩, ⟨t0, t1⟩, m1, m2⟩ := h
  have h91 : 91 ≤ hN S := Nat.le_trans ck.1.1 hn
  have B2 : BK S 2 := bk_ext b2 hn (fun a h1 h2 => ⟨eK a (by omega), eZ a (by omega), fun k => eR a k (by omega)⟩)
  have B35 : BK S 35 := bk_ext b35 hn (fun a h1 h2 => ⟨eK a (by omega), eZ a (by omega), fun k => eR a k (by omega)⟩)
  refine ⟨⟨⟨ck_ext eK eZ eR h91 ck, (eR 0 5 (by decide)).trans r5, (eR 0 6 (by decide)).trans r6, rfl, rfl, fun i x hi hx => ?_, fun i j x y hij hj hx hy => ?_, fun k hk => ?_, fun k hk => ?_⟩, ⟨(eI 0 4 (by decide)).trans e0, (eI 0 2 (by decide)).trans e1, (eI 0 3 (by decide)).trans e2⟩, ⟨(eI 0 1 (by decide)).trans i0, fun k hk => absurd hk (Nat.not_lt_zero _)⟩, fun e => absurd rfl e, ⟨(eI 0 10 (by decide)).trans u0, (eI 0 9 (by decide)).trans p0, by decide, fun k hk => absurd hk (Nat.not_lt_zero _)⟩, fun k hk => ⟨?_, fun e => by cases e⟩, ⟨(eI 78 3 (by decide)).trans t0, (eI 78 1 (by decide)).trans t1, Nat.zero_le _, fun k hk => absurd hk (Nat.not_lt_zero _)⟩⟩, (eK 80 (by decide)).trans m1, (eZ 80 (by decide)).trans m2⟩
  · by_cases q : i = 0
    · subst q
      cases hx
      exact ⟨B2, Or.inl rfl, Or.inr (by decide)⟩
    · by_cases q1 : i = 1
      · subst q1
        cases hx
        exact ⟨B35, Or.inr (Or.inl rfl), Or.inr (by decide)⟩
      · dsimp only at hx
        rw [if_neg q, if_neg q1] at hx
        cases hx
  · by_cases q : i = 0
    · subst q
      cases hx
      by_cases q1 : j = 1
      · subst q1
        cases hy
        exact Or.inl (by decide)
      · dsimp only at hy
        rw [if_neg (by omega), if_neg q1] at hy
        cases hy
    · dsimp only at hy
      rw [if_neg (by omega), if_neg (by omega)] at hy
      cases hy
  · show hR S 71 k = if 2 + k = 0 then some 2 else if 2 + k = 1 then some 35 else none
    rw [if_neg (by omega), if_neg (by omega), eR 71 k (by decide)]
    obtain ⟨w0, w1, w2, w3, w4, w5, w6, w7⟩ := r71
    have hk : k = 0 ∨ k = 1 ∨ k = 2 ∨ k = 3 ∨ k = 4 ∨ k = 5 ∨ k = 6 ∨ k = 7 := by omega
    rcases hk with rfl | rfl | rfl | rfl | rfl | rfl | rfl | rfl <;> assumption
  · show hR S 72 k = if 10 + k = 0 then some 2 else if 10 + k = 1 then some 35 else none
    rw [if_neg (by omega), if_neg (by omega), eR 72 k (by decide)]
    obtain ⟨w0, w1⟩ := r72
    have hk : k = 0 ∨ k = 1 := by omega
    rcases hk with rfl | rfl <;> assumption
  · have hk : k = 0 ∨ k = 1 := by omega
    rcases hk with rfl | rfl
    · exact (eI 73 0 (by decide)).trans s0
    · exact (eI 73 1 (by decide)).trans s1
/-- the law's objects: the heap, ahead of the text -/
theorem pro_2 (L : Nat) (xs : Nat → Int32) : ∃ S S1 i j, prC (σE L xs) = some (.ok (some 0, some 80, some 81), S, i, j) ∧ i ≤ 1000 ∧ j ≤ 100000 ∧ hN S = 85 ∧ proF S1 = true ∧ hN S1 = 91 ∧ (∀ a, a < 81 → hK S a = hK S1 a ∧ hZ S a = hZ S1 a ∧ ∀ k, hI S a k = hI S1 a k ∧ hR S a k = hR S1 a k) ∧ (∀ k, k < 7 → hI S 80 k = 0) ∧ (hK S 81 = 13 ∧ 81 < hN S ∧ hR S 81 4 = some 82 ∧ hR S 81 6 = some 84) ∧ (hK S 84 = 20 ∧ hZ S 84 = 12 ∧ 84 < hN S) ∧ LsI S 82 (BIG + 203) 0 (fun _ => 0) := by
  have h := pro_c
  have e : prC (σE L xs) = (prC (σE 0 (fun _ => 0))).map (fun p => (p.1, mS (L, xs) p.2.1, p.2.2)) := pmi_C (q := (L, xs)) (σ := σE 0 (fun _ => 0))
  generalize prC (σE 0 (fun _ => 0)) = o at h e
  match o, h, e with
  | some (.ok x, S, i, j), h, e =>
    simp only [Bool.and_eq_true, decide_eq_true_eq] at h
    obtain ⟨rfl, hn, hi, hj, hf, hd⟩ := h
    unfold proD at hd
    simp only [Bool.and_eq_true, decide_eq_true_eq] at hd
    obtain ⟨⟨m0, m1, m2, m3, m4, m5, m6⟩, ⟨d1, d2, d3⟩, ⟨d4, d5⟩, d6, d7, d8⟩ := hd
    have hn : S.1 = 85 := hn
    have zq : ∀ a, a < 85 → hZ (mS (L, xs) S) a = hZ S a := fun a ha => (if_pos (show a < S.1 by omega)).trans (if_pos (show a < S.1 by omega)).symm
    have iq : ∀ a k, a < 85 → hI (mS (L, xs) S) a k = hI S a k := fun a k ha => (if_pos (show a < S.1 by omega)).trans (if_pos (show a < S.1 by omega)).symm
    have F : FR S (pX S) (fun _ => False) := fr_tr (fr_tr (fr_tr (fr_tr (fr_tr (fr_wN _ _ _ _) (fr_wN _ _ _ _) (fun _ _ q => q)) (fr_wN _ _ _ _) (fun _ _ q => q)) (fr_wN _ _ _ _) (fun _ _ q => q)) (fr_wN _ _ _ _) (fun _ _ q => q)) (fr_wN _ _ _ _) (fun _ _ q => q)
    refine ⟨mS (L, xs) S, pX S, i, j, e, hi, hj, hn, hf, ?_, fun a ha => ?_, fun k hk => ?_, ⟨d1, by show 81 < S.1; omega, d2, d3⟩, ⟨d4, by rw [zq _ (by decide)]; exact d5, by show 84 < S.1; omega⟩, ⟨d6, by show 82 < S.1; omega, d7, by rw [iq _ _ (by decide)]; exact d8⟩, Or.inl ⟨rfl, rfl⟩, by decide, fun k hk => absurd hk (Nat.not_lt_zero _)⟩
    · show S.1 + 1 + 1 + 1 + 1 + 1 + 1 = 91
      omega
    · have q := F.2 a (show a < S.1 by omega)
      exact ⟨q.1.symm, (zq a (by omega)).trans q.2.1.symm, fun k => ⟨(iq a k (by omega)).trans (q.2.2 (fun q => q) k).1.symm, (q.2.2 (fun q => q) k).2.symm⟩⟩
    · rw [iq _ _ (by decide)]
      have hk : k = 0 ∨ k = 1 ∨ k = 2 ∨ k = 3 ∨ k = 4 ∨ k = 5 ∨ k = 6 := by omega
      rcases hk with rfl | rfl | rfl | rfl | rfl | rfl | rfl <;> assumption
