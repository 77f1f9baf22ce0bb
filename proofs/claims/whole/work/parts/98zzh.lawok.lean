/-! THE PURE LEVEL, 117: the law is true -/
theorem pro_inv {S : HpT} (h : proF S = true) (z : Z81 S) : INV S S.2.2.2.1 S.2.2.2.2.1 ∧ capO S = 16 ∧ hN S = 91 := by
  unfold proF at h
  simp only [Bool.and_eq_true, decide_eq_true_eq] at h
  obtain ⟨h1, ck, b2, b35, mk, dk, ⟨r5, r6⟩, r71, r72, e0, ⟨i0, u0, p0⟩, ⟨s0, s1⟩, ⟨t0, t1⟩, m0, ⟨m9, m7, m23⟩, ⟨v0, v1⟩, hz⟩ := h
  have e78 : hR S 78 0 = some 79 := ck.2.2.2.2.2.1.2.2.2
  refine ⟨⟨2, 35, 0, fun i => if i = 0 then some 2 else if i = 1 then some 35 else none, 79, (0, 0, nO), (0, fun _ => 0), S.2.2.2.1 81, (0, fun _ _ => 0), (fun _ => false, fun _ _ => 0), (0, fun _ => 0), ⟨⟨ck, r5, r6, rfl, rfl, fun i x hi hx => ?_, fun i j x y hij hj hx hy => ?_, fun k hk => ?_, fun k hk => ?_⟩, e0, ⟨i0, fun k hk => absurd hk (Nat.not_lt_zero _)⟩, fun e => absurd rfl e, ⟨u0, p0, by decide, fun k hk => absurd hk (Nat.not_lt_zero _)⟩, fun k hk => ⟨?_, fun e => by cases e⟩, ⟨t0, t1, Nat.zero_le _, fun k hk => absurd hk (Nat.not_lt_zero _)⟩⟩, ⟨mk, m0, ⟨m9, fun k hk => absurd hk (Nat.not_lt_zero _)⟩, ⟨rfl, fun j _ => z.2 j⟩, ⟨m7, fun k hk => absurd hk (Nat.not_lt_zero _)⟩, fun k hk => ⟨?_, fun e => by cases e⟩, ⟨m23, fun k hk => absurd hk (Nat.not_lt_zero _)⟩⟩, ⟨⟨Or.inl rfl, Nat.zero_le _, fun _ => rfl, Nat.zero_le _, ⟨Nat.zero_le _, fun k hk => absurd hk (Nat.not_lt_zero _)⟩⟩, fun e => absurd rfl e, fun k hk => absurd hk (Nat.not_lt_zero _), fun k _ e => by cases e⟩, dk⟩, ?_, h1⟩
  · by_cases q : i = 0
    · subst q
      cases hx
      exact ⟨b2, Or.inl rfl, Or.inr (by decide)⟩
    · by_cases q1 : i = 1
      · subst q1
        cases hx
        exact ⟨b35, Or.inr (Or.inl rfl), Or.inr (by decide)⟩
      · dsimp only at hx
        rw [if_neg q, if_neg q1] at hx
        cases hx
  · by_cases q : i = 0
    · subst q
      cases hx
      by_cases q1 : j = 1
      · subst q1
        cases hy
        exact Or.inl (by decide)
      · dsimp only at hy
        rw [if_neg (by omega), if_neg q1] at hy
        cases hy
    · dsimp only at hy
      rw [if_neg (by omega), if_neg (by omega)] at hy
      cases hy
  · show hR S 71 k = if 2 + k = 0 then some 2 else if 2 + k = 1 then some 35 else none
    rw [if_neg (by omega), if_neg (by omega)]
    obtain ⟨w0, w1, w2, w3, w4, w5, w6, w7⟩ := r71
    have hk : k = 0 ∨ k = 1 ∨ k = 2 ∨ k = 3 ∨ k = 4 ∨ k = 5 ∨ k = 6 ∨ k = 7 := by omega
    rcases hk with rfl | rfl | rfl | rfl | rfl | rfl | rfl | rfl <;> assumption
  · show hR S 72 k = if 10 + k = 0 then some 2 else if 10 + k = 1 then some 35 else none
    rw [if_neg (by omega), if_neg (by omega)]
    obtain ⟨w0, w1⟩ := r72
    have hk : k = 0 ∨ k = 1 := by omega
    rcases hk with rfl | rfl <;> assumption
  · have hk : k = 0 ∨ k = 1 := by omega
    rcases hk with rfl | rfl
    · exact s0
    · exact s1
  · have hk : k = 0 ∨ k = 1 := by omega
    rcases hk with rfl | rfl
    · exact v0
    · exact v1
  · unfold capO
    rw [e78]
    exact hz
theorem bnO_ok {α β : Type} {a : α} {σ : HpT} {i j : Nat} {f : α → HpT → AT β} : bnO (some (.ok a, σ, i, j)) f = addC i j (f a σ) := rfl
theorem law_ok {L : Nat} (hL : L ≤ 3072) (xs : Nat → Int32) : ∃ s a b, fL_law L xs σE = some ((.ok () : Except Nat Unit), s, a, b) ∧ a ≤ 601024 ∧ b ≤ 7293034 := by
  obtain ⟨S, S2, i, j, i2, j2, e1, e2, hi, hj, hi2, hj2, hf, hz⟩ := pro_2
  obtain ⟨hI, hc, hn⟩ := pro_inv hf hz
  obtain ⟨T, a, b, e3, ha, hb⟩ := law_loop hL xs 512 FUEL 0 S2 S2.2.2.2.1 S2.2.2.2.2.1 (show 512 < 200000 by decide) hI (by omega) (by omega) (by rw [hn, hc]; decide)
  rw [wc_self] at e3
  unfold pr9 at e1
  rcases bnA_s e1 with ⟨e, -, q⟩ | ⟨x1, s3, a1, b1, a2, b2, p1, p2, rfl, rfl⟩
  · cases q
  obtain ⟨u, s10, a3, b3, a4, b4, p3, p4, rfl, rfl⟩ := bnO_s p2
  cases p4
  unfold prB at e2
  rcases bnA_s e2 with ⟨e, -, q⟩ | ⟨x15, s17, c1, d1, c2, d2, q1, q2, rfl, rfl⟩
  · cases q
  obtain ⟨u2, s24, c3, d3, c4, d4, q3, q4, rfl, rfl⟩ := bnO_s q2
  rcases bnA_s q4 with ⟨e, -, q⟩ | ⟨x29, s31, c5, d5, c6, d6, q5, q6, rfl, rfl⟩
  · cases q
  rcases bnA_s q6 with ⟨e, -, q⟩ | ⟨x36, s38, c7, d7, c8, d8, q7, q8, rfl, rfl⟩
  · cases q
  cases q8
  refine ⟨T, a1 + (a3 + (c1 + (c3 + (c5 + (c7 + (a + 0)))))), b1 + (b3 + (d1 + (d3 + (d5 + (d7 + (b + 0)))))), ?_, ?_, ?_⟩
  · unfold fL_law
    rw [p1, bnA_ok, p3, bnO_ok, q1, bnA_ok, q3, bnO_ok, q5, bnA_ok, q7, bnA_ok, show lpA (fL_law_l1 L xs (some 0) (some 80) (some 89) (some 90)) FUEL 0 S2 = _ from e3, bnA_ok]
    rfl
  · omega
  · omega
