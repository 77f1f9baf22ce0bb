/-! THE PURE LEVEL, 114: the law's loop -/
section LWL
variable {σ : HpT} {G : Nat → Nat → Int32} {J : Nat → Nat → Int64}
theorem lpA_s {α β : Type} {f : α → HpT → AT (α ⊕ β)} {a b : α} {σ σ2 S : HpT} {o : Except Nat β} {i j i2 j2 : Nat} (F : Nat) (h : f a σ = some (.ok (.inl b), σ2, i, j)) (h2 : lpA f F b σ2 = some (o, S, i2, j2)) : lpA f (F + 1) a σ = some (o, S, i + i2, j + j2) := by
  rw [lpA_ok _ h, h2]
  rfl
theorem sld_ok {L q : Nat} (xs : Nat → Int32) (h : q < L) (hL : L < 2 ^ 31) : sld L xs (nI q) = some (xs q) := by
  unfold sld
  rw [if_pos (inb_nI h hL), nI_clamp (by omega)]
theorem cap_le (hI : INV σ G J) : capO σ ≤ 40002 ∧ 91 ≤ hN σ := by
  obtain ⟨b, bs, ps, P, tx, E, I, N, U, V, T, hC, hM, hA, hD⟩ := hI
  have ck := hC.1.1
  have e : capO σ = hZ σ tx := by
    unfold capO
    rw [ck.2.2.2.2.2.1.2.2.2]
  rw [e]
  exact ⟨ck.2.2.2.2.2.2.2.2.2.2, ck.1.1⟩
theorem lw_end {L q : Nat} (hL : L ≤ 3072) (hq : q ≤ 4000) : (Int32.ofNat L) - 6 < nI q ↔ L < q + 6 := by
  show nI L - 6 < nI q ↔ L < q + 6
  by_cases z : 6 ≤ L
  · rw [show nI L - 6 = nI (L - 6) from nI_sub (b := 6) z]
    by_cases y : L - 6 < q
    · exact ⟨fun _ => by omega, fun _ => nI_lt y (by omega)⟩
    · exact ⟨fun u => absurd u (nI_nlt (by omega) (by omega)), fun u => by omega⟩
  · have h6 : L = 0 ∨ L = 1 ∨ L = 2 ∨ L = 3 ∨ L = 4 ∨ L = 5 := by omega
    refine ⟨fun _ => by omega, fun _ => ?_⟩
    have hneg : nI L - 6 < 0 := by
      rcases h6 with rfl | rfl | rfl | rfl | rfl | rfl <;> decide
    have h0 : (0 : Int32) ≤ nI q := nI_le (a := 0) (Nat.zero_le q) (by omega)
    exact Int32.lt_of_lt_of_le hneg h0
theorem law_loop {L : Nat} (hL : L ≤ 3072) (xs : Nat → Int32) : ∀ (n F q : Nat) (σ : HpT) (G : Nat → Nat → Int32) (J : Nat → Nat → Int64), n < F → INV σ G J → L < q + 6 + 6 * n → q ≤ 3072 → hN σ + 40 * n + 80102 < BIG + capO σ → ∃ S i j, lpA (fL_law_l1 L xs (some 0) (some 80) (some 89) (some 90)) F (nI q) (wc σ G J) = some (.ok (), S, i, j) ∧ i + capO σ ≤ 40 * n + 40002 ∧ j + 2 * capO σ ≤ 4000 * n + 80004 := by
  intro n
  induction n with
  | zero =>
    intro F q σ G J hF hI hq hq2 hB
    obtain ⟨F, rfl⟩ : ∃ F', F = F' + 1 := ⟨F - 1, by omega⟩
    have hc := cap_le hI
    refine ⟨wc σ G J, 0, 0, lpA_e F ?_, by omega, by omega⟩
    unfold fL_law_l1
    rw [if_pos ((lw_end hL (by omega)).mpr (by omega))]
  | succ n ih =>
    intro F q σ G J hF hI hq hq2 hB
    obtain ⟨F, rfl⟩ : ∃ F', F = F' + 1 := ⟨F - 1, by omega⟩
    have hc := cap_le hI
    by_cases z : L < q + 6
    · refine ⟨wc σ G J, 0, 0, lpA_e F ?_, by omega, by omega⟩
      unfold fL_law_l1
      rw [if_pos ((lw_end hL (by omega)).mpr z)]
    · have s : ∀ k, k < 6 → sld L xs (nI q + nI k) = some (xs (q + k)) := fun k hk => by
        rw [nI_add]
        exact sld_ok xs (by omega) (by omega)
      obtain ⟨σ2, G2, J2, a, c, e, hI2, b1, b2, b3⟩ := step_all hI (by omega) (Lx := L) (xs := xs) (v5 := nI q) (s 1 (by decide)) (s 2 (by decide)) (s 3 (by decide)) (s 4 (by decide)) (s 5 (by decide)) (xs q &&& 63)
      have hc2 := cap_le hI2
      obtain ⟨S, i, j, e2, c1, c2⟩ := ih F (q + 6) σ2 G2 J2 (by omega) hI2 (by omega) (by omega) (by omega)
      refine ⟨S, a + i, c + j, lpA_s F ?_ e2, by omega, by omega⟩
      unfold fL_law_l1
      rw [if_neg (fun y => z ((lw_end hL (by omega)).mp y)), sld_ok xs (by omega) (by omega), bnP_1, e]
      exact bnO_1 (i := a) (j := c) (i2 := 0) (j2 := 0) (by rw [show nI q + 6 = nI (q + 6) from nI_add q 6])
end LWL
