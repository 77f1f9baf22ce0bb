/-! THE PURE LEVEL, 62: SHAKENOUT -/
section SC22
variable {σ : HpT} {G G1 G2 : Nat → Nat → Int32} {J J2 : Nat → Nat → Int64} {b bs ps tx q : Nat} {P : Nat → Option Nat} {E : tE} {I T : tI} {N M : Nat → Int32} {U : tU} {V : tV}
theorem l_take {L : Nat} (h : LK σ L) (h7 : LK σ 74) (hne : L + 3 ≤ 74 ∨ 77 ≤ L) (hw : WFN M) (r : LvR G L M) : ∃ G2, fX4_take (some 74) (some L) (wc σ G J) = some (wc σ G2 J) ∧ (∀ a, a ≠ 74 → a ≠ 75 → G2 a = G a) ∧ LvR G2 74 M := by
  have h12 := nlv_12 hw.1
  refine ⟨cw (up (up G 74 0 (G L 0)) 74 1 (G L 1)) 75 (va_cpy (G (L + 1)) (G 75) 0 0 12), ?_, fun a h1 h2 => by rw [cw_b h2, up_a h1, up_a h1], ?_, ?_, fun l hl => ?_⟩
  · unfold fX4_take
    rw [lk_o h7, bnP_1, lk_I h, bnP_1, lk_P h7, bnP_1, lk_I h, bnP_1, up_a (by omega), lk_P h7, bnP_1, lk_r2 h, bnP_1, lk_r2 h7, bnP_1, show cpI 20 (wc σ (up (up G 74 0 (G L 0)) 74 1 (G L 1)) J) (some (L + 1)) 0 (some (74 + 1)) 0 12 = _ from cpI_c (n := 12) (z := 12) h.2.2.1.1 h7.2.2.1.1 (by have := h.1; omega) (by have := h7.1; omega) h.2.2.2.1.1 h7.2.2.2.1.1 (by decide) (by decide), bnP_1, up_a (by omega), up_a (by omega), up_a (by omega), up_a (by omega)]
  · rw [cw_b (by decide), up_k (by decide), up_eq]
    exact r.1
  · rw [cw_b (by decide), up_eq]
    exact r.2.1
  · rw [cw_a, cpy_in (by omega)]
    exact r.2.2 l hl
theorem c_shakenLoop (hk0 : hK σ 0 = 9) (hr : hR σ 0 13 = some 74) (h7 : LK σ 74) (hw : WFN M) (r : LvR G 74 M) (hq : q ≤ 12) (h0 : fallC M q = 0) (hp : ∀ k, k < q → 0 < fallC M k) : ∃ G2, lpS (fX9_shakenOut_l1 (some 0)) FUEL 0 (wc σ G J) = some (nI q, wc σ G2 J) ∧ ∀ a, a ≠ 74 → a ≠ 75 → a ≠ 76 → G2 a = G a := by
  have h12 := nlv_12 hw.1
  have go : ∀ (G' : Nat → Nat → Int32), gR (wc σ G' J) (some 0) 9 13 = some (some 74) := fun G' => gR_c hk0 hr
  obtain ⟨r1, S1, e1, rfl, G2, rfl, f2⟩ := lpS_i (f := fX9_shakenOut_l1 (some 0)) (fun n (a : Int32) S => ∃ k G', k + n = q ∧ a = nI k ∧ S = wc σ G' J ∧ (∀ a, a ≠ 74 → a ≠ 75 → a ≠ 76 → G' a = G a) ∧ LvR G' 74 (itN M k)) (fun (r : Int32) S => r = nI q ∧ ∃ G', S = wc σ G' J ∧ ∀ a, a ≠ 74 → a ≠ 75 → a ≠ 76 → G' a = G a) q FUEL 0 (wc σ G J) (show q < 200000 by omega) ⟨0, G, Nat.zero_add _, rfl, rfl, fun _ _ _ _ => rfl, r⟩ (by
    rintro n a S ⟨k, G', hk, rfl, rfl, fr, lv⟩
    obtain ⟨i1, i2, i3⟩ := it_wf hw k
    obtain ⟨G3, e3, f3, l3⟩ := l_dropLoose (J := J) h7 i1 lv
    refine Or.inl ⟨_, _, ?_, k + 1, G3, by omega, nI_a1 k, rfl, fun a h1 h2 h3 => (f3 a h2 h3).trans (fr a h1 h2 h3), ?_⟩
    · unfold fX9_shakenOut_l1
      have hc : 0 < cntN (lsB (itN M k)) (nLv (itN M k)) := by
        rw [i2]
        exact hp k (by omega)
      have hc2 := cntN_le (lsB (itN M k)) (nLv (itN M k))
      rw [if_neg (show ¬ (12 : Int32) ≤ nI k from nI_ge (show k < 12 by omega) (by decide)), go, bnP_1, e3, bnS_1, if_neg (nI_nle hc (by omega))]
    · rw [i2] at l3
      exact l3) (by
    rintro a S ⟨k, G', hk, rfl, rfl, fr, lv⟩
    obtain rfl : k = q := by omega
    obtain ⟨i1, i2, i3⟩ := it_wf hw k
    by_cases z : k = 12
    · refine ⟨_, _, ?_, rfl, G', rfl, fr⟩
      unfold fX9_shakenOut_l1
      rw [z, if_pos (show (12 : Int32) ≤ nI 12 by decide)]
    · obtain ⟨G3, e3, f3, l3⟩ := l_dropLoose (J := J) h7 i1 lv
      refine ⟨_, _, ?_, rfl, G3, rfl, fun a h1 h2 h3 => (f3 a h2 h3).trans (fr a h1 h2 h3)⟩
      unfold fX9_shakenOut_l1
      have hc : cntN (lsB (itN M k)) (nLv (itN M k)) = 0 := by
        rw [i2]
        exact h0
      rw [if_neg (show ¬ (12 : Int32) ≤ nI k from nI_ge (show k < 12 by omega) (by decide)), go, bnP_1, e3, bnS_1, hc, if_pos (show nI 0 ≤ 0 by decide)])
  exact ⟨G2, e1, f2⟩
end SC22
