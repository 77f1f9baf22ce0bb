/-! THE PURE LEVEL, 98: the class's leaves grow -/
/-- a row that has k leaves, their states from s -/
def lvR (N0 : tN) (k : Nat) (s : Nat → Int32) : tN := fun j => if j = 4 then nI (k * nRm N0) else if 99 ≤ j ∧ j < 111 then s (j - 99) else N0 j
section EXT
variable {σ : HpT} {G G' G3 : Nat → Nat → Int32} {J : Nat → Nat → Int64} {N0 N : tN} {s : Nat → Int32} {k L W l t : Nat}
theorem lvr_w1 (hw : W1 N0) (hk : k ≤ 12) : W1 (lvR N0 k s) ∧ nLv (lvR N0 k s) = k ∧ nv (lvR N0 k s) 2 = nv N0 2 := by
  have hb := w1_b hw
  have e4 : lvR N0 k s 4 = nI (k * nRm N0) := if_pos rfl
  have eo : ∀ j, j < 99 → j ≠ 4 → lvR N0 k s j = N0 j := fun j h1 h2 => by
    unfold lvR
    rw [if_neg h2, if_neg (by omega)]
  have hm : k * nRm N0 ≤ 12 * nRm N0 := Nat.mul_le_mul_right _ hk
  have c4 : nWd (lvR N0 k s) = k * nRm N0 := nv_n e4 (by omega)
  have c0 : nRm (lvR N0 k s) = nRm N0 := nv_e (eo 0 (by decide) (by decide))
  obtain ⟨⟨q1, q2⟩, q3, ⟨q4, q5⟩, q6, q7, q8, q9⟩ := hw
  refine ⟨⟨⟨isN_e (eo 0 (by decide) (by decide)) q1, by rw [c0]; exact q2⟩, isN_e (eo 1 (by decide) (by decide)) q3, ⟨isN_e (eo 2 (by decide) (by decide)) q4, by rw [show nv (lvR N0 k s) 2 = nv N0 2 from nv_e (eo 2 (by decide) (by decide))]; exact q5⟩, isN_e (eo 3 (by decide) (by decide)) q6, ⟨isN_n e4 (by omega) (by decide), by rw [c4, c0]; exact hm⟩, isN_e (eo 5 (by decide) (by decide)) q8, isN_e (eo 6 (by decide) (by decide)) q9⟩, ?_, nv_e (eo 2 (by decide) (by decide))⟩
  show (nWd (lvR N0 k s) + nRm (lvR N0 k s) - 1) / nRm (lvR N0 k s) = k
  rw [c4, c0]
  have h1 : (k + 1) * nRm N0 = k * nRm N0 + nRm N0 := Nat.succ_mul _ _
  exact Nat.div_eq_of_lt_le (by omega) (by omega)
theorem c_extendTo (h : LK σ L) (hw : W1 N0) (h2 : G L 0 = N0 2) (h1 : G L 1 = nI k) (hk : nLv N0 ≤ k) (ht : k ≤ t) (ht2 : t ≤ 12) (hs : ∀ l, l < k → G (L + 1) l = stA N0 W l) : ∃ G', fX4_extendTo (some L) (nI t) (wc σ G J) = some (wc σ G' J) ∧ (∀ a, a ≠ L → a ≠ L + 1 → G' a = G a) ∧ (∀ j, j ≠ 1 → G' L j = G L j) ∧ G' L 1 = nI t ∧ ∀ l, l < t → G' (L + 1) l = stA N0 W l := by
  have key : ∃ r σ', lpS (fX4_extendTo_l1 (some L) (nI t)) FUEL () (wc σ G J) = some (r, σ') ∧ (∃ G', σ' = wc σ G' J ∧ (∀ a, a ≠ L → a ≠ L + 1 → G' a = G a) ∧ (∀ j, j ≠ 1 → G' L j = G L j) ∧ G' L 1 = nI t ∧ ∀ l, l < t → G' (L + 1) l = stA N0 W l) := by
    refine lpS_i (f := fX4_extendTo_l1 (some L) (nI t)) (fun n _ σ' => ∃ m G', m + n = t ∧ k ≤ m ∧ σ' = wc σ G' J ∧ (∀ a, a ≠ L → a ≠ L + 1 → G' a = G a) ∧ (∀ j, j ≠ 1 → G' L j = G L j) ∧ G' L 1 = nI m ∧ ∀ l, l < m → G' (L + 1) l = stA N0 W l) (fun _ σ' => ∃ G', σ' = wc σ G' J ∧ (∀ a, a ≠ L → a ≠ L + 1 → G' a = G a) ∧ (∀ j, j ≠ 1 → G' L j = G L j) ∧ G' L 1 = nI t ∧ ∀ l, l < t → G' (L + 1) l = stA N0 W l) (t - k) FUEL () (wc σ G J) (show t - k < 200000 by omega) ⟨k, G, by omega, Nat.le_refl _, rfl, fun _ _ _ => rfl, fun _ _ => rfl, h1, hs⟩ (fun n u σ' hI => ?_) (fun u σ' hI => ?_)
    · obtain ⟨m, G1, m1, m2, rfl, g1, g2, g3, g4⟩ := hI
      left
      generalize hG2 : up G1 L 1 (nI (m + 1)) = G2
      have o2 : ∀ a, a ≠ L → G2 a = G1 a := fun a ha => by rw [← hG2, up_a ha]
      have oL : ∀ j, j ≠ 1 → G2 L j = G L j := fun j hj => by rw [← hG2, up_k hj]; exact g2 j hj
      have o1 : G2 L 1 = nI (m + 1) := by rw [← hG2, up_eq]
      obtain ⟨w1, nl, q2⟩ := lvr_w1 (k := m + 1) (s := fun l => G2 (L + 1) l) hw (by omega)
      generalize hM : lvR N0 (m + 1) (fun l => G2 (L + 1) l) = M at *
      have ml : ∀ l, l < 12 → M (99 + l) = G2 (L + 1) l := fun l hl => by
        rw [← hM]
        unfold lvR
        rw [if_neg (by omega), if_pos (by omega), show 99 + l - 99 = l by omega]
      have m2' : M 2 = N0 2 := by
        rw [← hM]
        unfold lvR
        rw [if_neg (by omega), if_neg (by omega)]
      have lr : LvR G2 L M := ⟨by rw [oL 0 (by decide), h2, m2'], by rw [o1, nl], fun l hl => (ml l (by omega)).symm⟩
      have em := l_mateOf (J := J) h w1 lr (l := m) (by omega)
      have hmt : ∃ bb : Bool, fX4_isLost (some L) (mtQ M m) (wc σ G2 J) = some bb ∧ stA N0 W m = bI bb := by
        have est : stA N0 W m = if mtN (nv N0 2) m < nLv N0 ∧ s0N N0 W (mtN (nv N0 2) m) = 2 then 1 else 0 := by
          unfold stA
          rw [if_neg (by omega)]
        rw [est]
        unfold fX4_isLost
        rw [lk_o h, bnP_1, l_isThere h w1 lr, bnP_1]
        have hneg : inR nO (nI 0) (nI (nLv M) - 1) = false := by
          unfold inR
          rw [show decide (nI 0 ≤ nO) = false by decide, Bool.false_and]
        unfold mtQ
        rw [q2, nl]
        by_cases z1 : mtN (nv N0 2) m = m
        · rw [if_pos z1, ← nl, hneg, if_neg (by decide), if_neg (fun q => by omega)]
          exact ⟨false, rfl, rfl⟩
        · rw [if_neg z1]
          by_cases z2 : mtN (nv N0 2) m < m + 1
          · rw [if_pos z2, inN_e (by omega) (by omega), decide_eq_true z2, if_pos rfl, lk_r2 h, bnP_1, lk_a2 h (by omega), bnP_1, o2 _ (by omega), g4 _ (by omega)]
            by_cases z3 : mtN (nv N0 2) m < nLv N0
            · have e3 : stA N0 W (mtN (nv N0 2) m) = s0N N0 W (mtN (nv N0 2) m) := by
                unfold stA
                rw [if_pos z3]
              rw [e3]
              by_cases z4 : s0N N0 W (mtN (nv N0 2) m) = 2
              · rw [if_pos z4, if_pos ⟨z3, z4⟩]
                exact ⟨true, rfl, rfl⟩
              · rw [if_neg z4, if_neg (fun q => z4 q.2)]
                exact ⟨false, rfl, rfl⟩
            · have hns : stA N0 W (mtN (nv N0 2) m) ≠ 2 := by
                rcases stA_n (W := W) z3 with q | q
                · rw [q]
                  decide
                · rw [q]
                  decide
              rw [if_neg hns, if_neg (fun q => z3 q.1)]
              exact ⟨false, rfl, rfl⟩
          · rw [if_neg z2, ← nl, hneg, if_neg (by decide), if_neg (fun q => by omega)]
            exact ⟨false, rfl, rfl⟩
      obtain ⟨bb, eb, es⟩ := hmt
      refine ⟨(), wc σ (up G2 (L + 1) m (bI bb)) J, ?_, m + 1, up G2 (L + 1) m (bI bb), by omega, by omega, rfl, fun a a1 a2 => by rw [up_a a2, o2 a a1]; exact g1 a a1 a2, fun j hj => by rw [up_a (by omega)]; exact oL j hj, by rw [up_a (by omega)]; exact o1, fun l hl => ?_⟩
      · unfold fX4_extendTo_l1
        rw [lk_I h, bnP_1, g3, if_neg (nI_ge (by omega) (by omega)), bnP_1, if_neg (show ¬ 12 ≤ nI m from nI_ge (b := 12) (by omega) (by decide)), bnP_1, lk_P h, bnP_1, nI_a1, hG2, lk_I h, bnP_1, o1, nI_m1 (by omega), Nat.add_sub_cancel, em, bnP_1, eb, bnP_1, lk_r2 h, bnP_1, bnP_1]
        cases bb
        · rw [if_neg (by decide), bnP_1]
          dsimp only
          rw [nI_m1 (by omega), Nat.add_sub_cancel, lk_s2 h (by omega), bnP_1]
          rfl
        · rw [if_pos rfl, bnP_1]
          dsimp only
          rw [nI_m1 (by omega), Nat.add_sub_cancel, lk_s2 h (by omega), bnP_1]
          rfl
      · by_cases z : l = m
        · rw [z, up_eq]
          exact es.symm
        · rw [up_k z, o2 _ (by omega)]
          exact g4 l (by omega)
    · obtain ⟨m, G1, m1, m2, rfl, g1, g2, g3, g4⟩ := hI
      obtain rfl : m = t := by omega
      refine ⟨(), _, ?_, G1, rfl, g1, g2, g3, g4⟩
      unfold fX4_extendTo_l1
      rw [lk_I h, bnP_1, g3, if_pos (nI_le (Nat.le_refl _) (by omega))]
  obtain ⟨r, σ', e, G', rfl, q⟩ := key
  refine ⟨G', ?_, q⟩
  unfold fX4_extendTo
  rw [lk_o h, bnP_1, e, bnS_1]
end EXT
