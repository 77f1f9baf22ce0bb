/-! THE PURE LEVEL, 89: a word of an act's body -/
theorem up_div {W rm : Nat} (h : 0 < rm) : (W + rm - 1) / rm = if W % rm = 0 then W / rm else W / rm + 1 := by
  have h1 := Nat.div_add_mod W rm
  have h2 := Nat.mod_lt W h
  have h3 : W / rm * rm = rm * (W / rm) := Nat.mul_comm _ _
  have h4 : (W / rm + 1) * rm = W / rm * rm + rm := Nat.succ_mul _ _
  have h5 : (W / rm + 1 + 1) * rm = (W / rm + 1) * rm + rm := Nat.succ_mul _ _
  by_cases z : W % rm = 0
  · rw [if_pos z]
    exact Nat.div_eq_of_lt_le (by omega) (by omega)
  · rw [if_neg z]
    exact Nat.div_eq_of_lt_le (by omega) (by omega)
theorem w1_cong {N M : tN} (h : ∀ j, j < 7 → M j = N j) (w : W1 N) : W1 M := by
  have e0 := h 0 (by decide)
  have e1 := h 1 (by decide)
  have e2 := h 2 (by decide)
  have e3 := h 3 (by decide)
  have e4 := h 4 (by decide)
  have e5 := h 5 (by decide)
  have e6 := h 6 (by decide)
  unfold W1 isN at *
  rw [e0, e1, e2, e3, e4, e5, e6, show nRm M = nRm N from nv_e e0, show nv M 0 = nv N 0 from nv_e e0, show nv M 4 = nv N 4 from nv_e e4, show nv M 1 = nv N 1 from nv_e e1, show nv M 2 = nv N 2 from nv_e e2, show nv M 3 = nv N 3 from nv_e e3, show nWd M = nWd N from nv_e e4, show nv M 5 = nv N 5 from nv_e e5, show nv M 6 = nv N 6 from nv_e e6]
  exact w
section BWD
variable {N0 N M : tN} {kd lo hi : Int32} {cur d p a W l : Nat}
theorem s0_A (h1 : nWd N0 ≤ W) (h2 : W % nRm N0 = 0) (m : Nat) : s0N N0 (W + 1) m = s0N N0 W m := by
  unfold s0N
  by_cases z : nWd N0 < W
  · by_cases y : nWd N0 % nRm N0 ≠ 0 ∧ m = nWd N0 / nRm N0 ∧ N0 (99 + m) = 2
    · rw [if_pos ⟨by omega, y⟩, if_pos ⟨z, y⟩]
    · rw [if_neg (fun q => y q.2), if_neg (fun q => y q.2)]
  · obtain rfl : W = nWd N0 := by omega
    rw [if_neg (fun q => q.2.1 h2), if_neg (fun q => q.2.1 h2)]
theorem s0_L (h1 : nWd N0 < W) (m : Nat) : s0N N0 (W + 1) m = s0N N0 W m := by
  unfold s0N
  by_cases y : nWd N0 % nRm N0 ≠ 0 ∧ m = nWd N0 / nRm N0 ∧ N0 (99 + m) = 2
  · rw [if_pos ⟨by omega, y⟩, if_pos ⟨h1, y⟩]
  · rw [if_neg (fun q => y q.2), if_neg (fun q => y q.2)]
theorem stA_s (h : ∀ m, s0N N0 (W + 1) m = s0N N0 W m) (l : Nat) : stA N0 (W + 1) l = stA N0 W l := by
  unfold stA
  rw [h, h]
theorem stA_n (h : ¬ l < nLv N0) : stA N0 W l = 0 ∨ stA N0 W l = 1 := by
  unfold stA
  rw [if_neg h]
  split
  · exact Or.inr rfl
  · exact Or.inl rfl
theorem stA_2 (hrm : 0 < nRm N0) (h : nWd N0 < W) : stA N0 W (W / nRm N0) ≠ 2 := by
  by_cases z : W / nRm N0 < nLv N0
  · have h1 : nLv N0 = if nWd N0 % nRm N0 = 0 then nWd N0 / nRm N0 else nWd N0 / nRm N0 + 1 := up_div hrm
    have h2 : nWd N0 / nRm N0 ≤ W / nRm N0 := Nat.div_le_div_right (by omega)
    unfold stA s0N
    rw [if_pos z]
    by_cases y : nWd N0 % nRm N0 = 0
    · rw [if_pos y] at h1
      omega
    · rw [if_neg y] at h1
      have e : W / nRm N0 = nWd N0 / nRm N0 := by omega
      by_cases u : N0 (99 + W / nRm N0) = 2
      · rw [if_pos ⟨h, y, e, u⟩]
        decide
      · rw [if_neg (fun q => u q.2.2.2)]
        exact u
  · rcases stA_n (W := W) z with q | q
    · rw [q]
      decide
    · rw [q]
      decide
theorem lv_o {j : Nat} (h : W / nRm M < 12) (hj : j < 99 ∨ 111 ≤ j) : lvN M W j = M j := by
  unfold lvN
  generalize W / nRm M = q at *
  split
  · exact u1_k (by omega)
  · split
    · exact u1_k (by omega)
    · rfl
theorem lv_ne (h : l ≠ W / nRm M) : lvN M W (99 + l) = M (99 + l) := by
  unfold lvN
  split
  · exact u1_k (by omega)
  · split
    · exact u1_k (by omega)
    · rfl
theorem bi_word (hw : WFN N0) (ha : nAc N0 < 10) (b : BI N0 N kd cur d) (hW : nWd N < 12 * nRm N0) (hcur : cur < 2 ^ 31) : BI N0 (adW N (nAc N0) cur lo hi) kd cur d ∧ W1 (adB N (nAc N0) cur lo hi) := by
  have hb := bi_b hw b
  have hb0 := w1_b hw.1
  have hrm := (bi_rm hw b).1
  have hq2 := (bi_rm hw b).2.1
  have b0 := b
  obtain ⟨fr, ⟨n3, n4, n5, k0, w12⟩, act, cells, words, bv, lv⟩ := b
  have oM : ∀ j, (j < 127 + 13 * nWd N ∨ 140 + 13 * nWd N ≤ j) → j ≠ 4 → j ≠ 15 + 9 * nAc N0 → adB N (nAc N0) cur lo hi j = N j := fun j h1 h2 h3 => by
    unfold adB
    rw [if_neg (by omega), if_neg (by omega), if_neg (by omega), if_neg (by omega), if_neg h2, if_neg h3]
  have m3 : adB N (nAc N0) cur lo hi (130 + 13 * nWd N) = nI cur := by
    unfold adB
    rw [if_neg (by omega), if_neg (by omega), if_pos rfl]
  have mz : ∀ i, i = 2 ∨ i = 4 → adB N (nAc N0) cur lo hi (127 + 13 * nWd N + i) = 0 := fun i hi => by
    unfold adB
    rw [if_neg (by omega), if_neg (by omega), if_neg (by omega), if_pos (by omega)]
  have m4 : adB N (nAc N0) cur lo hi 4 = nI (nWd N + 1) := by
    unfold adB
    rw [if_neg (by omega), if_neg (by omega), if_neg (by omega), if_neg (by omega), if_pos rfl]
  have m15 : adB N (nAc N0) cur lo hi (15 + 9 * nAc N0) = N (15 + 9 * nAc N0) + 1 := by
    unfold adB
    rw [if_neg (by omega), if_neg (by omega), if_neg (by omega), if_neg (by omega), if_neg (by omega), if_pos rfl]
  have hrM : nRm (adB N (nAc N0) cur lo hi) = nRm N0 := (nv_e (oM 0 (by omega) (by omega) (by omega))).trans hrm
  have h2M : nv (adB N (nAc N0) cur lo hi) 2 = nv N0 2 := (nv_e (oM 2 (by omega) (by omega) (by omega))).trans hq2
  have hlt : nWd N / nRm N0 < 12 := Nat.div_lt_of_lt_mul (by rw [Nat.mul_comm]; exact hW)
  have c4M : nWd (adB N (nAc N0) cur lo hi) = nWd N + 1 := nv_n m4 (by omega)
  have eM : ∀ l, l < 12 → adB N (nAc N0) cur lo hi (99 + l) = N (99 + l) := fun l hl => oM _ (by omega) (by omega) (by omega)
  have lvM : nLv (adB N (nAc N0) cur lo hi) = nWd N / nRm N0 + 1 := by
    show (nWd (adB N (nAc N0) cur lo hi) + nRm (adB N (nAc N0) cur lo hi) - 1) / nRm (adB N (nAc N0) cur lo hi) = _
    rw [c4M, hrM, show nWd N + 1 + nRm N0 - 1 = nWd N + nRm N0 by omega, Nat.add_div_right _ (by omega)]
  have lvN' : nLv N = if nWd N % nRm N0 = 0 then nWd N / nRm N0 else nWd N / nRm N0 + 1 := by
    show (nWd N + nRm N - 1) / nRm N = _
    rw [hrm]
    exact up_div (by omega)
  unfold adW
  generalize adB N (nAc N0) cur lo hi = M at *
  have oK : ∀ j, (j < 99 ∨ 111 ≤ j) → lvN M (nWd N) j = M j := fun j hj => lv_o (by rw [hrM]; exact hlt) hj
  have key : ∀ l, l < nWd N / nRm N0 + 1 → lvN M (nWd N) (99 + l) = stA N0 (nWd N + 1) l := fun l hl => by
    by_cases z : nWd N % nRm N0 = 0
    · rw [if_pos z] at lvN'
      have hs := s0_A (N0 := N0) (W := nWd N) (by omega) z
      rw [stA_s hs]
      by_cases y : l = nWd N / nRm N0
      · have e1 : lvN M (nWd N) (99 + l) = cmL M l := by
          unfold lvN
          rw [hrM, if_pos z, y, u1_e]
        have hl0 : ¬ l < nLv N0 := by omega
        rw [e1]
        unfold cmL mtQ
        rw [h2M]
        have est : stA N0 (nWd N) l = if mtN (nv N0 2) l < nLv N0 ∧ s0N N0 (nWd N) (mtN (nv N0 2) l) = 2 then 1 else 0 := by
          unfold stA
          rw [if_neg hl0]
        rw [est]
        by_cases u : mtN (nv N0 2) l = l
        · rw [if_pos u, if_pos rfl, if_neg (fun q => by omega)]
        · rw [if_neg u, lvM]
          by_cases u2 : mtN (nv N0 2) l < nWd N / nRm N0 + 1
          · have hm : mtN (nv N0 2) l < nLv N := by omega
            rw [if_pos u2, if_neg (nI_nO (by omega)), nI_clamp (by omega), eM _ (by omega), lv _ hm]
            by_cases u3 : mtN (nv N0 2) l < nLv N0
            · have e3 : stA N0 (nWd N) (mtN (nv N0 2) l) = s0N N0 (nWd N) (mtN (nv N0 2) l) := by
                unfold stA
                rw [if_pos u3]
              rw [e3]
              by_cases u4 : s0N N0 (nWd N) (mtN (nv N0 2) l) = 2
              · rw [if_pos u4, if_pos ⟨u3, u4⟩]
              · rw [if_neg u4, if_neg (fun q => u4 q.2)]
            · have hns : stA N0 (nWd N) (mtN (nv N0 2) l) ≠ 2 := by
                rcases stA_n (W := nWd N) u3 with q | q
                · rw [q]
                  decide
                · rw [q]
                  decide
              rw [if_neg hns, if_neg (fun q => u3 q.1)]
          · rw [if_neg u2, if_pos rfl, if_neg (fun q => by omega)]
      · rw [lv_ne (by rw [hrM]; exact y), eM l (by omega)]
        exact lv l (by omega)
    · rw [if_neg z] at lvN'
      by_cases y : l = nWd N / nRm N0
      · have e1 : lvN M (nWd N) (99 + l) = if N (99 + l) = 2 then 0 else N (99 + l) := by
          unfold lvN
          rw [hrM, if_neg z, ← y, eM l (by omega)]
          by_cases u : N (99 + l) = 2
          · rw [if_pos u, if_pos u, u1_e]
          · rw [if_neg u, if_neg u, eM l (by omega)]
        rw [e1, lv l (by omega)]
        by_cases x : nWd N0 < nWd N
        · have := stA_2 (N0 := N0) (by omega) x
          rw [stA_s (s0_L x), if_neg (by rw [y]; exact this)]
        · have ew : nWd N = nWd N0 := by omega
          have hlN : nLv N0 = nLv N := by
            show (nWd N0 + nRm N0 - 1) / nRm N0 = (nWd N + nRm N - 1) / nRm N
            rw [ew, hrm]
          have e0 : stA N0 (nWd N) l = N0 (99 + l) := by
            rw [ew]
            exact stA_0 (by omega)
          have e2 : stA N0 (nWd N + 1) l = s0N N0 (nWd N + 1) l := by
            unfold stA
            rw [if_pos (by omega)]
          rw [e0, e2]
          unfold s0N
          by_cases u : N0 (99 + l) = 2
          · rw [if_pos u, if_pos ⟨by omega, by rw [← ew]; exact z, by rw [← ew]; exact y, u⟩]
          · rw [if_neg u, if_neg (fun q => u q.2.2.2)]
      · rw [lv_ne (by rw [hrM]; exact y), eM l (by omega), lv l (by omega)]
        by_cases x : nWd N0 < nWd N
        · rw [stA_s (s0_L x)]
        · have ew : nWd N = nWd N0 := by omega
          have hlN : nLv N0 = nLv N := by
            show (nWd N0 + nRm N0 - 1) / nRm N0 = (nWd N + nRm N - 1) / nRm N
            rw [ew, hrm]
          have e0 : stA N0 (nWd N) l = N0 (99 + l) := by
            rw [ew]
            exact stA_0 (by omega)
          have e2 : stA N0 (nWd N + 1) l = s0N N0 (nWd N + 1) l := by
            unfold stA
            rw [if_pos (by omega)]
          rw [e0, e2]
          unfold s0N
          rw [if_neg (fun q => by have := q.2.2.1; rw [← ew] at this; exact y this)]
  have hK : BI N0 (lvN M (nWd N)) kd cur d := by
    generalize lvN M (nWd N) = K at *
    have oN : ∀ j, (j < 99 ∨ 111 ≤ j) → (j < 127 + 13 * nWd N ∨ 140 + 13 * nWd N ≤ j) → j ≠ 4 → j ≠ 15 + 9 * nAc N0 → K j = N j := fun j h1 h2 h3 h4 => (oK j h1).trans (oM j h2 h3 h4)
    have c4 : nWd K = nWd N + 1 := (nv_e (oK 4 (by omega))).trans c4M
    have c5 : nCl K = nCl N := nv_e (oN 5 (by omega) (by omega) (by omega) (by omega))
    have c0 : nRm K = nRm N0 := (nv_e (oK 0 (by omega))).trans hrM
    have oC : ∀ c i, i < 3 → K (3247 + 3 * c + i) = N (3247 + 3 * c + i) := fun c i hi => oN _ (by omega) (by omega) (by omega) (by omega)
    have eF : ∀ c, cF K c = cF N c := fun c => nv_e (oC c 0 (by decide))
    have eT : ∀ c, cT K c = cT N c := fun c => nv_e (oC c 1 (by decide))
    have eA : ∀ c, cA K c = cA N c := fun c => nv_e (oC c 2 (by decide))
    have etO : ∀ c, tO K c = tO N c := fun c => by
      unfold tO
      rw [oC c 1 (by decide), eT c]
    have oW : ∀ g, g < nWd N → ∀ i, i < 13 → K (127 + 13 * g + i) = N (127 + 13 * g + i) := fun g hg i hi => oN _ (by omega) (by omega) (by omega) (by omega)
    have k3 : K (127 + 13 * nWd N + 3) = nI cur := by
      rw [oK _ (by omega), show 127 + 13 * nWd N + 3 = 130 + 13 * nWd N by omega]
      exact m3
    refine ⟨fun j h3 h4 h5 h6 h7 h8 h9 => by rw [oN j h7 (by omega) h4 (by omega)]; exact fr j h3 h4 h5 h6 h7 h8 h9, ⟨by rw [oN 3 (by omega) (by omega) (by omega) (by omega)]; exact n3, by rw [oK 4 (by omega), c4]; exact m4, by rw [oN 5 (by omega) (by omega) (by omega) (by omega), c5]; exact n5, by omega, by omega⟩, ?_, fun c h1 h2 => ?_, fun g h1 h2 => ?_, ?_, fun l hl => ?_⟩
    · obtain ⟨⟨a1, a2, a3, a4, a5⟩, a6, a7, a8, a9⟩ := act
      rw [c4, c5, oN (9 + 9 * nAc N0) (by omega) (by omega) (by omega) (by omega), oN (10 + 9 * nAc N0) (by omega) (by omega) (by omega) (by omega), oN (11 + 9 * nAc N0) (by omega) (by omega) (by omega) (by omega), oN (12 + 9 * nAc N0) (by omega) (by omega) (by omega) (by omega), oN (13 + 9 * nAc N0) (by omega) (by omega) (by omega) (by omega), oN (14 + 9 * nAc N0) (by omega) (by omega) (by omega) (by omega), oK (15 + 9 * nAc N0) (by omega), m15, oN (16 + 9 * nAc N0) (by omega) (by omega) (by omega) (by omega), oN (17 + 9 * nAc N0) (by omega) (by omega) (by omega) (by omega)]
      refine ⟨⟨a1, a2, a3, a4, a5⟩, a6, ?_, a8, a9⟩
      rw [a7, nI_a1]
      congr 1
      omega
    · have q := cells c h1 (by omega)
      have o0 := oC c 0 (by decide)
      rw [Nat.add_zero] at o0
      rw [o0, oC c 1 (by decide), oC c 2 (by decide), eF, eT, eA]
      exact q
    · by_cases z : g < nWd N
      · have q := words g h1 z
        rw [oW g z 2 (by decide), oW g z 4 (by decide), oW g z 3 (by decide), show wW K g = wW N g from nv_e (oW g z 3 (by decide))]
        exact q
      · obtain rfl : g = nWd N := by omega
        exact ⟨by rw [oK _ (by omega)]; exact mz 2 (Or.inl rfl), by rw [oK _ (by omega)]; exact mz 4 (Or.inr rfl), by rw [k3]; exact congrArg nI (nv_n k3 hcur).symm⟩
    · rw [c4, c5]
      exact bv_word (bv_cong (fun c _ _ => eF c) (fun c _ _ => etO c) (fun c _ _ => eA c) (fun g h1 h2 => nv_e (oW g h2 3 (by decide))) bv) (by omega) (nv_n k3 hcur)
    · have e : nLv K = nWd N / nRm N0 + 1 := by
        show (nWd K + nRm K - 1) / nRm K = _
        rw [c4, c0, show nWd N + 1 + nRm N0 - 1 = nWd N + nRm N0 by omega, Nat.add_div_right _ (by omega)]
      rw [c4]
      exact key l (by omega)
  refine ⟨hK, ?_⟩
  have c5 : nCl (lvN M (nWd N)) = nCl N := nv_e ((oK 5 (by omega)).trans (oM 5 (by omega) (by omega) (by omega)))
  exact w1_cong (fun j hj => (oK j (by omega)).symm) (bi_w1 hw ha hK (by omega))
end BWD
