/-! THE PURE LEVEL, 90: an act's body is read: the row is one -/
theorem isN_e {N M : tN} {i B : Nat} (h : M i = N i) (q : isN N i B) : isN M i B := ⟨by rw [h, nv_e h]; exact q.1, by rw [nv_e h]; exact q.2⟩
theorem isN_n {N : tN} {i n B : Nat} (h : N i = nI n) (hn : n < B) (hB : B < 2 ^ 31) : isN N i B := ⟨by rw [nv_n h (by omega)]; exact h, by rw [nv_n h (by omega)]; exact hn⟩
section BWF
variable {N0 N M : tN} {kd lo hi : Int32} {cur d p a W l k : Nat}
theorem w3_cong {a : Nat} (hw : W3 N0) (ha : a < nAc N0) (hK : ∀ i, i < 9 → N (9 + 9 * a + i) = N0 (9 + 9 * a + i)) (hC : ∀ c, c < aK N0 a + aC N0 a → ∀ i, i < 3 → N (3247 + 3 * c + i) = N0 (3247 + 3 * c + i)) (hG : ∀ g, g < aF N0 a + aM N0 a → N (127 + 13 * g + 3) = N0 (127 + 13 * g + 3)) :
    (∀ c, aK N a ≤ c → c < aK N a + aC N a → isN N (3247 + 3 * c) 241 ∧ isN N (3247 + 3 * c + 1) 241 ∧ isN N (3247 + 3 * c + 2) 961 ∧ aF N a ≤ cF N c ∧ cF N c ≤ cT N c ∧ cT N c < aF N a + aM N a ∧
    (∀ d, aK N a ≤ d → d < c → cF N d ≤ cF N c ∧ (cT N d < cF N c ∨ cT N c ≤ cT N d)) ∧
    ((cA N c = 0 ∧ ∀ d, aK N a ≤ d → d < c → cT N d < cF N c) ∨ ∃ p, cA N c = p + 1 ∧ aK N a ≤ p ∧ p < c ∧ cT N c ≤ cT N p ∧ ∀ d, p < d → d < c → cT N d < cF N c)) ∧
  ∀ g, aF N a ≤ g → g < aF N a + aM N a → isN N (127 + 13 * g + 3) 961 ∧
    ((wW N g = 0 ∧ ∀ c, aK N a ≤ c → c < aK N a + aC N a → ¬ (cF N c ≤ g ∧ g ≤ cT N c)) ∨ ∃ p, wW N g = p + 1 ∧ aK N a ≤ p ∧ p < aK N a + aC N a ∧ cF N p ≤ g ∧ g ≤ cT N p ∧ ∀ c, p < c → c < aK N a + aC N a → ¬ (cF N c ≤ g ∧ g ≤ cT N c)) ∧
    cov (cF N) (cT N) (aK N a) (aC N a) g ≤ 4 := by
  have eK : aK N a = aK N0 a := nv_e (hK 7 (by decide))
  have eC : aC N a = aC N0 a := nv_e (hK 8 (by decide))
  have eF : aF N a = aF N0 a := nv_e (hK 5 (by decide))
  have eM : aM N a = aM N0 a := nv_e (hK 6 (by decide))
  have fF : ∀ c, c < aK N0 a + aC N0 a → cF N c = cF N0 c := fun c hc => nv_e (hC c hc 0 (by decide))
  have fT : ∀ c, c < aK N0 a + aC N0 a → cT N c = cT N0 c := fun c hc => nv_e (hC c hc 1 (by decide))
  have fA : ∀ c, c < aK N0 a + aC N0 a → cA N c = cA N0 c := fun c hc => nv_e (hC c hc 2 (by decide))
  rw [eK, eC, eF, eM]
  obtain ⟨q1, q2⟩ := hw a ha
  refine ⟨fun c c1 c2 => ?_, fun g g1 g2 => ?_⟩
  · obtain ⟨r1, r2, r3, r4, r5, r6, r7, r8⟩ := q1 c c1 c2
    rw [fF c c2, fT c c2, fA c c2]
    refine ⟨isN_e (hC c c2 0 (by decide)) r1, isN_e (hC c c2 1 (by decide)) r2, isN_e (hC c c2 2 (by decide)) r3, r4, r5, r6, fun d d1 d2 => ?_, ?_⟩
    · rw [fF d (by omega), fT d (by omega)]
      exact r7 d d1 d2
    · rcases r8 with ⟨s1, s2⟩ | ⟨p, s1, s2, s3, s4, s5⟩
      · exact Or.inl ⟨s1, fun d d1 d2 => by rw [fT d (by omega)]; exact s2 d d1 d2⟩
      · exact Or.inr ⟨p, s1, s2, s3, by rw [fT p (by omega)]; exact s4, fun d d1 d2 => by rw [fT d (by omega)]; exact s5 d d1 d2⟩
  · obtain ⟨r1, r2, r3⟩ := q2 g g1 g2
    have ew : wW N g = wW N0 g := nv_e (hG g g2)
    refine ⟨isN_e (hG g g2) r1, ?_, ?_⟩
    · rw [ew]
      rcases r2 with ⟨s1, s2⟩ | ⟨p, s1, s2, s3, s4, s5, s6⟩
      · exact Or.inl ⟨s1, fun c c1 c2 => by rw [fF c c2, fT c c2]; exact s2 c c1 c2⟩
      · exact Or.inr ⟨p, s1, s2, s3, by rw [fF p s3]; exact s4, by rw [fT p s3]; exact s5, fun c c1 c2 => by rw [fF c c2, fT c c2]; exact s6 c c1 c2⟩
    · rw [cov_cong (fun c _ c2 => fF c c2) (fun c _ c2 => fT c c2)]
      exact r3
theorem bi_wf (hw : WFN N0) (ha : nAc N0 < 10) (b : BI N0 N kd 0 0) (hW : nWd N0 < nWd N) (ho : ¬ isO N0) (hk : kd = nI k) (hk3 : k < 3) : WFN N := by
  have hb := bi_b hw b
  have hb0 := w1_b hw.1
  have hcl := wf_cl hw
  have w1 := bi_w1 hw ha b (by omega)
  obtain ⟨fr, ⟨n3, n4, n5, k0, w12⟩, ⟨⟨a1, a2, a3, a4, a5⟩, a6, a7, a8, a9⟩, cells, words, bv, lv⟩ := b
  have eA : nAc N = nAc N0 + 1 := nv_n n3 (by omega)
  have hA : ∀ a, a < nAc N0 → ∀ i, i < 9 → N (9 + 9 * a + i) = N0 (9 + 9 * a + i) := fun a h i hi => fr _ (by omega) (by omega) (by omega) (by omega) (by omega) (by omega) (by omega)
  have hC : ∀ c, c < nCl N0 → ∀ i, i < 3 → N (3247 + 3 * c + i) = N0 (3247 + 3 * c + i) := fun c h i hi => fr _ (by omega) (by omega) (by omega) (by omega) (by omega) (by omega) (by omega)
  have hG : ∀ g, g < nWd N0 → ∀ i, i < 13 → N (127 + 13 * g + i) = N0 (127 + 13 * g + i) := fun g h i hi => fr _ (by omega) (by omega) (by omega) (by omega) (by omega) (by omega) (by omega)
  have hP : ∀ j, 111 ≤ j → j < 127 → N j = N0 j := fun j h1 h2 => fr _ (by omega) (by omega) (by omega) (by omega) (by omega) (by omega) (by omega)
  have b5 : N (9 + 9 * nAc N0 + 5) = nI (nWd N0) := by
    rw [show 9 + 9 * nAc N0 + 5 = 14 + 9 * nAc N0 by omega]
    exact a6
  have b6 : N (9 + 9 * nAc N0 + 6) = nI (nWd N - nWd N0) := by
    rw [show 9 + 9 * nAc N0 + 6 = 15 + 9 * nAc N0 by omega]
    exact a7
  have b7 : N (9 + 9 * nAc N0 + 7) = nI (nCl N0) := by
    rw [show 9 + 9 * nAc N0 + 7 = 16 + 9 * nAc N0 by omega]
    exact a8
  have b8 : N (9 + 9 * nAc N0 + 8) = nI (nCl N - nCl N0) := by
    rw [show 9 + 9 * nAc N0 + 8 = 17 + 9 * nAc N0 by omega]
    exact a9
  have b1 : N (9 + 9 * nAc N0 + 1) = nI 0 := by
    rw [show 9 + 9 * nAc N0 + 1 = 10 + 9 * nAc N0 by omega]
    exact a2
  have eF : aF N (nAc N0) = nWd N0 := nv_n b5 (by omega)
  have eM : aM N (nAc N0) = nWd N - nWd N0 := nv_n b6 (by omega)
  have eK : aK N (nAc N0) = nCl N0 := nv_n b7 (by omega)
  have eC : aC N (nAc N0) = nCl N - nCl N0 := nv_n b8 (by omega)
  have cls : ∀ c, nCl N0 ≤ c → c < nCl N → tO N c = cT N c ∧ N (3247 + 3 * c + 1) = nI (cT N c) := fun c c1 c2 => by
    have hno : tO N c ≠ 1000 := by
      rcases bv.2.2.2.2 with ⟨-, s⟩ | ⟨p, s, -⟩
      · exact s c c1 (by omega)
      · omega
    rcases (cells c c1 c2).2.2 with q | q
    · exact absurd (by unfold tO; rw [if_pos q]) hno
    · refine ⟨?_, q⟩
      unfold tO at *
      by_cases z : N (3247 + 3 * c + 1) = nO
      · rw [if_pos z] at hno
        exact absurd rfl hno
      · rw [if_neg z]
  have bv2 : BV (cF N) (cT N) (cA N) (wW N) (nCl N0) (nCl N - nCl N0) (nWd N0) (nWd N) 0 0 := bv_cong (fun _ _ _ => rfl) (fun c c1 c2 => (cls c c1 (by omega)).1.symm) (fun _ _ _ => rfl) (fun _ _ _ => rfl) bv
  have hno : ∀ c, nCl N0 ≤ c → c < nCl N → cT N c < nWd N ∧ cF N c ≤ cT N c := fun c c1 c2 => by
    have h1 := (bv2.2.1 c c1 (by omega)).1
    rcases bv2.2.2.2.2 with ⟨-, s⟩ | ⟨p, s, -⟩
    · have := s c c1 (by omega)
      omega
    · omega
  refine ⟨w1, ⟨fun z => by omega, fun a h => ?_⟩, fun a h => ?_, ⟨fun g h => ?_, fun l h => ?_, fun c h => ?_⟩⟩
  · by_cases z : a < nAc N0
    · obtain ⟨⟨q1, q2⟩, ⟨q3, q4, q5, q6⟩, q7, q8, q9, q10⟩ := hw.2.1.2 a z
      have fF : aF N a = aF N0 a := nv_e (hA a z 5 (by decide))
      have fM : aM N a = aM N0 a := nv_e (hA a z 6 (by decide))
      have fK : aK N a = aK N0 a := nv_e (hA a z 7 (by decide))
      have fC : aC N a = aC N0 a := nv_e (hA a z 8 (by decide))
      refine ⟨⟨isN_e (hA a z 0 (by decide)) q1, isN_e (hA a z 1 (by decide)) q2⟩, ⟨isN_e (hA a z 5 (by decide)) q3, isN_e (hA a z 6 (by decide)) q4, isN_e (hA a z 7 (by decide)) q5, isN_e (hA a z 8 (by decide)) q6⟩, by rw [fM]; exact q7, fun y => by rw [fF, fK]; exact q8 y, fun y => ?_, fun y => by omega⟩
      rw [fF, fM, fK, fC, show nv N (9 + 9 * a + 1) = nv N0 (9 + 9 * a + 1) from nv_e (hA a z 1 (by decide))]
      by_cases u : a + 1 < nAc N0
      · rw [show aF N (a + 1) = aF N0 (a + 1) from nv_e (hA (a + 1) u 5 (by decide)), show aK N (a + 1) = aK N0 (a + 1) from nv_e (hA (a + 1) u 7 (by decide))]
        exact q9 u
      · have e : a + 1 = nAc N0 := by omega
        have := q10 e
        rw [e, eF, eK]
        refine ⟨by omega, by omega, fun v => ho ⟨by omega, ?_⟩⟩
        rw [show nAc N0 - 1 = a by omega, q2.1, v]
        rfl
    · obtain rfl : a = nAc N0 := by omega
      rw [eF, eM, eK, eC]
      refine ⟨⟨isN_n (a1.trans hk) hk3 (by decide), isN_n b1 (by decide) (by decide)⟩, ⟨isN_n b5 (by omega) (by decide), isN_n b6 (by omega) (by decide), isN_n b7 (by omega) (by decide), isN_n b8 (by omega) (by decide)⟩, by omega, fun y => ?_, fun y => by omega, fun y => by omega⟩
      exact hw.2.1.1 y
  · by_cases z : a < nAc N0
    · have hl := act_le hw.1 hw.2.1 z
      have hkb := w3_kb hw.2.1 hw.1 z
      exact w3_cong hw.2.2.1 z (hA a z) (fun c hc => hC c (by omega)) (fun g hg => hG g (by omega) 3 (by decide))
    · obtain rfl : a = nAc N0 := by omega
      rw [eF, eM, eK, eC]
      refine ⟨fun c c1 c2 => ?_, fun g g1 g2 => ?_⟩
      · obtain ⟨q1, q2, q3⟩ := bv2.2.1 c c1 c2
        have q4 := cells c c1 (by omega)
        have q5 := hno c c1 (by omega)
        have q6 := cls c c1 (by omega)
        have hcA : cA N c ≤ c := by
          rcases q3 with ⟨s, -⟩ | ⟨p, s, -, s2, -⟩
          · omega
          · omega
        exact ⟨⟨q4.1, by show cF N c < 241; omega⟩, ⟨q6.2, by show cT N c < 241; omega⟩, ⟨q4.2.1, by show cA N c < 961; omega⟩, q1.1, q5.2, by omega, q2, q3⟩
      · obtain ⟨q1, q2⟩ := bv2.2.2.1 g g1 (by omega)
        have q4 := words g g1 (by omega)
        have hwW : wW N g < 961 := by
          rcases q1 with ⟨s, -⟩ | ⟨p, s, -, s2, -⟩
          · omega
          · omega
        exact ⟨⟨q4.2.2, hwW⟩, q1, q2⟩
  · by_cases z : g < nWd N0
    · have q := hw.2.2.2.1 g z
      exact ⟨isN_e (hG g z 4 (by decide)) q.1, by rw [hG g z 2 (by decide)]; exact q.2⟩
    · have q := words g (by omega) h
      exact ⟨isN_n (n := 0) q.2.1 (by decide) (by decide), Or.inl q.1⟩
  · have q := lv l h
    have q0 : ∀ m, m < nLv N0 → N (99 + l) = N0 (99 + m) → isN N (99 + l) 3 := fun m hm e => by
      have := hw.2.2.2.2.1 m hm
      exact isN_n (e.trans this.1) this.2 (by decide)
    by_cases z : l < nLv N0
    · unfold stA s0N at q
      rw [if_pos z] at q
      split at q
      · exact isN_n (n := 0) q (by decide) (by decide)
      · exact q0 l z q
    · rcases stA_n (W := nWd N) z with e | e
      · exact isN_n (n := 0) (q.trans e) (by decide) (by decide)
      · exact isN_n (n := 1) (q.trans e) (by decide) (by decide)
  · have e6 : nCp N = nCp N0 := nv_e (fr 6 (by decide) (by decide) (by decide) (by omega) (by omega) (by omega) (by omega))
    have hc : c < nCp N0 := by rw [← e6]; exact h
    obtain ⟨q1, q2, q3, q4⟩ := hw.2.2.2.2.2 c hc
    have eo : oO N c = oO N0 c := nv_e (hP _ (by omega) (by omega))
    rw [eo]
    exact ⟨isN_e (hP _ (by omega) (by omega)) q1, by omega, isN_e (hP _ (by omega) (by omega)) q3, by rw [hA _ q2 1 (by decide)]; exact q4⟩
end BWF
