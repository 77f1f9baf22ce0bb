/-! THE PURE LEVEL, 46: INTERLINE, the Book -/
section INT2
variable {σ : HpT} {G G1 G2 : Nat → Nat → Int32} {J J2 : Nat → Nat → Int64} {b bs ps tx : Nat} {P : Nat → Option Nat} {E : tE} {I T : tI} {N : Nat → Int32} {U : tU} {V : tV} {g : Nat} {lo hi : Int32}
theorem int_rb (hw : WFN N) (q : isO N) (h1 : aF N (nAc N - 1) ≤ g) (h2 : g < aF N (nAc N - 1) + aM N (nAc N - 1)) (h4 : wN' N g < 4) (r : RB G J b N) {w : Int64} (wd : wdR lo hi w) (g8 : G2 (b + 8) = u1 (G (b + 8)) g (nI (wN' N g + 1))) (ga : G2 (b + 15 + (nAc N - 1)) = u1 (G (b + 15 + (nAc N - 1))) 4 (G (b + 15 + (nAc N - 1)) 4 + 1)) (go : ∀ a, a ≠ b + 8 → a ≠ b + 15 + (nAc N - 1) → G2 a = G a) (j9 : J2 = upJ J (b + 9) (4 * g + wN' N g) w) : RB G2 J2 b (intN N g lo hi) := by
  have hb := w1_b hw.1
  have hl := act_le hw.1 hw.2.1 (a := nAc N - 1) (by have := q.1; omega)
  have hg : g < nWd N := by omega
  have s := int_s (lo := lo) (hi := hi) hw hg h4
  have sn := sm_n s
  have sc := sm_c s
  have e6 : intN N g lo hi 6 = N 6 := int_o (by omega) (by omega) (by omega) (by omega)
  have h12 := nlv_12 hw.1
  obtain ⟨⟨a1, a2, a3, a4, a5, a6, a7, a8, a9, a10, a11⟩, ⟨b1, b2⟩, c1⟩ := r
  refine ⟨⟨?_, ?_, ?_, ?_, ?_, ?_, ?_, ?_, ?_, fun a ha => ?_, fun l hn => ?_⟩, ⟨fun k hn => ?_, fun a ha k q1 q2 => ?_⟩, ?_⟩
  · rw [go b (by omega) (by omega), s.1 0 (by decide)]
    exact a1
  · rw [go b (by omega) (by omega), s.1 1 (by decide)]
    exact a2
  · rw [go b (by omega) (by omega), s.1 3 (by decide)]
    exact a3
  · rw [go b (by omega) (by omega), e6]
    exact a4
  · rw [go b (by omega) (by omega), int_o (by omega) (by omega) (by omega) (by omega)]
    exact a5
  · rw [go b (by omega) (by omega), int_o (by omega) (by omega) (by omega) (by omega)]
    exact a6
  · rw [go (b + 3) (by omega) (by omega), s.1 4 (by decide)]
    exact a7
  · rw [go (b + 10) (by omega) (by omega), s.1 2 (by decide)]
    exact a8
  · rw [go (b + 10) (by omega) (by omega), sn.2.2.2.2.1]
    exact a9
  · rw [sn.2.1] at ha
    obtain ⟨r0, r1, r2, r3, r4, r5, r6, r7⟩ := a10 a ha
    have e1 : intN N g lo hi (9 + 9 * a + 1) = N (9 + 9 * a + 1) := int_o (by omega) (by omega) (by omega) (by omega)
    have e2 : intN N g lo hi (9 + 9 * a + 2) = N (9 + 9 * a + 2) := int_o (by omega) (by omega) (by omega) (by omega)
    have e4 : intN N g lo hi (9 + 9 * a + 4) = N (9 + 9 * a + 4) := int_o (by omega) (by omega) (by omega) (by omega)
    rw [show intN N g lo hi (9 + 9 * a) = N (9 + 9 * a) from s.2.1 a ha 0 (by omega), e1, e2, s.2.1 a ha 5 (by omega), s.2.1 a ha 6 (by omega), e4]
    by_cases z : a = nAc N - 1
    · have e3 : intN N g lo hi (9 + 9 * (nAc N - 1) + 3) = N (9 + 9 * (nAc N - 1) + 3) + 1 := by
        unfold intN
        rw [if_neg (by omega), if_neg (by omega), if_neg (by omega), if_pos (by omega)]
      rw [z] at r0 r1 r2 r3 r4 r5 r6 r7 ⊢
      rw [ga, e3, u1_k (by decide), u1_k (by decide), u1_k (by decide), u1_k (by decide), u1_e, u1_k (by decide), u1_k (by decide), u1_k (by decide), r4]
      exact ⟨r0, r1, r2, r3, rfl, r5, r6, r7⟩
    · have e3 : intN N g lo hi (9 + 9 * a + 3) = N (9 + 9 * a + 3) := int_o (by omega) (by omega) (by omega) (by omega)
      rw [go _ (by omega) (by omega), e3]
      exact ⟨r0, r1, r2, r3, r4, r5, r6, r7⟩
  · rw [sn.2.2.2.2.1] at hn
    rw [go (b + 11) (by omega) (by omega), int_o (by omega) (by omega) (by omega) (by omega)]
    exact a11 l hn
  · rw [sn.2.2.1] at hn
    obtain ⟨t1, t2, t3, t4⟩ := b1 k hn
    have hbb : wN' N k < 5 := (hw.2.2.2.1 k hn).1.2
    have e0 : intN N g lo hi (127 + 13 * k) = N (127 + 13 * k) := int_o (by omega) (by omega) (by omega) (by omega)
    have e1 : intN N g lo hi (127 + 13 * k + 1) = N (127 + 13 * k + 1) := int_o (by omega) (by omega) (by omega) (by omega)
    have e2 : intN N g lo hi (127 + 13 * k + 2) = N (127 + 13 * k + 2) := int_o (by omega) (by omega) (by omega) (by omega)
    rw [e0, e1, e2, go (b + 7) (by omega) (by omega), j9, upJ_a (by omega), g8]
    by_cases z : k = g
    · subst z
      have e4 : intN N k lo hi (127 + 13 * k + 4) = nI (wN' N k + 1) := by
        unfold intN
        rw [if_neg (by omega), if_neg (by omega), if_pos (by omega)]
      have e5 : wN' (intN N k lo hi) k = wN' N k + 1 := (isN_of (B := 6) e4 (by omega) (by decide)).2
      refine ⟨t1, t2, by rw [u1_e, e4], fun j hj => ?_⟩
      rw [e5] at hj
      by_cases zj : j = wN' N k
      · subst zj
        have d1 : intN N k lo hi (127 + 13 * k + 5 + 2 * wN' N k) = lo := by
          unfold intN
          rw [if_pos (by omega)]
        have d2 : intN N k lo hi (127 + 13 * k + 5 + 2 * wN' N k + 1) = hi := by
          unfold intN
          rw [if_neg (by omega), if_pos (by omega)]
        rw [d1, d2, upJ_eq]
        exact wd
      · rw [int_o (by omega) (by omega) (by omega) (by omega), int_o (by omega) (by omega) (by omega) (by omega), upJ_k (by omega)]
        exact t4 j (by omega)
    · have e4 : intN N g lo hi (127 + 13 * k + 4) = N (127 + 13 * k + 4) := int_o (by omega) (by omega) (by omega) (by omega)
      rw [e4, u1_k z, show wN' (intN N g lo hi) k = wN' N k from congrArg Int32.toNatClampNeg e4]
      refine ⟨t1, t2, t3, fun j hj => ?_⟩
      rw [int_o (by omega) (by omega) (by omega) (by omega), int_o (by omega) (by omega) (by omega) (by omega), upJ_k (by omega)]
      exact t4 j hj
  · rw [sn.2.1] at ha
    have e := sm_a s ha
    rw [e.1] at q1 q2
    rw [e.2.1] at q2
    rw [sc.1, sc.2.1, e.2.2.1, e.2.2.2, go (b + 5) (by omega) (by omega), go (b + 6) (by omega) (by omega)]
    exact b2 a ha k q1 q2
  · refine rc_cg s hw (fun c hc => ⟨int_o (by omega) (by omega) (by omega) (by omega), int_o (by omega) (by omega) (by omega) (by omega), fun k _ => by rw [go _ (by omega) (by omega)], fun k q1 q2 => ?_⟩) (congrArg Int32.toNatClampNeg e6) c1
    have ho := cp_no hw q hc
    have ap := act_ap hw.1 hw.2.1 (a := oO N c) (c := nAc N - 1) (by omega) (by omega)
    exact ⟨int_o (by omega) (by omega) (by omega) (by omega), int_o (by omega) (by omega) (by omega) (by omega)⟩
end INT2
