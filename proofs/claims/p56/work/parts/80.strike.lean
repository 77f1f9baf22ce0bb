/-! THE PURE LEVEL, 40: STRIKE, STRIKECLAUSE -/
/-- words f .. f + n - 1 struck, one mark more in the open act -/
def stkN (N : Nat → Int32) (f n : Nat) : Nat → Int32 := fun j => if 129 + 13 * f ≤ j ∧ j < 129 + 13 * (f + n) ∧ (j - 129) % 13 = 0 then 1 else if j = 12 + 9 * (nAc N - 1) then N j + 1 else N j
def stfG (f n : Nat) (h : Nat → Int32) : Nat → Int32 := fun j => if f ≤ j ∧ j < f + n then 1 else h j
section STK
variable {σ : HpT} {G G1 : Nat → Nat → Int32} {J : Nat → Nat → Int64} {b bs ps tx : Nat} {P : Nat → Option Nat} {E : tE} {I T : tI} {N : Nat → Int32} {U : tU} {V : tV}
theorem stk_o {f n j : Nat} (h : ¬ (129 + 13 * f ≤ j ∧ j < 129 + 13 * (f + n) ∧ (j - 129) % 13 = 0)) (h2 : j ≠ 12 + 9 * (nAc N - 1)) : stkN N f n j = N j := by
  unfold stkN
  rw [if_neg h, if_neg h2]
theorem stk_w {f n g : Nat} (h1 : f ≤ g) (h2 : g < f + n) : stkN N f n (127 + 13 * g + 2) = 1 := by
  unfold stkN
  rw [if_pos (by omega)]
theorem stk_m {f n : Nat} (hc : nAc N ≤ 10) : stkN N f n (9 + 9 * (nAc N - 1) + 3) = N (9 + 9 * (nAc N - 1) + 3) + 1 := by
  unfold stkN
  rw [if_neg (by omega), if_pos (by omega)]
theorem stk_s {f n : Nat} (hw : WFN N) (hf : f + n ≤ nWd N) : SM N (stkN N f n) := by
  have hb := w1_b hw.1
  exact ⟨fun k hk => stk_o (by omega) (by omega), fun a ha k hk => stk_o (by omega) (by omega), fun g hg => stk_o (by omega) (by omega), fun j hj => stk_o (by omega) (by omega)⟩
theorem stk_wf {f n : Nat} (hw : WFN N) (hf : f + n ≤ nWd N) : WFN (stkN N f n) := by
  have hb := w1_b hw.1
  have s := stk_s (f := f) (n := n) hw hf
  have sn := sm_n s
  have e6 : stkN N f n 6 = N 6 := stk_o (by omega) (by omega)
  have h12 := nlv_12 hw.1
  refine ⟨sm_1 s hw.1 ((isN_eq e6).mpr hw.1.2.2.2.2.2.2), sm_2 s hw.2.1 (fun a ha => ?_), sm_3 s hw.1 hw.2.1 hw.2.2.1, ?_, ?_, ?_⟩
  · have e : stkN N f n (9 + 9 * a + 1) = N (9 + 9 * a + 1) := stk_o (by omega) (by omega)
    have w := hw.2.1.2 a ha
    refine ⟨(isN_eq e).mpr w.1.2, fun q => ?_⟩
    rw [show nv (stkN N f n) (9 + 9 * a + 1) = nv N (9 + 9 * a + 1) from congrArg Int32.toNatClampNeg e]
    exact (w.2.2.2.2.1 q).2.2
  · intro g hg
    rw [sn.2.2.1] at hg
    have w := hw.2.2.2.1 g hg
    refine ⟨(isN_eq (stk_o (by omega) (by omega))).mpr w.1, ?_⟩
    by_cases q : f ≤ g ∧ g < f + n
    · exact Or.inr (stk_w q.1 q.2)
    · rw [stk_o (by omega) (by omega)]
      exact w.2
  · intro l hl
    rw [sn.2.2.2.2.1] at hl
    exact (isN_eq (stk_o (by omega) (by omega))).mpr (hw.2.2.2.2.1 l hl)
  · intro c hc
    rw [show nCp (stkN N f n) = nCp N from congrArg Int32.toNatClampNeg e6] at hc
    obtain ⟨w1, w2, w3, w4⟩ := hw.2.2.2.2.2 c hc
    have e0 : stkN N f n (111 + 2 * c) = N (111 + 2 * c) := stk_o (by omega) (by omega)
    rw [show oO (stkN N f n) c = oO N c from congrArg Int32.toNatClampNeg e0, sn.2.1]
    exact ⟨(isN_eq e0).mpr w1, w2, (isN_eq (stk_o (by omega) (by omega))).mpr w3, by rw [stk_o (by omega) (by omega)]; exact w4⟩
theorem stk_rb {f n : Nat} (hw : WFN N) (q : isO N) (h1 : aF N (nAc N - 1) ≤ f) (h2 : f + n ≤ aF N (nAc N - 1) + aM N (nAc N - 1)) (r : RB G J b N) {G2 : Nat → Nat → Int32} (g7 : G2 (b + 7) = stfG f n (G (b + 7))) (ga : G2 (b + 15 + (nAc N - 1)) = u1 (G (b + 15 + (nAc N - 1))) 4 (G (b + 15 + (nAc N - 1)) 4 + 1)) (go : ∀ a, a ≠ b + 7 → a ≠ b + 15 + (nAc N - 1) → G2 a = G a) : RB G2 J b (stkN N f n) := by
  have hb := w1_b hw.1
  have hl := act_le hw.1 hw.2.1 (a := nAc N - 1) (by have := q.1; omega)
  have s := stk_s (f := f) (n := n) hw (by omega)
  have sn := sm_n s
  have sc := sm_c s
  have e6 : stkN N f n 6 = N 6 := stk_o (by omega) (by omega)
  have h12 := nlv_12 hw.1
  obtain ⟨⟨a1, a2, a3, a4, a5, a6, a7, a8, a9, a10, a11⟩, ⟨b1, b2⟩, c1⟩ := r
  refine ⟨⟨?_, ?_, ?_, ?_, ?_, ?_, ?_, ?_, ?_, fun a ha => ?_, fun l hn => ?_⟩, ⟨fun g hn => ?_, fun a ha g q1 q2 => ?_⟩, ?_⟩
  · rw [go b (by omega) (by omega), s.1 0 (by decide)]
    exact a1
  · rw [go b (by omega) (by omega), s.1 1 (by decide)]
    exact a2
  · rw [go b (by omega) (by omega), s.1 3 (by decide)]
    exact a3
  · rw [go b (by omega) (by omega), e6]
    exact a4
  · rw [go b (by omega) (by omega), stk_o (by omega) (by omega)]
    exact a5
  · rw [go b (by omega) (by omega), stk_o (by omega) (by omega)]
    exact a6
  · rw [go (b + 3) (by omega) (by omega), s.1 4 (by decide)]
    exact a7
  · rw [go (b + 10) (by omega) (by omega), s.1 2 (by decide)]
    exact a8
  · rw [go (b + 10) (by omega) (by omega), sn.2.2.2.2.1]
    exact a9
  · rw [sn.2.1] at ha
    obtain ⟨r0, r1, r2, r3, r4, r5, r6, r7⟩ := a10 a ha
    have e1 : stkN N f n (9 + 9 * a + 1) = N (9 + 9 * a + 1) := stk_o (by omega) (by omega)
    have e2 : stkN N f n (9 + 9 * a + 2) = N (9 + 9 * a + 2) := stk_o (by omega) (by omega)
    have e4 : stkN N f n (9 + 9 * a + 4) = N (9 + 9 * a + 4) := stk_o (by omega) (by omega)
    rw [show stkN N f n (9 + 9 * a) = N (9 + 9 * a) from s.2.1 a ha 0 (by omega), e1, e2, s.2.1 a ha 5 (by omega), s.2.1 a ha 6 (by omega), e4]
    by_cases z : a = nAc N - 1
    · have e3 := stk_m (N := N) (f := f) (n := n) (by omega)
      rw [z] at r0 r1 r2 r3 r4 r5 r6 r7 ⊢
      rw [ga, e3, u1_k (by decide), u1_k (by decide), u1_k (by decide), u1_k (by decide), u1_e, u1_k (by decide), u1_k (by decide), u1_k (by decide), r4]
      exact ⟨r0, r1, r2, r3, rfl, r5, r6, r7⟩
    · have e3 : stkN N f n (9 + 9 * a + 3) = N (9 + 9 * a + 3) := stk_o (by omega) (by omega)
      rw [go _ (by omega) (by omega), e3]
      exact ⟨r0, r1, r2, r3, r4, r5, r6, r7⟩
  · rw [sn.2.2.2.2.1] at hn
    rw [go (b + 11) (by omega) (by omega), stk_o (by omega) (by omega)]
    exact a11 l hn
  · rw [sn.2.2.1] at hn
    obtain ⟨t1, t2, t3, t4⟩ := b1 g hn
    have hbb : wN' N g < 5 := (hw.2.2.2.1 g hn).1.2
    have e0 : stkN N f n (127 + 13 * g) = N (127 + 13 * g) := stk_o (by omega) (by omega)
    have e1 : stkN N f n (127 + 13 * g + 1) = N (127 + 13 * g + 1) := stk_o (by omega) (by omega)
    have e4 : stkN N f n (127 + 13 * g + 4) = N (127 + 13 * g + 4) := stk_o (by omega) (by omega)
    rw [e0, e1, e4, show wN' (stkN N f n) g = wN' N g from congrArg Int32.toNatClampNeg e4, g7, go (b + 8) (by omega) (by omega)]
    refine ⟨t1, ?_, t3, fun j hj => ?_⟩
    · unfold stfG
      by_cases z : f ≤ g ∧ g < f + n
      · rw [if_pos z, stk_w z.1 z.2]
      · rw [if_neg z, stk_o (by omega) (by omega)]
        exact t2
    · have hj4 : j < 4 := by omega
      rw [stk_o (by omega) (by omega), stk_o (by omega) (by omega)]
      exact t4 j hj
  · rw [sn.2.1] at ha
    have e := sm_a s ha
    rw [e.1] at q1 q2
    rw [e.2.1] at q2
    rw [sc.1, sc.2.1, e.2.2.1, e.2.2.2, go (b + 5) (by omega) (by omega), go (b + 6) (by omega) (by omega)]
    exact b2 a ha g q1 q2
  · refine rc_cg s hw (fun c hc => ⟨stk_o (by omega) (by omega), stk_o (by omega) (by omega), fun k _ => by rw [go _ (by omega) (by omega)], fun g q1 q2 => ?_⟩) (congrArg Int32.toNatClampNeg e6) c1
    have ho := cp_no hw q hc
    have ap := act_ap hw.1 hw.2.1 (a := oO N c) (c := nAc N - 1) (by omega) (by omega)
    exact ⟨stk_o (by omega) (by omega), stk_o (by omega) (by omega)⟩
/-- the class strikes words -/
theorem c_strikeFrom (h : BK σ b) (w1 : W1 N) (r : RB G J b N) {f n : Nat} (hf : f + n ≤ nWd N) : fX8_strikeFrom (some (b + 3)) (nI f) (nI n) (wc σ G J) = some (nI (cntN (fun k => skN N (f + k)) n), wc σ (cw G (b + 7) (stfG f n (G (b + 7)))) J) := by
  have hb := w1_b w1
  have hs := bk_S h
  unfold fX8_strikeFrom
  have key := lpS_f (f := fX8_strikeFrom_l1 (some (b + 3)) (nI f) (nI n) (nI (cntN (fun k => skN N (f + k)) n))) (a := nI f) (σ := wc σ G J) (r := ()) n (fun k => nI (f + k)) (fun k => wc σ (cw G (b + 7) (stfG f k (G (b + 7)))) J) rfl (by
    show wc σ (cw G (b + 7) (stfG f 0 (G (b + 7)))) J = wc σ G J
    rw [show stfG f 0 (G (b + 7)) = G (b + 7) from funext fun j => if_neg (by omega), cw_self]) (by omega) (fun k hk => by
    unfold fX8_strikeFrom_l1
    rw [nI_add, if_neg (show ¬ nI (f + n) ≤ nI (f + k) from nI_ge (by omega) (by omega)), sk_r4 hs, bnP_1, sk_s4 hs (by omega), bnP_1, nI_a1]
    have e : up (cw G (b + 7) (stfG f k (G (b + 7)))) (b + 3 + 4) (f + k) (vp_nar .boolean 1) = cw G (b + 7) (stfG f (k + 1) (G (b + 7))) := by
      rw [show b + 3 + 4 = b + 7 from rfl, up_cw]
      congr 1
      funext j
      unfold stfG u1
      by_cases z : j = f + k
      · rw [if_pos z, if_pos (by omega)]
        rfl
      · rw [if_neg z]
        dsimp only
        by_cases z2 : f ≤ j ∧ j < f + k
        · rw [if_pos z2, if_pos (by omega)]
        · rw [if_neg z2, if_neg (by omega)]
    rw [e]
    rfl) (by
    unfold fX8_strikeFrom_l1
    rw [nI_add, if_pos (show nI (f + n) ≤ nI (f + n) from nI_le (Nat.le_refl _) (by omega))])
  rw [sk_o hs, bnP_1, c_unstruck h w1 r hf, bnP_1, key, bnS_1]
end STK
