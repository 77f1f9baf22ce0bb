/-! THE PURE LEVEL, 43: SEAL, CANCEL -/
/-- the open act's status, page and fee told, and cash with it -/
def sealN (N : Nat → Int32) (s p fe d : Int32) : Nat → Int32 := fun j => if j = 10 + 9 * (nAc N - 1) then s else if j = 11 + 9 * (nAc N - 1) then p else if j = 13 + 9 * (nAc N - 1) then fe else if j = 7 then N j + d else N j
section SLN
variable {σ : HpT} {G G1 G2 : Nat → Nat → Int32} {J : Nat → Nat → Int64} {b bs ps tx : Nat} {P : Nat → Option Nat} {E : tE} {I T : tI} {N : Nat → Int32} {U : tU} {V : tV} {s p fe d : Int32}
theorem sl_o {j : Nat} (h1 : j ≠ 10 + 9 * (nAc N - 1)) (h2 : j ≠ 11 + 9 * (nAc N - 1)) (h3 : j ≠ 13 + 9 * (nAc N - 1)) (h4 : j ≠ 7) : sealN N s p fe d j = N j := by
  unfold sealN
  rw [if_neg h1, if_neg h2, if_neg h3, if_neg h4]
theorem sl_s (hw : WFN N) : SM N (sealN N s p fe d) := by
  have hb := w1_b hw.1
  exact ⟨fun k hk => sl_o (by omega) (by omega) (by omega) (by omega), fun a ha k hk => sl_o (by omega) (by omega) (by omega) (by omega), fun g hg => sl_o (by omega) (by omega) (by omega) (by omega), fun j hj => sl_o (by omega) (by omega) (by omega) (by omega)⟩
theorem sl_wf (hw : WFN N) (q : isO N) (hs : s = 1 ∨ s = 2) : WFN (sealN N s p fe d) := by
  have hb := w1_b hw.1
  have sm := sl_s (s := s) (p := p) (fe := fe) (d := d) hw
  have sn := sm_n sm
  have e6 : sealN N s p fe d 6 = N 6 := sl_o (by omega) (by omega) (by omega) (by omega)
  have h12 := nlv_12 hw.1
  refine ⟨sm_1 sm hw.1 ((isN_eq e6).mpr hw.1.2.2.2.2.2.2), sm_2 sm hw.2.1 (fun a ha => ?_), sm_3 sm hw.1 hw.2.1 hw.2.2.1, ?_, ?_, ?_⟩
  · by_cases z : a = nAc N - 1
    · have e : sealN N s p fe d (9 + 9 * a + 1) = s := by
        unfold sealN
        rw [if_pos (by omega)]
      refine ⟨?_, fun q2 => absurd q2 (by have := q.1; omega)⟩
      rcases hs with rfl | rfl
      · exact (isN_of (n := 1) e (by decide) (by decide)).1
      · exact (isN_of (n := 2) e (by decide) (by decide)).1
    · have e : sealN N s p fe d (9 + 9 * a + 1) = N (9 + 9 * a + 1) := sl_o (by omega) (by omega) (by omega) (by omega)
      have w := hw.2.1.2 a ha
      refine ⟨(isN_eq e).mpr w.1.2, fun q => ?_⟩
      rw [show nv (sealN N s p fe d) (9 + 9 * a + 1) = nv N (9 + 9 * a + 1) from congrArg Int32.toNatClampNeg e]
      exact (w.2.2.2.2.1 q).2.2
  · intro g hg
    rw [sn.2.2.1] at hg
    have w := hw.2.2.2.1 g hg
    exact ⟨(isN_eq (sl_o (by omega) (by omega) (by omega) (by omega))).mpr w.1, by rw [sl_o (by omega) (by omega) (by omega) (by omega)]; exact w.2⟩
  · intro l hl
    rw [sn.2.2.2.2.1] at hl
    exact (isN_eq (sl_o (by omega) (by omega) (by omega) (by omega))).mpr (hw.2.2.2.2.1 l hl)
  · intro c hc
    rw [show nCp (sealN N s p fe d) = nCp N from congrArg Int32.toNatClampNeg e6] at hc
    obtain ⟨w1, w2, w3, w4⟩ := hw.2.2.2.2.2 c hc
    have ho := cp_no hw q hc
    have e0 : sealN N s p fe d (111 + 2 * c) = N (111 + 2 * c) := sl_o (by omega) (by omega) (by omega) (by omega)
    rw [show oO (sealN N s p fe d) c = oO N c from congrArg Int32.toNatClampNeg e0, sn.2.1]
    exact ⟨(isN_eq e0).mpr w1, w2, (isN_eq (sl_o (by omega) (by omega) (by omega) (by omega))).mpr w3, by rw [sl_o (by omega) (by omega) (by omega) (by omega)]; exact w4⟩
theorem sl_rb (hw : WFN N) (q : isO N) (r : RB G J b N) (gb : ∀ k, k < 6 → k ≠ 4 → G2 b k = G b k) (g4 : G2 b 4 = G b 4 + d) (ga : ∀ k, k = 0 ∨ k = 1 ∨ k = 4 ∨ k = 5 ∨ k = 6 → G2 (b + 15 + (nAc N - 1)) k = G (b + 15 + (nAc N - 1)) k) (h2 : G2 (b + 15 + (nAc N - 1)) 2 = s) (h3 : G2 (b + 15 + (nAc N - 1)) 3 = p) (h7 : G2 (b + 15 + (nAc N - 1)) 7 = fe) (go : ∀ a, a ≠ b → a ≠ b + 15 + (nAc N - 1) → G2 a = G a) : RB G2 J b (sealN N s p fe d) := by
  have hb := w1_b hw.1
  have hp := q.1
  have sm := sl_s (s := s) (p := p) (fe := fe) (d := d) hw
  have sn := sm_n sm
  have sc := sm_c sm
  have e6 : sealN N s p fe d 6 = N 6 := sl_o (by omega) (by omega) (by omega) (by omega)
  have h12 := nlv_12 hw.1
  obtain ⟨⟨a1, a2, a3, a4, a5, a6, a7, a8, a9, a10, a11⟩, ⟨b1, b2⟩, c1⟩ := r
  refine ⟨⟨?_, ?_, ?_, ?_, ?_, ?_, ?_, ?_, ?_, fun a ha => ?_, fun l hn => ?_⟩, ⟨fun g hn => ?_, fun a ha g q1 q2 => ?_⟩, ?_⟩
  · rw [gb 0 (by omega) (by omega), sm.1 0 (by decide)]
    exact a1
  · rw [gb 1 (by omega) (by omega), sm.1 1 (by decide)]
    exact a2
  · rw [gb 2 (by omega) (by omega), sm.1 3 (by decide)]
    exact a3
  · rw [gb 3 (by omega) (by omega), e6]
    exact a4
  · rw [g4, a5]
    unfold sealN
    rw [if_neg (by omega), if_neg (by omega), if_neg (by omega), if_pos rfl]
  · rw [gb 5 (by omega) (by omega), sl_o (by omega) (by omega) (by omega) (by omega)]
    exact a6
  · rw [go (b + 3) (by omega) (by omega), sm.1 4 (by decide)]
    exact a7
  · rw [go (b + 10) (by omega) (by omega), sm.1 2 (by decide)]
    exact a8
  · rw [go (b + 10) (by omega) (by omega), sn.2.2.2.2.1]
    exact a9
  · rw [sn.2.1] at ha
    obtain ⟨r0, r1, r2, r3, r4, r5, r6, r7⟩ := a10 a ha
    have e3 : sealN N s p fe d (9 + 9 * a + 3) = N (9 + 9 * a + 3) := sl_o (by omega) (by omega) (by omega) (by omega)
    rw [show sealN N s p fe d (9 + 9 * a) = N (9 + 9 * a) from sm.2.1 a ha 0 (by omega), e3, sm.2.1 a ha 5 (by omega), sm.2.1 a ha 6 (by omega)]
    by_cases z : a = nAc N - 1
    · have e1 : sealN N s p fe d (9 + 9 * a + 1) = s := by
        unfold sealN
        rw [if_pos (by omega)]
      have e2 : sealN N s p fe d (9 + 9 * a + 2) = p := by
        unfold sealN
        rw [if_neg (by omega), if_pos (by omega)]
      have e4 : sealN N s p fe d (9 + 9 * a + 4) = fe := by
        unfold sealN
        rw [if_neg (by omega), if_neg (by omega), if_pos (by omega)]
      rw [e1, e2, e4]
      rw [z] at r0 r1 r2 r3 r4 r5 r6 r7 ⊢
      rw [ga 0 (by omega), ga 1 (by omega), ga 4 (by omega), ga 5 (by omega), ga 6 (by omega)]
      exact ⟨r0, r1, h2, h3, r4, r5, r6, h7⟩
    · have e1 : sealN N s p fe d (9 + 9 * a + 1) = N (9 + 9 * a + 1) := sl_o (by omega) (by omega) (by omega) (by omega)
      have e2 : sealN N s p fe d (9 + 9 * a + 2) = N (9 + 9 * a + 2) := sl_o (by omega) (by omega) (by omega) (by omega)
      have e4 : sealN N s p fe d (9 + 9 * a + 4) = N (9 + 9 * a + 4) := sl_o (by omega) (by omega) (by omega) (by omega)
      rw [go _ (by omega) (by omega), e1, e2, e4]
      exact ⟨r0, r1, r2, r3, r4, r5, r6, r7⟩
  · rw [sn.2.2.2.2.1] at hn
    rw [go (b + 11) (by omega) (by omega), sl_o (by omega) (by omega) (by omega) (by omega)]
    exact a11 l hn
  · rw [sn.2.2.1] at hn
    obtain ⟨t1, t2, t3, t4⟩ := b1 g hn
    have e0 : sealN N s p fe d (127 + 13 * g) = N (127 + 13 * g) := sl_o (by omega) (by omega) (by omega) (by omega)
    have e1 : sealN N s p fe d (127 + 13 * g + 1) = N (127 + 13 * g + 1) := sl_o (by omega) (by omega) (by omega) (by omega)
    have e2 : sealN N s p fe d (127 + 13 * g + 2) = N (127 + 13 * g + 2) := sl_o (by omega) (by omega) (by omega) (by omega)
    have e4 : sealN N s p fe d (127 + 13 * g + 4) = N (127 + 13 * g + 4) := sl_o (by omega) (by omega) (by omega) (by omega)
    rw [e0, e1, e2, e4, show wN' (sealN N s p fe d) g = wN' N g from congrArg Int32.toNatClampNeg e4, go (b + 7) (by omega) (by omega), go (b + 8) (by omega) (by omega)]
    refine ⟨t1, t2, t3, fun j hj => ?_⟩
    rw [sl_o (by omega) (by omega) (by omega) (by omega), sl_o (by omega) (by omega) (by omega) (by omega)]
    exact t4 j hj
  · rw [sn.2.1] at ha
    have e := sm_a sm ha
    rw [e.1] at q1 q2
    rw [e.2.1] at q2
    rw [sc.1, sc.2.1, e.2.2.1, e.2.2.2, go (b + 5) (by omega) (by omega), go (b + 6) (by omega) (by omega)]
    exact b2 a ha g q1 q2
  · refine rc_cg sm hw (fun c hc => ⟨sl_o (by omega) (by omega) (by omega) (by omega), sl_o (by omega) (by omega) (by omega) (by omega), fun k _ => by rw [go _ (by omega) (by omega)], fun g q1 q2 => ⟨sl_o (by omega) (by omega) (by omega) (by omega), sl_o (by omega) (by omega) (by omega) (by omega)⟩⟩) (congrArg Int32.toNatClampNeg e6) c1
def isOb (N : Nat → Int32) : Bool := decide (0 < nAc N ∧ N (9 + 9 * (nAc N - 1) + 1) = 0)
theorem isOb_t (h : isOb N = true) : isO N := (decide_eq_true_iff (p := 0 < nAc N ∧ N (9 + 9 * (nAc N - 1) + 1) = 0)).mp h
theorem isOb_1 (h : isO N) : isOb N = true := decide_eq_true h
end SLN
