/-! THE PURE LEVEL, 43: SEAL, CANCEL -/
/-- the open act's status, page and fee told, and cash with it -/
def sealN (N : Nat → Int32) (s p fe d : Int32) : Nat → Int32 := fun j => if j = 10 + 9 * (nAc N - 1) then s else if j = 11 + 9 * (nAc N - 1) then p else if j = 13 + 9 * (nAc N - 1) then fe else if j = 7 then N j + d else N j
section SLN
variable {σ : HpT} {G G1 G2 : Nat → Nat → Int32} {J : Nat → Nat → Int64} {b bs ps tx : Nat} {P : Nat → Option Nat} {E : tE} {I T : tI} {N : Nat → Int32} {U : tU} {V : tV} {s p fe d : Int32}
theorem sl_o {j : Nat} (h1 : j ≠ 10 + 9 * (nAc N - 1)) (h2 : j ≠ 11 + 9 * (nAc N - 1)) (h3 : j ≠ 13 + 9 * (nAc N - 1)) (h4 : j ≠ 7) : sealN N s p fe d j = N j := by
  unfold sealN
  rw [if_neg h1, if_neg h2, if_neg h3, if_neg h4]
theorem sl_s (hw : WFN N) : SM N (sealN N s p fe d) := by
  have hb := w1_b hw.1
  exact ⟨fun k hk => sl_o (by omega) (by omega) (by omega) (by omega), fun a ha k hk => sl_o (by omega) (by omega) (by omega) (by omega), fun g hg => sl_o (by omega) (by omega) (by omega) (by omega), fun j hj => sl_o (by omega) (by omega) (by omega) (by omega)⟩
theorem sl_wf (hw : WFN N) (q : isO N) (hs : s = 1 ∨ s = 2) : WFN (sealN N s p fe d) := by
  have hb := w1_b hw.1
  have sm := sl_s (s := s) (p := p) (fe := fe) (d := d) hw
  have sn := sm_n sm
  have e6 : sealN N s p fe d 6 = N 6 := sl_o (by omega) (by omega) (by omega) (by omega)
  have h12 := nlv_12 hw.1
  refine ⟨sm_1 sm hw.1 ((isN_eq e6).mpr hw.1.2.2.2.2.2.2), sm_2 sm hw.2.1 (fun a ha => ?_), sm_3 sm hw.1 hw.2.1 hw.2.2.1, ?_, ?_, ?_⟩
  · by_cases z : a = nAc N - 1
    · have e : sealN N s p fe d (9 + 9 * a + 1) = s := by
        unfold sealN
        rw [if_pos (by omega)]
      refine ⟨?_, fun q2 => absurd q2 (by have := q.1; omega)⟩
      rcases hs with rfl | rfl
      · exact (isN_of (n := 1) e (by decide) (by decide)).1
      · exact (isN_of (n := 2) e (by decide) (by decide)).1
    · have e : sealN N s p fe d (9 + 9 * a + 1) = N (9 + 9 * a + 1) := sl_o (by omega) (by omega) (by omega) (by omega)
      have w := hw.2.1.2 a ha
      refine ⟨(isN_eq e).mpr w.1.2, fun q => ?_⟩
      rw [show nv (sealN N s p fe d) (9 + 9 * a + 1) = nv N (9 + 9 * a + 1) from congrArg Int32.toNatClampNeg e]
      exact (w.2.2.2.2.1 q).2.2
  · intro g hg
    rw [sn.2.2.1] at hg
    have w := hw.2.2.2.1 g hg
    exact ⟨(isN_eq (sl_o (by omega) (by omega) (by omega) (by omega))).mpr w.1, by rw [sl_o (by omega) (by omega) (by omega) (by omega)]; exact w.2⟩
  · intro l hl
    rw [sn.2.2.2.2.1] at hl
    exact (isN_eq (sl_o (by omega) (by omega) (by omega) (by omega))).mpr (hw.2.2.2.2.1 l hl)
  · intro c hc
    rw [show nCp (sealN N s p fe d) = nCp N from congrArg Int32.toNatClampNeg e6] at hc
    obtain ⟨w1, w2, w3, w4⟩ := hw.2.2.2.2.2 c hc
    have ho := cp_no hw q hc
    have e0 : sealN N s p fe d (111 + 2 * c) = N (111 + 2 * c) := sl_o (by omega) (by omega) (by omega) (by omega)
    rw [show oO (sealN N s p fe d) c = oO N c from congrArg Int32.toNatClampNeg e0, sn.2.1]
    exact ⟨(isN_eq e0).mpr w1, w2, (isN_eq (sl_o (by omega) (by omega) (by omega) (by omega))).mpr w3, by rw [sl_o (by omega) (by omega) (by omega) (by omega)]; exact w4⟩
theorem sl_rb (hw : WFN N) (q : isO N) (r : RB G J b N) (gb : ∀ k, k < 6 → k ≠ 4 → G2 b k = G b k) (g4 : G2 b 4 = G b 4 + d) (ga : ∀ k, k = 0 ∨ k = 1 ∨ k = 4 ∨ k = 5 ∨ k = 6 → G2 (b + 15 + (nAc N - 1)) k = G (b + 15 + (nAc N - 1)) k) (h2 : G2 (b + 15 + (nAc N - 1)) 2 = s) (h3 : G2 (b + 15 + (nAc N - 1)) 3 = p) (h7 : G2 (b + 15 + (nAc N - 1)) 7 = fe) (go : ∀ a, a ≠ b → a ≠ b + 15 + (nAc N - 1) → G2 a = G a) : RB G2 J b (sealN N s p fe d) := by
  have hb := w1_b hw.1
  have hp := q.1
  have sm := sl_s (s := s) (p := p) (fe := fe) (d := d) hw
  have sn := sm_n sm
  have sc := sm_c sm
  have e6 : sealN N s p fe d 6 = N 6 := sl_o (by omega) (by omega) (by omega) (by omega)
  have h12 := nlv_12 hw.1
  obtain ⟨⟨a1, a2, a3, a4, a5, a6, a7, a8, a9, a10, a11⟩, ⟨b1, b2⟩, c1⟩ := r
  refine ⟨⟨?_, ?_, ?_, ?_, ?_, ?_, ?_, ?_, ?_, fun a ha => ?_, fun l hn => ?_⟩, ⟨fun g hn => ?_, fun a ha g q1 q2 => ?_⟩, ?_⟩
  · rw [gb 0 (by omega) (by omega), sm.1 0 (by decide)]
    exact a1
  · rw [gb 1 (by omega) (by omega), sm.1 1 (by decide)]
    exact a2
  · rw [gb 2 (by omega) (by omega), sm.1 3 (by decide)]
    exact a3
  · rw [gb 3 (by omega) (by omega), e6]
    exact a4
  · rw [g4, a5]
    unfold sealN
    rw [if_neg (by omega), if_neg (by omega), if_neg (by omega), if_pos rfl]
  · rw [gb 5 (by omega) (by omega), sl_o (by omega) (by omega) (by omega) (by omega)]
    exact a6
  · rw [go (b + 3) (by omega) (by omega), sm.1 4 (by decide)]
    exact a7
  · rw [go (b + 10) (by omega) (by omega), sm.1 2 (by decide)]
    exact a8
  · rw [go (b + 10) (by omega) (by omega), sn.2.2.2.2.1]
    exact a9
  · rw [sn.2.1] at ha
    obtain ⟨r0, r1, r2, r3, r4, r5, r6, r7⟩ := a10 a ha
    have e3 : sealN N s p fe d (9 + 9 * a + 3) = N (9 + 9 * a + 3) := sl_o (by omega) (by omega) (by omega) (by omega)
    rw [show sealN N s p fe d (9 + 9 * a) = N (9 + 9 * a) from sm.2.1 a ha 0 (by omega), e3, sm.2.1 a ha 5 (by omega), sm.2.1 a ha 6 (by omega)]
    by_cases z : a = nAc N - 1
    · have e1 : sealN N s p fe d (9 + 9 * a + 1) = s := by
        unfold sealN
        rw [if_pos (by omega)]
      have e2 : sealN N s p fe d (9 + 9 * a + 2) = p := by
        unfold sealN
        rw [if_neg (by omega), if_pos (by omega)]
      have e4 : sealN N s p fe d (9 + 9 * a + 4) = fe := by
        unfold sealN
        rw [if_neg (by omega), if_neg (by omega), if_pos (by omega)]
      rw [e1, e2, e4]
      rw [z] at r0 r1 r2 r3 r4 r5 r6 r7 ⊢
      rw [ga 0 (by omega), ga 1 (by omega), ga 4 (by omega), ga 5 (by omega), ga 6 (by omega)]
      exact ⟨r0, r1, h2, h3, r4, r5, r6, h7⟩
    · have e1 : sealN N s p fe d (9 + 9 * a + 1) = N (9 + 9 * a + 1) := sl_o (by omega) (by omega) (by omega) (by omega)
      have e2 : sealN N s p fe d (9 + 9 * a + 2) = N (9 + 9 * a + 2) := sl_o (by omega) (by omega) (by omega) (by omega)
      have e4 : sealN N s p fe d (9 + 9 * a + 4) = N (9 + 9 * a + 4) := sl_o (by omega) (by omega) (by omega) (by omega)
      rw [go _ (by omega) (by omega), e1, e2, e4]
      exact ⟨r0, r1, r2, r3, r4, r5, r6, r7⟩
  · rw [sn.2.2.2.2.1] at hn
    rw [go (b + 11) (by omega) (by omega), sl_o (by omega) (by omega) (by omega) (by omega)]
    exact a11 l hn
  · rw [sn.2.2.1] at hn
    obtain ⟨t1, t2, t3, t4⟩ := b1 g hn
    have e0 : sealN N s p fe d (127 + 13 * g) = N (127 + 13 * g) := sl_o (by omega) (by omega) (by omega) (by omega)
    have e1 : sealN N s p fe d (127 + 13 * g + 1) = N (127 + 13 * g + 1) := sl_o (by omega) (by omega) (by omega) (by omega)
    have e2 : sealN N s p fe d (127 + 13 * g + 2) = N (127 + 13 * g + 2) := sl_o (by omega) (by omega) (by omega) (by omega)
    have e4 : sealN N s p fe d (127 + 13 * g + 4) = N (127 + 13 * g + 4) := sl_o (by omega) (by omega) (by omega) (by omega)
    rw [e0, e1, e2, e4, show wN' (sealN N s p fe d) g = wN' N g from congrArg Int32.toNatClampNeg e4, go (b + 7) (by omega) (by omega), go (b + 8) (by omega) (by omega)]
    refine ⟨t1, t2, t3, fun j hj => ?_⟩
    rw [sl_o (by omega) (by omega) (by omega) (by omega), sl_o (by omega) (by omega) (by omega) (by omega)]
    exact t4 j hj
  · rw [sn.2.1] at ha
    have e := sm_a sm ha
    rw [e.1] at q1 q2
    rw [e.2.1] at q2
    rw [sc.1, sc.2.1, e.2.2.1, e.2.2.2, go (b + 5) (by omega) (by omega), go (b + 6) (by omega) (by omega)]
    exact b2 a ha g q1 q2
  · refine rc_cg sm hw (fun c hc => ⟨sl_o (by omega) (by omega) (by omega) (by omega), sl_o (by omega) (by omega) (by omega) (by omega), fun k _ => by rw [go _ (by omega) (by omega)], fun g q1 q2 => ⟨sl_o (by omega) (by omega) (by omega) (by omega), sl_o (by omega) (by omega) (by omega) (by omega)⟩⟩) (congrArg Int32.toNatClampNeg e6) c1
/-- a change with two refusals -/
theorem chg2 {C : AT Int32} {M : HpT → Option (Int32 × HpT)} {g : Nat → HpT → AT Int32} {K : HpT → (Nat → Nat → Int32) → Option (Int32 × HpT)} (q : Bool) (hC : CR σ G J b bs ps P tx E I N U V T) (hM : MR σ G E I N U V T) (hA : AW E I N U V T) (hD : DK σ)
    (hg0 : ∀ S, g 0 S = some (.ok 1, S, 0, 0)) (hg2 : ∀ S, g 2 S = some (.ok 2, S, 0, 0))
    (hc0 : E.1 = 0 → C = some (.error 0, wc σ G J, 1, 6)) (hc2 : E.1 ≠ 0 → q = false → C = some (.error 2, wc σ G J, 1, 6))
    (ms : ∀ S G1, MR S G1 E I N U V T → M (wi S G1) = if (decide (E.1 ≠ 0) && q) = true then K S G1 else some (0, wi S (up G1 80 0 (thr (decide (E.1 ≠ 0)) q true))))
    (hs : E.1 ≠ 0 → q = true → STEP σ (bnO (bnC C (fun x1 s2 => bnP (sJ s2 (some 89) 0 x1.toInt64) (fun s11 => some (.ok 0, s11, 0, 0))) g) (fun x3 s5 => bnS (M s5) (fun x12 s14 => bnP (fX10_thrown (some 80) s14) (fun x15 => (if x15 = x3 then (if x3 = 0 then bnP (aJ s14 (some 89) 0) (fun x17 => (if (lg_cmp x17 ((x12).toInt64)) = 0 then some (.ok (), s14, 0, 0) else none)) else some (.ok (), s14, 0, 0)) else none)))))) :
    STEP σ (bnO (bnC C (fun x1 s2 => bnP (sJ s2 (some 89) 0 x1.toInt64) (fun s11 => some (.ok 0, s11, 0, 0))) g) (fun x3 s5 => bnS (M s5) (fun x12 s14 => bnP (fX10_thrown (some 80) s14) (fun x15 => (if x15 = x3 then (if x3 = 0 then bnP (aJ s14 (some 89) 0) (fun x17 => (if (lg_cmp x17 ((x12).toInt64)) = 0 then some (.ok (), s14, 0, 0) else none)) else some (.ok (), s14, 0, 0)) else none))))) := by
  by_cases qE : E.1 = 0
  · refine chg_err (r := .error 0) (t := thr (decide (E.1 ≠ 0)) q true) (i := 1) (j := 6) hC hM hA hD (qg_rf P G) (hc0 qE) (fun J' => ?_) ?_ (by decide) (by decide)
    · have := ms (wc σ G J') G hM
      rw [decide_eq_false (fun e => e qE), Bool.false_and, if_neg (by decide)] at this
      rw [decide_eq_false (fun e => e qE)]
      exact this
    · rw [decide_eq_false (fun e => e qE)]
      exact ⟨show (1 : Int32) ≠ 0 by decide, hg0 _⟩
  · cases z : q with
    | true =>
      subst z
      exact hs qE rfl
    | false =>
      subst z
      refine chg_err (r := .error 2) (t := thr (decide (E.1 ≠ 0)) false true) (i := 1) (j := 6) hC hM hA hD (qg_rf P G) (hc2 qE rfl) (fun J' => ?_) ?_ (by decide) (by decide)
      · have := ms (wc σ G J') G hM
        rw [Bool.and_false, if_neg (by decide)] at this
        exact this
      · rw [decide_eq_true qE]
        exact ⟨show (2 : Int32) ≠ 0 by decide, hg2 _⟩
def isOb (N : Nat → Int32) : Bool := decide (0 < nAc N ∧ N (9 + 9 * (nAc N - 1) + 1) = 0)
theorem isOb_t (h : isOb N = true) : isO N := (decide_eq_true_iff (p := 0 < nAc N ∧ N (9 + 9 * (nAc N - 1) + 1) = 0)).mp h
theorem isOb_f (h : isOb N = false) : ¬ isO N := (decide_eq_false_iff_not (p := 0 < nAc N ∧ N (9 + 9 * (nAc N - 1) + 1) = 0)).mp h
theorem isOb_1 (h : isO N) : isOb N = true := decide_eq_true h
theorem isOb_0 (h : ¬ isO N) : isOb N = false := decide_eq_false h
/-- case 42: CANCEL -/
theorem sc42 (hC : CR σ G J b bs ps P tx E I N U V T) (hM : MR σ G E I N U V T) (hA : AW E I N U V T) (hD : DK σ) (hb : hN σ + 40 < BIG) {Lx : Nat} {xs : Nat → Int32} {v5 : Int32} (v4 : Option Nat) : STEP σ (fL_c42 Lx xs (some 0) (some 80) (some 89) v4 v5 (wc σ G J)) := by
  have lo := lo_of hC hM hA hD
  have e4 := hC.2.1.1
  unfold fL_c42 fL_cancel
  have hwr : E.1 ≠ 0 → WFN N ∧ RB G J b N := fun q => ⟨hA.2.1 q, hC.2.2.2.1 q⟩
  have ms : ∀ S G1, MR S G1 E I N U V T → fX10_cancel (some 80) (wi S G1) = if (decide (E.1 ≠ 0) && isOb N) = true then bnP (fX10_remembers (some 80) (wi S (up G1 80 0 0))) (fun s17 => bnP (fX10_openAct (some 80) s17) (fun x18 => bnP (fX10_putsAct (some 80) x18 1 2 s17) (fun s22 => bnP (gR s22 (some 80) 10 1) (fun x23 => bnP (aI s22 x23 20 3) (fun x25 => some (x25, s22)))))) else some (0, wi S (up G1 80 0 (thr (decide (E.1 ≠ 0)) (isOb N) true))) := by
    intro S G1 hM1
    have mk := hM1.1
    have f6 := hM1.2.1.1
    have f81 := hM1.2.2.2.1.1
    unfold fX10_cancel
    rw [mk_o mk, bnP_1, mk_I mk, bnP_1, bnP_1]
    have hj : (if G1 80 6 = 0 then some ((some 80 : Option Nat), G1 80 6, (0 : Int32)) else bnP (fX10_openAct (some 80) (wi S G1)) (fun x10 => (if x10 = (-1) then some (some 80, G1 80 6, 0) else some (some 80, G1 80 6, 1)))) = some (some 80, G1 80 6, bI (decide (G1 80 6 ≠ 0) && isOb N)) := by
      by_cases q : G1 80 6 = 0
      · rw [if_pos q, decide_eq_false (fun e => e q)]
        rfl
      · have hw := hA.2.1 (by rw [← f6]; exact q)
        have hb := w1_b hw.1
        rw [if_neg q, decide_eq_true q]
        by_cases z : isO N
        · rw [m_openAct1 mk (by rw [show G1 (80 + 1) = N from f81]; exact hw.1) (by rw [show G1 (80 + 1) = N from f81]; exact z), bnP_1, if_neg (show ¬ nI (nAc (G1 (80 + 1)) - 1) = -1 from nI_nO (by rw [show G1 (80 + 1) = N from f81]; omega)), isOb_1 z]
          rfl
        · rw [m_openAct0 mk (by rw [show G1 (80 + 1) = N from f81]; exact hw.1) (by rw [show G1 (80 + 1) = N from f81]; exact z), bnP_1, if_pos (show nO = -1 from rfl), isOb_0 z]
          rfl
    rw [hj, bnP_1]
    dsimp only
    rw [m_may2 mk (by rw [f6]; exact hA.1.1), bnS_1, f6, thr_pq]
    cases e0 : decide (E.1 ≠ 0)
    · rfl
    · cases e1 : isOb N
      · rfl
      · rfl
  refine chg2 (K := fun S G1 => bnP (fX10_remembers (some 80) (wi S (up G1 80 0 0))) (fun s17 => bnP (fX10_openAct (some 80) s17) (fun x18 => bnP (fX10_putsAct (some 80) x18 1 2 s17) (fun s22 => bnP (gR s22 (some 80) 10 1) (fun x23 => bnP (aI s22 x23 20 3) (fun x25 => some (x25, s22))))))) (isOb N) hC hM hA hD (fun S => rfl) (fun S => rfl) ?_ ?_ ms ?_
  · intro qE
    unfold fX9_cancel
    rw [nk_o lo.1, bnP_1, c_requireBook lo.1, if_pos (by rw [e4]; exact qE), bnXA_e]
  · intro qE z
    obtain ⟨hw, r⟩ := hwr qE
    unfold fX9_cancel
    rw [nk_o lo.1, bnP_1, c_requireBook lo.1, if_neg (by rw [e4]; exact qE), bnXA_1, nk_b lo.1, bnP_1, c_openAct0 (nk_B lo.1) hw.1 r (isOb_f z), bnP_1, if_pos rfl]
  · intro qE z
    have q := isOb_t z
    obtain ⟨hw, r⟩ := hwr qE
    have hbb := w1_b hw.1
    have hp := q.1
    have B := nk_B lo.1
    refine chg (x := N 3) (N' := sealN N 2 (N (11 + 9 * (nAc N - 1))) (N (13 + 9 * (nAc N - 1))) 0) false hC hM hA hD qE hb (sl_wf hw q (Or.inr rfl)) (fun j hj => ?_) ?_ ?_
    · rw [sl_o (by omega) (by omega) (by omega) (by omega)]
      exact hM.2.2.2.1.2 j hj
    · intro σ' G' J' ps' P' ii jj eR hC'
      have nk' := cr_nk hC'
      have B' := nk_B nk'
      have r' := hC'.2.2.2.1 qE
      have hr := rb_act r' (a := nAc N - 1) (by omega)
      refine ⟨up G' (b + 15 + (nAc N - 1)) 2 2, J', ?_, fun a ha => ?_, fun a _ => rfl, sl_rb hw q r' (fun k _ _ => by rw [up_a (by omega)]) (by rw [up_a (by omega), Int32.add_zero]) (fun k hk => up_k (by omega)) (up_eq _ _ _ _) ?_ ?_ (fun a _ h => up_a h)⟩
      · unfold fX9_cancel fX1_cancelOpen
        rw [nk_o lo.1, bnP_1, c_requireBook lo.1, if_neg (by rw [e4]; exact qE), bnXA_1, nk_b lo.1, bnP_1, c_openAct1 B hw.1 r q, bnP_1, if_neg (fun e => by cases e), eR, bnA_ok, nk_b nk', bnP_1, bk_o B', bnP_1, c_openAct1 B' hw.1 r' q, bnP_1, if_neg (fun e => by cases e), bk_aP B' (by omega), bnP_1, bnP_1, nk_b nk', bnP_1, bk_I B', bnP_1, up_a (by omega), r'.1.2.2.1, addC_1]
        rfl
      · rw [up_a (by omega)]
        rfl
      · rw [up_k (by decide), hr.2.2.2.1]
        congr 1
        omega
      · rw [up_k (by decide), hr.2.2.2.2.2.2.2]
        congr 1
        omega
    · intro S G1 G1' hM1 eR e81 _ _
      have mk := hM1.1
      rw [ms S G1 hM1, decide_eq_true qE, z, if_pos (show (true && true) = true from rfl), eR, bnP_1, m_openAct1 mk (by rw [show G1' (80 + 1) = N from e81]; exact hw.1) (by rw [show G1' (80 + 1) = N from e81]; exact q), bnP_1, show G1' (80 + 1) = N from e81, show fX10_putsAct (some 80) (nI (nAc N - 1)) 1 2 (wi S G1') = _ from m_putsAct mk (nAc N - 1) 1 2 (by omega), bnP_1, mk_r1 mk, bnP_1, show aI (wi S (up G1' (80 + 1) (9 + 9 * (nAc N - 1) + 1) 2)) (some (80 + 1)) 20 3 = _ from mk_a1 mk (n := 3) (by decide), bnP_1, up_k (by omega), show G1' (80 + 1) = N from e81]
      congr 3
      rw [show (80 + 1 : Nat) = 81 from rfl, up_is, e81]
      show cw G1' 81 _ = cw G1' 81 _
      congr 1
      funext j
      unfold u1 sealN
      by_cases z1 : j = 9 + 9 * (nAc N - 1) + 1
      · rw [if_pos z1, if_pos (by omega)]
      · rw [if_neg z1, if_neg (by omega)]
        by_cases z2 : j = 11 + 9 * (nAc N - 1)
        · rw [if_pos z2, z2]
        · rw [if_neg z2]
          by_cases z3 : j = 13 + 9 * (nAc N - 1)
          · rw [if_pos z3, z3]
          · rw [if_neg z3, Int32.add_zero, ite_self]
end SLN
