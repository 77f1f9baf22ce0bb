/-! THE PURE LEVEL, 49: a change with three refusals; case INTERLINE -/
section SC40
variable {σ : HpT} {G G1 G2 : Nat → Nat → Int32} {J J2 : Nat → Nat → Int64} {b bs ps tx : Nat} {P : Nat → Option Nat} {E : tE} {I T : tI} {N : Nat → Int32} {U : tU} {V : tV}
theorem chg3 {C : AT Int32} {M : HpT → Option (Int32 × HpT)} {g : Nat → HpT → AT Int32} {K : HpT → (Nat → Nat → Int32) → Option (Int32 × HpT)} {e1 e2 : Nat} (q r : Bool) (hC : CR σ G J b bs ps P tx E I N U V T) (hM : MR σ G E I N U V T) (hA : AW E I N U V T) (hD : DK σ)
    (hg0 : ∀ S, g 0 S = some (.ok 1, S, 0, 0)) (hg1 : ∀ S, g e1 S = some (.ok 2, S, 0, 0)) (hg2 : E.1 ≠ 0 → q = true → r = false → ∀ S, g e2 S = some (.ok 3, S, 0, 0))
    (hc0 : E.1 = 0 → C = some (.error 0, wc σ G J, 1, 6)) (hc1 : E.1 ≠ 0 → q = false → C = some (.error e1, wc σ G J, 1, 6)) (hc2 : E.1 ≠ 0 → q = true → r = false → ∃ G1, QG P G G1 ∧ C = some (.error e2, wc σ G1 J, 1, 6))
    (ms : ∀ S G1, MR S G1 E I N U V T → M (wi S G1) = if (decide (E.1 ≠ 0) && q && r) = true then K S G1 else some (0, wi S (up G1 80 0 (thr (decide (E.1 ≠ 0)) q r))))
    (hs : E.1 ≠ 0 → q = true → r = true → STEP σ (bnO (bnC C (fun x1 s2 => bnP (sJ s2 (some 89) 0 x1.toInt64) (fun s11 => some (.ok 0, s11, 0, 0))) g) (fun x3 s5 => bnS (M s5) (fun x12 s14 => bnP (fX10_thrown (some 80) s14) (fun x15 => (if x15 = x3 then (if x3 = 0 then bnP (aJ s14 (some 89) 0) (fun x17 => (if (lg_cmp x17 ((x12).toInt64)) = 0 then some (.ok (), s14, 0, 0) else none)) else some (.ok (), s14, 0, 0)) else none)))))) :
    STEP σ (bnO (bnC C (fun x1 s2 => bnP (sJ s2 (some 89) 0 x1.toInt64) (fun s11 => some (.ok 0, s11, 0, 0))) g) (fun x3 s5 => bnS (M s5) (fun x12 s14 => bnP (fX10_thrown (some 80) s14) (fun x15 => (if x15 = x3 then (if x3 = 0 then bnP (aJ s14 (some 89) 0) (fun x17 => (if (lg_cmp x17 ((x12).toInt64)) = 0 then some (.ok (), s14, 0, 0) else none)) else some (.ok (), s14, 0, 0)) else none))))) := by
  by_cases qE : E.1 = 0
  · refine chg_err (r := .error 0) (t := 1) (i := 1) (j := 6) hC hM hA hD (qg_rf P G) (hc0 qE) (fun J' => ?_) ⟨by decide, hg0 _⟩ (by decide) (by decide)
    have := ms (wc σ G J') G hM
    rw [decide_eq_false (fun e => e qE), Bool.false_and, Bool.false_and, if_neg (by decide)] at this
    exact this
  · cases z : q with
    | false =>
      subst z
      refine chg_err (r := .error e1) (t := 2) (i := 1) (j := 6) hC hM hA hD (qg_rf P G) (hc1 qE rfl) (fun J' => ?_) ⟨by decide, hg1 _⟩ (by decide) (by decide)
      have := ms (wc σ G J') G hM
      rw [Bool.and_false, Bool.false_and, if_neg (by decide), decide_eq_true qE] at this
      exact this
    | true =>
      subst z
      cases z2 : r with
      | true =>
        subst z2
        exact hs qE rfl rfl
      | false =>
        subst z2
        obtain ⟨G1, qg, eC⟩ := hc2 qE rfl rfl
        refine chg_err (r := .error e2) (t := 3) (i := 1) (j := 6) hC hM hA hD qg eC (fun J' => ?_) ⟨by decide, hg2 qE rfl rfl _⟩ (by decide) (by decide)
        have hM1 : MR (wc σ G1 J') G1 E I N U V T := mr_frame hM qg.2.1 qg.2.2
        have := ms (wc σ G1 J') G1 hM1
        rw [Bool.and_false, if_neg (by decide), decide_eq_true qE] at this
        exact this
/-- case 40: INTERLINE -/
theorem sc40 (hC : CR σ G J b bs ps P tx E I N U V T) (hM : MR σ G E I N U V T) (hA : AW E I N U V T) (hD : DK σ) (hb : hN σ + 40 < BIG) {Lx : Nat} {xs : Nat → Int32} {v5 v w : Int32} (h1 : sld Lx xs (v5 + 1) = some v) (h2 : sld Lx xs (v5 + 2) = some w) (v4 : Option Nat) : STEP σ (fL_c40 Lx xs (some 0) (some 80) (some 89) v4 v5 (wc σ G J)) := by
  have lo := lo_of hC hM hA hD
  have e4 := hC.2.1.1
  have hI := hA.1.2.1
  unfold fL_c40 fL_interline
  simp only [h1, h2, bnP_1]
  have hwr : E.1 ≠ 0 → WFN N ∧ RB G J b N := fun q => ⟨hA.2.1 q, hC.2.2.2.1 q⟩
  have i1 := hC.2.2.1.2
  have iwc : ∀ n, n ≤ I.1 → iwB (G 1) n = iwB I.2 n := fun n hn => (iwB_cong fun k hk => i1 k (by omega)).1
  have ec : E.1 ≠ 0 → inR w (nI 0) (nI I.1) = true → fX9_interline (some 0) v w (wc σ G J) = if (iwB I.2 w.toNatClampNeg && ciB N v) = true then bnA (fX9_remember (some 0) (wc σ G J)) (fun x11 s13 => bnP (pI s13 (some 0) 9 1 0) (fun s20 => bnP (gR s20 (some 0) 9 5) (fun x21 => bnP (fX1_insertWord x21 v (i64W (G 1) w.toNatClampNeg) s20) (fun s25 => bnP (gR s25 (some 0) 9 5) (fun x26 => bnP (fX1_openStanding x26 s25) (fun x28 => some (.ok x28, s25, 0, 0))))))) else some (.error 2, wc σ G J, 1, 6) := by
    intro qE qw
    obtain ⟨hw, r⟩ := hwr qE
    obtain ⟨n, rfl, -, hn⟩ := inR_t (by decide) (by omega) qw
    rw [nI_clamp (by omega)]
    unfold fX9_interline
    rw [nk_o lo.1, bnP_1, c_requireBook lo.1, if_neg (by rw [e4]; exact qE), bnXA_1, c_requireBytes hC hA, qw, if_pos rfl, bnXA_1, c_inputWord hC G J (by omega), bnP_1]
    cases z : iwB I.2 n
    · have e : i64W (G 1) n = 0 := by
        unfold i64W
        rw [iwc n hn, z]
        rfl
      rw [e, if_pos ((lg_cmp_eq _ _).mpr rfl)]
      rfl
    · have wd := iw_wd (f := G 1) (n := n) (by rw [iwc n hn]; exact z)
      rw [if_neg (fun q => wd_ne0 wd ((lg_cmp_eq _ _).mp q)), nk_b lo.1, bnP_1, c_canInsert (nk_B lo.1) hw r, bnP_1, Bool.true_and]
  have ms : ∀ S G1, MR S G1 E I N U V T → fX10_interline (some 80) v w (wi S G1) = if (decide (E.1 ≠ 0) && inR w (nI 0) (nI I.1) && (iwB I.2 w.toNatClampNeg && ciB N v)) = true then bnP (fX10_remembers (some 80) (wi S (up G1 80 0 0))) (fun s26 => bnP (fX10_interlines (some 80) v 0 w s26) (fun s29 => bnP (pI s29 (some 80) 10 9 0) (fun s32 => bnP (fX10_openAct (some 80) s32) (fun x33 => bnP (fX10_standing (some 80) x33 s32) (fun x35 => some (x35, s32)))))) else some (0, wi S (up G1 80 0 (thr (decide (E.1 ≠ 0)) (inR w (nI 0) (nI I.1)) (iwB I.2 w.toNatClampNeg && ciB N v)))) := by
    intro S G1 hM1
    have mk := hM1.1
    have f6 := hM1.2.1.1
    have f81 := hM1.2.2.2.1.1
    have f9 := hM1.2.2.1.1
    have f86 := hM1.2.2.1.2
    unfold fX10_interline
    rw [mk_o mk, bnP_1, mk_I mk, bnP_1]
    have hj1 : (if G1 80 6 = 0 then some (0 : Int32) else bnP (gI (wi S G1) (some 80) 10 9) (fun x8 => bnP (fX10_in w 0 x8 (wi S G1)) (fun x10 => (if x10 = true then some 1 else some 0)))) = some (bI (decide (G1 80 6 ≠ 0) && inR w (nI 0) (nI I.1))) := by
      by_cases q : G1 80 6 = 0
      · rw [if_pos q, decide_eq_false (fun e => e q)]
        rfl
      · rw [if_neg q, mk_I mk, bnP_1, m_in, bnP_1, f9, decide_eq_true q, show inR w 0 (nI I.1) = inR w (nI 0) (nI I.1) from rfl]
        cases inR w (nI 0) (nI I.1) <;> rfl
    rw [hj1, bnP_1, bnP_1]
    have hj : (if bI (decide (G1 80 6 ≠ 0) && inR w (nI 0) (nI I.1)) = 0 then some ((some 80 : Option Nat), G1 80 6, bI (decide (G1 80 6 ≠ 0) && inR w (nI 0) (nI I.1)), (0 : Int32)) else bnP (fX10_canInterline (some 80) v w (wi S G1)) (fun x19 => (if x19 = true then some (some 80, G1 80 6, bI (decide (G1 80 6 ≠ 0) && inR w (nI 0) (nI I.1)), 1) else some (some 80, G1 80 6, bI (decide (G1 80 6 ≠ 0) && inR w (nI 0) (nI I.1)), 0)))) = some (some 80, G1 80 6, bI (decide (G1 80 6 ≠ 0) && inR w (nI 0) (nI I.1)), bI ((decide (G1 80 6 ≠ 0) && inR w (nI 0) (nI I.1)) && (iwB I.2 w.toNatClampNeg && ciB N v))) := by
      cases z : (decide (G1 80 6 ≠ 0) && inR w (nI 0) (nI I.1))
      · rfl
      · rw [Bool.and_eq_true] at z
        obtain ⟨n, rfl, -, hn⟩ := inR_t (by decide) (by omega) z.2
        have qE : E.1 ≠ 0 := by rw [← f6]; exact of_decide_eq_true z.1
        rw [nI_clamp (by omega), if_neg (show ¬ bI true = 0 by decide), m_canInterline mk (hA.2.1 qE) f81 v (by omega), bnP_1, (iwB_cong (f := G1 86) (g := I.2) (n := n) (fun k hk => f86 k (by omega))).1]
        cases (iwB I.2 n && ciB N v) <;> rfl
    rw [hj, bnP_1]
    dsimp only
    rw [m_may3 mk (by rw [f6]; exact hA.1.1), bnS_1, f6]
    cases e0 : decide (E.1 ≠ 0)
    · rfl
    · cases e1 : inR w (nI 0) (nI I.1)
      · rfl
      · cases e2 : (iwB I.2 w.toNatClampNeg && ciB N v)
        · rfl
        · rfl
  refine chg3 (inR w (nI 0) (nI I.1)) (iwB I.2 w.toNatClampNeg && ciB N v) (e1 := 1) (e2 := 2) hC hM hA hD (fun S => rfl) (fun S => rfl) (fun _ _ _ S => rfl) ?_ ?_ ?_ ms ?_
  · intro qE
    unfold fX9_interline
    rw [nk_o lo.1, bnP_1, c_requireBook lo.1, if_pos (by rw [e4]; exact qE), bnXA_e]
  · intro qE z
    unfold fX9_interline
    rw [nk_o lo.1, bnP_1, c_requireBook lo.1, if_neg (by rw [e4]; exact qE), bnXA_1, c_requireBytes hC hA, z]
    rfl
  · intro qE z z2
    exact ⟨G, qg_rf P G, by rw [ec qE z, z2, if_neg (by decide)]⟩
  · intro qE z z2
    obtain ⟨hw, r⟩ := hwr qE
    obtain ⟨n, rfl, -, hn⟩ := inR_t (by decide) (by omega) z
    have ec := ec qE z
    have ms := fun S G1 h => ms S G1 h
    rw [nI_clamp (by omega)] at z2 ec ms
    rw [z2, if_pos rfl] at ec
    obtain ⟨zl, zc⟩ := (Bool.and_eq_true _ _).mp z2
    obtain ⟨q, i, rfl, hi, h4⟩ := ciB_t hw zc
    have hbb := w1_b hw.1
    have ha : nAc N - 1 < nAc N := by have := q.1; omega
    have hle := act_le hw.1 hw.2.1 ha
    have hg : opW N i < nWd N := by unfold opW; omega
    have wd := iw_wd (f := G 1) (n := n) (by rw [iwc n hn]; exact zl)
    have el : enL5 (lf (G 1)) n = enL5 (lf I.2) n := enL5_cong (iwB_cong fun k hk => i1 k (by omega)).2
    rw [el] at wd
    generalize hlo : nI (enL5 (lf I.2) n).1 = lo' at *
    generalize hhi : nI (enL5 (lf I.2) n).2 = hi' at *
    have wf := int_wf (lo := lo') (hi := hi') hw hg h4
    have s := int_s (lo := lo') (hi := hi') hw hg h4
    have sn := sm_n s
    have ea := sm_a s ha
    have qo : isO (intN N (opW N i) lo' hi') := by
      refine ⟨by rw [sn.2.1]; exact q.1, ?_⟩
      rw [sn.2.1, int_o (by omega) (by omega) (by omega) (by omega)]
      exact q.2
    refine chg (x := stN (intN N (opW N i) lo' hi') (aF N (nAc N - 1)) (aM N (nAc N - 1))) (N' := intN N (opW N i) lo' hi') true hC hM hA hD qE hb wf (fun j hj => ?_) ?_ ?_
    · rw [int_o (by omega) (by omega) (by omega) (by omega)]
      exact hM.2.2.2.1.2 j hj
    · intro σ' G' J' ps' P' ii jj eR hC'
      have nk' := cr_nk hC'
      have hb0 := cr_b hC'
      have r' : RB (up G' 0 1 0) J' b N := rb_cong hw.1 (fun a h1 _ _ _ _ _ => up_a (by omega)) (fun _ _ _ => rfl) (hC'.2.2.2.1 qE)
      obtain ⟨G2, J2, e2, g2, j2, rb2⟩ := c_insertWord (nk_B nk') hw r' q hi h4 wd
      refine ⟨G2, J2, ?_, fun a ha => by rw [g2 a ha]; rfl, j2, rb2⟩
      rw [ec, eR, bnA_ok, cr_P hC', bnP_1, nk_b nk', bnP_1, e2, bnP_1, nk_b nk', bnP_1, c_openStanding (nk_B nk') wf rb2 qo, bnP_1, addC_1, sn.2.1, ea.1, ea.2.1]
      rfl
    · intro S G1 G1' hM1 eR e81 e86 _
      have mk := hM1.1
      have hl : iwB (G1' 86) n = true := by
        rw [e86, (iwB_cong (f := G1 86) (g := I.2) (n := n) (fun k hk => hM1.2.2.1.2 k (by omega))).1]
        exact zl
      have el2 : enL5 (lf (G1' 86)) n = enL5 (lf I.2) n := by
        rw [e86]
        exact enL5_cong (iwB_cong fun k hk => hM1.2.2.1.2 k (by omega)).2
      have e3 := m_interlines mk hw e81 q hi h4 (by omega) hl
      rw [el2, hlo, hhi] at e3
      rw [ms S G1 hM1, decide_eq_true qE, z, z2, if_pos (show (true && true && true) = true from rfl), eR, bnP_1, e3, bnP_1, mk_P mk, bnP_1]
      have e : up (cw G1' 81 (intN N (opW N i) lo' hi')) 80 9 0 (80 + 1) = intN N (opW N i) lo' hi' := by rw [up_a (by decide)]; exact cw_a _ _ _
      rw [m_openAct1 mk (by rw [e]; exact wf.1) (by rw [e]; exact qo), bnP_1, m_standing mk (act_ok (by rw [e]; exact wf.1) (by rw [e]; exact wf.2.1) (by rw [e, sn.2.1]; omega)).1, bnP_1, e, sn.2.1, ea.1, ea.2.1]
      rfl
end SC40
