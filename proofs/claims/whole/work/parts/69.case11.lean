/-! THE PURE LEVEL, 29: WHYNOTCOPY, COPYWORDS, BESTCOPY -/
/-- the class's answer and the reference's, of any call with a number -/
theorem lq_gen {σ1 : HpT} {G1 G2 : Nat → Nat → Int32} {J1 : Nat → Nat → Int64} {m d i j : Nat} {C : AT Int32} {M : HpT → Option (Int32 × HpT)} {g : Nat → HpT → AT Int32} {r : Except Nat Int32} {x : Int32}
    (hd : hK σ1 d = 21 ∧ d < hN σ1 ∧ hZ σ1 d = 1) (hm : MK σ1 m) (hC : C = some (r, wc σ1 G1 J1, i, j)) (hM : ∀ J', M (wc σ1 G1 J') = some (x, wc σ1 G2 J'))
    (hr : lqR g (wc σ1 G1 J1) x (G2 m 0) r) :
    ∃ y, bnO (bnC C (fun x1 s2 => bnP (sJ s2 (some d) 0 x1.toInt64) (fun s11 => some (.ok 0, s11, 0, 0))) g) (fun x3 s5 => bnS (M s5) (fun x12 s14 => bnP (fX10_thrown (some m) s14) (fun x15 => (if x15 = x3 then (if x3 = 0 then bnP (aJ s14 (some d) 0) (fun x17 => (if (lg_cmp x17 ((x12).toInt64)) = 0 then some (.ok (), s14, 0, 0) else none)) else some (.ok (), s14, 0, 0)) else none)))) = some ((.ok () : Except Nat Unit), wc σ1 G2 (upJ J1 d 0 y), i, j) := by
  have th : ∀ J', fX10_thrown (some m) (wc σ1 G2 J') = some (G2 m 0) := fun J' => m_thrown (σ := wc σ1 G2 J') (G := G2) hm
  have sj : ∀ J' y, sJ (wc σ1 G1 J') (some d) 0 y = some (wc σ1 G1 (upJ J' d 0 y)) := fun J' y => sJ_c (n := 0) hd.1 hd.2.1 hd.2.2 (by decide) (by decide)
  have aj : ∀ J', aJ (wc σ1 G2 J') (some d) 0 = some (J' d 0) := fun J' => aJ_c (n := 0) hd.1 hd.2.1 hd.2.2 (by decide) (by decide)
  cases r with
  | ok y =>
    obtain ⟨hy, hc⟩ := hr
    subst hy
    refine ⟨y.toInt64, ?_⟩
    have e1 : bnC C (fun x1 s2 => bnP (sJ s2 (some d) 0 x1.toInt64) (fun s11 => some ((.ok 0 : Except Nat Int32), s11, 0, 0))) g = some (.ok 0, wc σ1 G1 (upJ J1 d 0 y.toInt64), i, j) := by
      rw [hC]
      exact bnC_1 (i := i) (j := j) (i2 := 0) (j2 := 0) (by rw [sj, bnP_1])
    rw [e1]
    refine bnO_1 (i := i) (j := j) (i2 := 0) (j2 := 0) ?_
    rw [hM, bnS_1, th, bnP_1, hc, if_pos rfl, if_pos rfl, aj, bnP_1, upJ_eq, if_pos ((lg_cmp_eq _ _).mpr rfl)]
  | error n =>
    obtain ⟨hc, hg⟩ := hr
    refine ⟨J1 d 0, ?_⟩
    have e1 : bnC C (fun x1 s2 => bnP (sJ s2 (some d) 0 x1.toInt64) (fun s11 => some ((.ok 0 : Except Nat Int32), s11, 0, 0))) g = some (.ok (G2 m 0), wc σ1 G1 J1, i, j) := by
      rw [hC]
      exact bnC_e (i := i) (j := j) (i2 := 0) (j2 := 0) hg
    rw [e1, upJ_self]
    refine bnO_1 (i := i) (j := j) (i2 := 0) (j2 := 0) ?_
    rw [hM, bnS_1, th, bnP_1, if_pos rfl, if_neg hc]
/-- why an act can't be copied -/
def bdA (N : Nat → Int32) (a gr g : Nat) : Bool := hwA N a gr g && !knN N g
def wcQ (N : Nat → Int32) (a gr : Nat) : Int32 := if N (9 + 9 * a + 1) = 1 then (match fuN (fun k => bdA N a gr (aF N a + k)) (aM N a) with | some _ => 2 | none => if nCp N = 8 then 3 else 0) else 1
def kwN (N : Nat → Int32) (a gr : Nat) : Nat := cntN (fun k => hbN N (aF N a) (aM N a) gr (aF N a + k) || decide (0 < cwN N (aF N a + k))) (aM N a)
/-- the best copy of grades 0 .. n - 1, and how many words are known by it -/
def bcC (N : Nat → Int32) (a : Nat) : Nat → Int32 × Nat
  | 0 => (nO, 0)
  | n + 1 => if wcQ N a n = 0 ∧ (bcC N a n).2 ≤ kwN N a n then (nI n, kwN N a n) else bcC N a n
section LQ11
variable {σ : HpT} {G : Nat → Nat → Int32} {J : Nat → Nat → Int64} {o b m d : Nat} {N : Nat → Int32}
theorem bk_k14 (h : BK σ b) : hK σ (b + 14) = 3 ∧ b + 14 < hN σ := ⟨h.2.1.2.2.2.2, by have := h.1; omega⟩
theorem rb_s14 (w1 : W1 N) (r : RB G J b N) (f : Nat → Int32) : RB (cw G (b + 14) f) J b N := rb_cong w1 (fun a _ _ _ _ q _ => cw_b q) (fun _ _ _ => rfl) r
theorem fs_lo {n x y : Nat} (e : fsN N n m = some (x, y)) : n ≤ x ∧ x ≤ y ∧ y < n + m := (fsN_some e).1
theorem hwA_in {a gr g : Nat} (h1 : aF N a ≤ g) (h2 : g < aF N a + aM N a) : hwA N a gr g = hbN N (aF N a) (aM N a) gr g := by
  unfold hwA
  rw [decide_eq_true h1, decide_eq_true h2]
  rfl
theorem hwA_out {a gr g x y : Nat} (e : fsN N (aF N a) (aM N a) = some (x, y)) (hg : g < x ∨ y < g) : hwA N a gr g = false := by
  obtain ⟨p1, p2, p3, p4, p5⟩ := fsN_some e
  unfold hwA hbN
  by_cases h1 : aF N a ≤ g
  · by_cases h2 : g < aF N a + aM N a
    · rcases hg with hg | hg
      · rw [p4 g h1 hg, Bool.false_and, Bool.and_false]
      · rw [p5 g hg h2, Bool.false_and, Bool.and_false]
    · rw [decide_eq_false h2, Bool.and_false, Bool.false_and]
  · rw [decide_eq_false h1, Bool.false_and, Bool.false_and]
theorem hwA_no {a gr : Nat} (e : fsN N (aF N a) (aM N a) = none) (g : Nat) : hwA N a gr g = false := by
  unfold hwA hbN
  by_cases h1 : aF N a ≤ g
  · by_cases h2 : g < aF N a + aM N a
    · have := fsN_none e (g - aF N a) (by omega)
      rw [show aF N a + (g - aF N a) = g by omega] at this
      rw [this, Bool.false_and, Bool.and_false]
    · rw [decide_eq_false h2, Bool.and_false, Bool.false_and]
  · rw [decide_eq_false h1, Bool.false_and, Bool.false_and]
theorem c_copyReason (h : BK σ b) (hw : WFN N) (r : RB G J b N) {a gr : Nat} (ha : a < nAc N) (hgr : gr < 3) : ∃ f, fX1_copyReason (some b) (nI (a + 1)) (nI gr) (wc σ G J) = some (wcQ N a gr, wc σ (cw G (b + 14) f) J) := by
  have hb := w1_b hw.1
  obtain ⟨p1, p2, p3, p4, p5⟩ := (act_ok hw.1 hw.2.1 ha).1
  have hle := act_le hw.1 hw.2.1 ha
  have hr := rb_act r ha
  unfold fX1_copyReason wcQ
  rw [bk_o h, bnP_1, if_neg (show ¬ nI (a + 1) < 1 from nI_nlt (show 1 ≤ a + 1 by omega) (by omega)), bk_I h, bnP_1, rb_n r hw.1, if_neg (nI_nlt (by omega) (by omega)), bk_r6 h, bnP_1, nI_pred, bk_aR h p1, bnP_1, bk_aI h p1, bnP_1, hr.2.2.1]
  by_cases q : N (9 + 9 * a + 1) = 1
  · obtain ⟨f, hf, hd⟩ := c_draw h hw.1 hw.2.1 hw.2.2.2 r (Or.inl rfl) ha hgr
    have r' := rb_s14 hw.1 r f
    have hk := bk_k14 h
    refine ⟨f, ?_⟩
    have xI : ∀ k, gI (wc σ (cw G (b + 14) f) J) (some (b + 14)) 3 k = some (f k) := fun k => by
      rw [bk_tI h, cw_a]
    rw [if_pos q, if_pos q, bk_r11 h, bnP_1, bk_r8 h, bnP_1, bnP_1, bk_aR h p1, bnP_1, hf, bnP_1, bk_r11 h, bnP_1, xI, bnP_1]
    have hh : ∀ g, g < nWd N → fX3_holds (some (b + 14)) (some (b + 3)) (nI g) (wc σ (cw G (b + 14) f) J) = some (hwA N a gr g) := fun g hg => c_holdsX h hw.1 hw.2.1 hk.1 hk.2 ha hgr hg (by rw [cw_a]; exact hd.1.2.1) (by rw [cw_a]; exact hd.1.2.2) (rb_sk r' hg)
    have d3 := hd.1.2.2
    have last : bnP (gI (wc σ (cw G (b + 14) f) J) (some b) 1 3) (fun x47 => (if x47 < 8 then some ((0 : Int32), wc σ (cw G (b + 14) f) J) else some (3, wc σ (cw G (b + 14) f) J))) = some (if nCp N = 8 then 3 else 0, wc σ (cw G (b + 14) f) J) := by
      rw [bk_I h, bnP_1, rb_p r' hw.1]
      by_cases q8 : nCp N = 8
      · rw [if_neg (by rw [q8]; decide), if_pos q8]
      · rw [if_pos (show nI (nCp N) < 8 from nI_lt (show nCp N < 8 by omega) (by decide)), if_neg q8]
    cases e : fsN N (aF N a) (aM N a) with
    | none =>
      rw [e] at d3
      have d3 : f 2 = 0 ∧ f 3 = nO := d3
      have e0 : fuN (fun k => bdA N a gr (aF N a + k)) (aM N a) = none := by
        cases e1 : fuN (fun k => bdA N a gr (aF N a + k)) (aM N a) with
        | none => rfl
        | some j =>
          have := (fuN_some e1).2.1
          unfold bdA at this
          rw [hwA_no e, Bool.false_and] at this
          cases this
      have e2 : lpP (fX1_copyReason_l1 (some b) (wc σ (cw G (b + 14) f) J)) FUEL (f 2) = some (.inl ()) := by
        refine lpP_e 199999 ?_
        unfold fX1_copyReason_l1
        rw [bk_r11 h, bnP_1, xI, bnP_1, d3.1, d3.2, if_pos (by decide)]
      rw [e2, bnP_1, e0]
      exact last
    | some xy =>
      obtain ⟨x, y⟩ := xy
      rw [e] at d3
      have d3 : f 2 = nI x ∧ f 3 = nI y := d3
      obtain ⟨x1, x2, x3⟩ := fs_lo e
      have step : ∀ g, x ≤ g → g ≤ y → fX1_copyReason_l1 (some b) (wc σ (cw G (b + 14) f) J) (nI g) = (if bdA N a gr g = true then some (.inr (.inr 2)) else some (.inl (nI (g + 1)))) := fun g g1 g2 => by
        unfold fX1_copyReason_l1 bdA
        rw [bk_r11 h, bnP_1, xI, bnP_1, d3.2, if_neg (nI_nlt (by omega) (by omega)), bnP_1, bk_r8 h, bnP_1, hh g (by omega), bnP_1]
        cases hwA N a gr g
        · rw [if_neg (by decide), Bool.false_and, if_neg (by decide), nI_a1]
        · rw [if_pos rfl, c_isKnown h hw r' (by omega), bnP_1]
          cases knN N g
          · rfl
          · rw [if_pos rfl, if_neg (by decide), nI_a1]
      cases e1 : fuN (fun k => bdA N a gr (aF N a + k)) (aM N a) with
      | none =>
        have e2 : lpP (fX1_copyReason_l1 (some b) (wc σ (cw G (b + 14) f) J)) FUEL (f 2) = some (.inl ()) := by
          refine lpP_f (y + 1 - x) (fun k => nI (x + k)) (by rw [d3.1, Nat.add_zero]) (by omega) (fun k hk => ?_) ?_
          · have := fuN_none e1 (x + k - aF N a) (by omega)
            rw [show aF N a + (x + k - aF N a) = x + k by omega] at this
            rw [step _ (by omega) (by omega), this]
            rfl
          · unfold fX1_copyReason_l1
            rw [bk_r11 h, bnP_1, xI, bnP_1, d3.2, if_pos (nI_lt (by omega) (by omega))]
        rw [e2, bnP_1]
        exact last
      | some j =>
        obtain ⟨h3, h4, h5⟩ := fuN_some e1
        have hj : x ≤ aF N a + j ∧ aF N a + j ≤ y := by
          by_cases z : aF N a + j < x ∨ y < aF N a + j
          · unfold bdA at h4
            rw [hwA_out e z, Bool.false_and] at h4
            cases h4
          · omega
        have e2 : lpP (fX1_copyReason_l1 (some b) (wc σ (cw G (b + 14) f) J)) FUEL (f 2) = some (.inr 2) := by
          refine lpP_f (aF N a + j - x) (fun k => nI (x + k)) (by rw [d3.1, Nat.add_zero]) (by omega) (fun k hk => ?_) ?_
          · have := h5 (x + k - aF N a) (by omega)
            rw [show aF N a + (x + k - aF N a) = x + k by omega] at this
            rw [step _ (by omega) (by omega), this]
            rfl
          · rw [show x + (aF N a + j - x) = aF N a + j by omega, step _ (by omega) (by omega), h4]
            rfl
        rw [e2, bnP_1]
  · refine ⟨G (b + 14), ?_⟩
    rw [if_neg q, if_neg q, cw_self]
theorem c_copiedWith (h : BK σ b) (hw : WFN N) (r : RB G J b N) {a gr : Nat} (ha : a < nAc N) (hgr : gr < 3) : ∃ f, fX1_copiedWith (some b) (some (b + 15 + a)) (nI gr) (wc σ G J) = some (nI (kwN N a gr), wc σ (cw G (b + 14) f) J) := by
  have hb := w1_b hw.1
  obtain ⟨p1, p2, p3, p4, p5⟩ := (act_ok hw.1 hw.2.1 ha).1
  have hle := act_le hw.1 hw.2.1 ha
  obtain ⟨f, hf, hd⟩ := c_draw h hw.1 hw.2.1 hw.2.2.2 r (Or.inl rfl) ha hgr
  have r' := rb_s14 hw.1 r f
  have hr := rb_act r' ha
  have hk := bk_k14 h
  refine ⟨f, ?_⟩
  unfold fX1_copiedWith
  rw [bk_o h, bnP_1, bk_r11 h, bnP_1, bk_r8 h, bnP_1, hf, bnP_1, bk_aI h p1, bnP_1, hr.2.2.2.2.2.1, p2]
  have e : lpP (fX1_copiedWith_l1 (some b) (some (b + 15 + a)) (wc σ (cw G (b + 14) f) J)) FUEL (0, nI (aF N a)) = some (nI (kwN N a gr)) := by
    refine lpP_f (aM N a) (fun k => (nI (cntN (fun k => hbN N (aF N a) (aM N a) gr (aF N a + k) || decide (0 < cwN N (aF N a + k))) k), nI (aF N a + k))) rfl (by omega) (fun k hk2 => ?_) ?_
    · unfold fX1_copiedWith_l1
      have hs : cntN (fun k => hbN N (aF N a) (aM N a) gr (aF N a + k) || decide (0 < cwN N (aF N a + k))) (k + 1) = cntN (fun k => hbN N (aF N a) (aM N a) gr (aF N a + k) || decide (0 < cwN N (aF N a + k))) k + (if (hbN N (aF N a) (aM N a) gr (aF N a + k) || decide (0 < cwN N (aF N a + k))) = true then 1 else 0) := rfl
      have hcw : cwN N (aF N a + k) < 2 ^ 31 := by
        have h1 := cntN_le (fun c => hwN N c (aF N a + k)) (nCp N)
        show cntN _ _ < _
        omega
      rw [bk_aI h p1, bnP_1, bk_aI h p1, bnP_1, hr.2.2.2.2.2.1, hr.2.2.2.2.2.2.1, p2, p3, nI_add]
      dsimp only
      rw [if_neg (nI_ge (by omega) (by omega)), bk_r11 h, bnP_1, bk_r8 h, bnP_1, c_holdsX h hw.1 hw.2.1 hk.1 hk.2 ha hgr (show aF N a + k < nWd N by omega) (by rw [cw_a]; exact hd.1.2.1) (by rw [cw_a]; exact hd.1.2.2) (rb_sk r' (by omega)), bnP_1, hs, hwA_in (by omega) (by omega)]
      cases hbN N (aF N a) (aM N a) gr (aF N a + k)
      · rw [if_neg (by decide), c_copiesWith h hw r' (by omega), bnP_1, Bool.false_or]
        by_cases z : 0 < cwN N (aF N a + k)
        · rw [if_neg (nI_nle z hcw), decide_eq_true z, if_pos rfl, nI_a1, nI_a1]
          rfl
        · rw [if_pos (by rw [show cwN N (aF N a + k) = 0 by omega]; decide), decide_eq_false z, if_neg (by decide), nI_a1]
          rfl
      · rw [if_pos rfl, Bool.true_or, if_pos rfl, nI_a1, nI_a1]
        rfl
    · unfold fX1_copiedWith_l1
      rw [bk_aI h p1, bnP_1, bk_aI h p1, bnP_1, hr.2.2.2.2.2.1, hr.2.2.2.2.2.2.1, p2, p3, nI_add]
      dsimp only
      rw [if_pos (nI_le (Nat.le_refl _) (by omega))]
      rfl
  rw [e, bnP_1]
theorem m_whyCopy (h : MK σ m) (hw : WFN (G (m + 1))) {a gr : Nat} (ha : a < nAc (G (m + 1))) (hgr : gr < 3) : fX10_whyCopy (some m) (nI a) (nI gr) (wi σ G) = some (wcQ (G (m + 1)) a gr) := by
  have hb := w1_b hw.1
  have he := w1_e hw.1
  have ok := (act_ok hw.1 hw.2.1 ha).1
  obtain ⟨p1, p2, p3, p4, p5⟩ := id ok
  have hle := act_le hw.1 hw.2.1 ha
  unfold fX10_whyCopy wcQ
  rw [mk_o h, bnP_1]
  show bnP (fX10_ofAct (some m) (nI a) (nI 1) (wi σ G)) _ = _
  rw [m_ofAct h a 1 (by omega), bnP_1]
  by_cases q : G (m + 1) (9 + 9 * a + 1) = 1
  · rw [if_pos q, if_pos q, li_5, m_ofAct h a 5 (by omega), bnP_1, p2]
    have step : ∀ k, k < aM (G (m + 1)) a → fX10_whyCopy_l1 (some m) (nI a) (nI gr) (wi σ G) (nI (aF (G (m + 1)) a + k)) = (if bdA (G (m + 1)) a gr (aF (G (m + 1)) a + k) = true then some (.inr (.inr 2)) else some (.inl (nI (aF (G (m + 1)) a + (k + 1))))) := fun k hk => by
      unfold fX10_whyCopy_l1 bdA
      rw [m_lastOf h ok, bnP_1, if_neg (nI_nlt (by omega) (by omega)), m_hasBy h ok hgr (by omega), bnP_1, hwA_in (by omega) (by omega)]
      cases hbN (G (m + 1)) (aF (G (m + 1)) a) (aM (G (m + 1)) a) gr (aF (G (m + 1)) a + k)
      · rw [if_neg (by decide), Bool.false_and, if_neg (by decide), nI_a1]
        rfl
      · rw [if_pos rfl, m_isKnown h hw (by omega), bnP_1]
        cases knN (G (m + 1)) (aF (G (m + 1)) a + k)
        · rfl
        · rw [if_pos rfl, if_neg (by decide), nI_a1]
          rfl
    cases e1 : fuN (fun k => bdA (G (m + 1)) a gr (aF (G (m + 1)) a + k)) (aM (G (m + 1)) a) with
    | none =>
      have e2 : lpP (fX10_whyCopy_l1 (some m) (nI a) (nI gr) (wi σ G)) FUEL (nI (aF (G (m + 1)) a)) = some (.inl ()) := by
        refine lpP_f (aM (G (m + 1)) a) (fun k => nI (aF (G (m + 1)) a + k)) rfl (by omega) (fun k hk => ?_) ?_
        · rw [step k hk, fuN_none e1 k hk]
          rfl
        · unfold fX10_whyCopy_l1
          rw [m_lastOf h ok, bnP_1, if_pos (nI_lt (by omega) (by omega))]
      rw [e2, bnP_1]
      show bnP (gR (wi σ G) (some m) 10 1) _ = _
      rw [mk_r1 h, bnP_1, li_6, mk_a1 h (by decide), bnP_1, he.2.2.2.2]
      by_cases q8 : nCp (G (m + 1)) = 8
      · rw [if_pos (by rw [q8]; rfl), if_pos q8]
      · rw [if_neg (show ¬ nI (nCp (G (m + 1))) = 8 by rw [li_8, nI_eq (by omega) (by omega)]; exact q8), if_neg q8]
    | some j =>
      obtain ⟨h3, h4, h5⟩ := fuN_some e1
      have e2 : lpP (fX10_whyCopy_l1 (some m) (nI a) (nI gr) (wi σ G)) FUEL (nI (aF (G (m + 1)) a)) = some (.inr 2) := by
        refine lpP_f j (fun k => nI (aF (G (m + 1)) a + k)) rfl (by omega) (fun k hk => ?_) ?_
        · rw [step k (by omega), h5 k hk]
          rfl
        · rw [step j h3, h4]
          rfl
      rw [e2, bnP_1]
  · rw [if_neg q, if_neg q]
theorem m_knownWith (h : MK σ m) (hw : WFN (G (m + 1))) {a gr : Nat} (ha : a < nAc (G (m + 1))) (hgr : gr < 3) : fX10_knownWith (some m) (nI a) (nI gr) (wi σ G) = some (nI (kwN (G (m + 1)) a gr)) := by
  have hb := w1_b hw.1
  have ok := (act_ok hw.1 hw.2.1 ha).1
  obtain ⟨p1, p2, p3, p4, p5⟩ := id ok
  have hle := act_le hw.1 hw.2.1 ha
  unfold fX10_knownWith
  rw [mk_o h, bnP_1, li_5, m_ofAct h a 5 (by omega), bnP_1, p2]
  have e : lpP (fX10_knownWith_l1 (some m) (nI a) (nI gr) (wi σ G)) FUEL (0, nI (aF (G (m + 1)) a)) = some (nI (kwN (G (m + 1)) a gr)) := by
    refine lpP_f (aM (G (m + 1)) a) (fun k => (nI (cntN (fun k => hbN (G (m + 1)) (aF (G (m + 1)) a) (aM (G (m + 1)) a) gr (aF (G (m + 1)) a + k) || decide (0 < cwN (G (m + 1)) (aF (G (m + 1)) a + k))) k), nI (aF (G (m + 1)) a + k))) rfl (by omega) (fun k hk => ?_) ?_
    · unfold fX10_knownWith_l1
      have hs : cntN (fun k => hbN (G (m + 1)) (aF (G (m + 1)) a) (aM (G (m + 1)) a) gr (aF (G (m + 1)) a + k) || decide (0 < cwN (G (m + 1)) (aF (G (m + 1)) a + k))) (k + 1) = cntN (fun k => hbN (G (m + 1)) (aF (G (m + 1)) a) (aM (G (m + 1)) a) gr (aF (G (m + 1)) a + k) || decide (0 < cwN (G (m + 1)) (aF (G (m + 1)) a + k))) k + (if (hbN (G (m + 1)) (aF (G (m + 1)) a) (aM (G (m + 1)) a) gr (aF (G (m + 1)) a + k) || decide (0 < cwN (G (m + 1)) (aF (G (m + 1)) a + k))) = true then 1 else 0) := rfl
      have hcw : cwN (G (m + 1)) (aF (G (m + 1)) a + k) < 2 ^ 31 := by
        have h1 := cntN_le (fun c => hwN (G (m + 1)) c (aF (G (m + 1)) a + k)) (nCp (G (m + 1)))
        show cntN _ _ < _
        omega
      rw [m_lastOf h ok, bnP_1]
      dsimp only
      rw [if_neg (nI_nlt (by omega) (by omega)), m_hasBy h ok hgr (by omega), bnP_1, hs]
      cases hbN (G (m + 1)) (aF (G (m + 1)) a) (aM (G (m + 1)) a) gr (aF (G (m + 1)) a + k)
      · rw [if_neg (by decide), m_copiesWith h hw (by omega), bnP_1, Bool.false_or]
        by_cases z : 0 < cwN (G (m + 1)) (aF (G (m + 1)) a + k)
        · rw [if_neg (nI_nle z hcw), bnP_1, decide_eq_true z, if_pos rfl]
          show bnP (fX10_one (bI true) (wi σ G)) _ = _
          rw [m_one, bnP_1, show bI true = nI 1 from rfl, nI_add, nI_a1]
          rfl
        · rw [if_pos (by rw [show cwN (G (m + 1)) (aF (G (m + 1)) a + k) = 0 by omega]; decide), bnP_1, decide_eq_false z, if_neg (by decide)]
          show bnP (fX10_one (bI false) (wi σ G)) _ = _
          rw [m_one, bnP_1, show bI false = nI 0 from rfl, nI_add, nI_a1]
          rfl
      · rw [if_pos rfl, bnP_1, Bool.true_or, if_pos rfl]
        show bnP (fX10_one (bI true) (wi σ G)) _ = _
        rw [m_one, bnP_1, show bI true = nI 1 from rfl, nI_add, nI_a1]
        rfl
    · unfold fX10_knownWith_l1
      rw [m_lastOf h ok, bnP_1]
      dsimp only
      rw [if_pos (nI_lt (by omega) (by omega))]
      rfl
  rw [e, bnP_1]
/-- the law's objects stay as the copy that is thought of is drawn -/
theorem lo_s14 (h : LO σ G J o b m d) (ho : o ≠ b + 14) (hm : m ≠ b + 14 ∧ m + 1 ≠ b + 14) (f : Nat → Int32) : LO σ (cw G (b + 14) f) J o b m d := by
  obtain ⟨h1, h2, h3, h4, h5, h6⟩ := h
  refine ⟨h1, h2, h3, by rw [cw_b ho]; exact h4, by rw [cw_b ho, cw_b hm.1]; exact h5, fun q => ?_⟩
  rw [cw_b ho] at q
  rw [cw_b hm.2]
  exact ⟨(h6 q).1, rb_s14 (h6 q).1.1 (h6 q).2 f⟩
theorem wcQ_0 {a gr : Nat} (e : wcQ N a gr = 0) : N (9 + 9 * a + 1) = 1 := by
  unfold wcQ at e
  by_cases q : N (9 + 9 * a + 1) = 1
  · exact q
  · rw [if_neg q] at e
    cases e
theorem cq_whyNotCopy (h : NK σ o b) (hwr : G o 4 ≠ 0 → WFN N ∧ RB G J b N) (v w : Int32) : ∃ i j f, fX9_whyNotCopy (some o) v w (wc σ G J) = some (ansE 0 1 2 (decide (G o 4 ≠ 0)) (inR v (nI 1) (N 3)) (inR w (nI 0) (nI 2)) (wcQ N (v.toNatClampNeg - 1) w.toNatClampNeg), wc σ (cw G (b + 14) f) J, i, j) ∧ i ≤ 1 ∧ j ≤ 6 := by
  have B := nk_B h
  unfold fX9_whyNotCopy
  rw [nk_o h, bnP_1, c_requireBook h]
  by_cases q : G o 4 = 0
  · refine ⟨1, 6, G (b + 14), ?_, by decide, by decide⟩
    rw [if_pos q, bnXA_e, decide_eq_false (fun e => e q), cw_self]
    rfl
  · obtain ⟨hw, r⟩ := hwr q
    have hb := w1_b hw.1
    rw [if_neg q, bnXA_1, decide_eq_true q]
    cases e : inR v (nI 1) (N 3)
    · refine ⟨1, 6, G (b + 14), ?_, by decide, by decide⟩
      rw [c_requireAct0 h hw.1 r e, bnXA_e, cw_self]
      rfl
    · obtain ⟨a, rfl, ha⟩ := inA_t hw.1 e
      rw [c_requireAct1 h hw.1 r ha, bnXA_1, c_requireUpTo, show inR w 0 2 = inR w (nI 0) (nI 2) from rfl]
      cases e2 : inR w (nI 0) (nI 2)
      · refine ⟨1, 6, G (b + 14), ?_, by decide, by decide⟩
        rw [cw_self]
        rfl
      · obtain ⟨gr, rfl, -, hgr⟩ := inR_t (by decide) (by decide) e2
        obtain ⟨f, hf⟩ := c_copyReason B hw r ha (show gr < 3 by omega)
        refine ⟨0, 0, f, ?_, by decide, by decide⟩
        rw [if_pos rfl, bnXA_1, nk_b h, bnP_1, hf, bnS_1, nI_clamp (by omega), nI_clamp (by omega), Nat.add_sub_cancel]
        rfl
theorem mq_whyNotCopy (h : MK σ m) (hw : G m 6 ≠ 0 → WFN (G (m + 1))) (hr : G m 6 = 0 ∨ G m 6 = 1) (v w : Int32) : fX10_whyNotCopy (some m) v w (wi σ G) = some (if (isA G m v && inR w (nI 0) (nI 2)) = true then wcQ (G (m + 1)) (v.toNatClampNeg - 1) w.toNatClampNeg else 0, wi σ (up G m 0 (thr (decide (G m 6 ≠ 0)) (isA G m v) (inR w (nI 0) (nI 2))))) := by
  unfold fX10_whyNotCopy
  rw [mk_o h, bnP_1, mk_I h, bnP_1, m_isAct h, bnP_1, m_isGrade, bnP_1, m_may3 h hr, bnS_1]
  cases e : isA G m v
  · rw [Bool.and_false, Bool.false_and]
    rfl
  · cases e2 : inR w (nI 0) (nI 2)
    · rw [Bool.and_false]
      rfl
    · have q : G m 6 ≠ 0 := by
        unfold isA at e
        rw [Bool.and_eq_true, decide_eq_true_eq] at e
        exact e.1
      rw [if_pos (by rw [decide_eq_true q]; rfl), if_pos (show (true && true) = true from rfl)]
      have hw := hw q
      obtain ⟨-, a, rfl, ha⟩ := isA_t hw.1 e
      obtain ⟨gr, rfl, -, hgr⟩ := inR_t (by decide) (by decide) e2
      generalize hG : up G m 0 (thr (decide (G m 6 ≠ 0)) true true) = G'
      have eG : G' (m + 1) = G (m + 1) := by rw [← hG]; exact up_a (by omega)
      rw [← eG] at hw ha ⊢
      clear hG
      have hb := w1_b hw.1
      rw [nI_clamp (by omega), nI_clamp (by omega), Nat.add_sub_cancel, nI_pred, m_whyCopy h hw ha (by omega), bnP_1]
/-- case 18: WHYNOTCOPY -/
theorem lc18 (h : LO σ G J o b m d) (ho : o ≠ b + 14) (hm : m ≠ b + 14 ∧ m + 1 ≠ b + 14) {Lx : Nat} {xs : Nat → Int32} {v5 v w : Int32} (hx : sld Lx xs (v5 + 1) = some v) (hy : sld Lx xs (v5 + 2) = some w) (v4 : Option Nat) : ∃ t y a c f, fL_c18 Lx xs (some o) (some m) (some d) v4 v5 (wc σ G J) = some ((.ok () : Except Nat Unit), wc σ (up (cw G (b + 14) f) m 0 t) (upJ J d 0 y), a, c) ∧ a ≤ 1 ∧ c ≤ 6 := by
  unfold fL_c18 fL_whyNotCopy
  simp only [hx, hy, bnP_1]
  obtain ⟨i, j, f, hC, hi, hj⟩ := cq_whyNotCopy h.1 h.2.2.2.2.2 v w
  have h' := lo_s14 h ho hm f
  have hr : cw G (b + 14) f m 6 = 0 ∨ cw G (b + 14) f m 6 = 1 := by rw [h'.2.2.2.2.1]; exact h'.2.2.2.1
  have hM := fun J' => mq_whyNotCopy (σ := wc σ (cw G (b + 14) f) J') (G := cw G (b + 14) f) h.2.1 (fun q => (h'.2.2.2.2.2 (by rw [← h'.2.2.2.2.1]; exact q)).1) hr v w
  obtain ⟨y, hy⟩ := lq_gen h.2.2.1 h.2.1 hC hM (g := fun n3 s2 => if n3 = 0 then some (.ok 1, s2, 0, 0) else if n3 = 1 then some (.ok 2, s2, 0, 0) else if n3 = 2 then some (.ok 3, s2, 0, 0) else none) (by
    rw [up_eq, isA_e, thr_pq, cw_b hm.1, cw_b hm.2, h.2.2.2.2.1]
    refine lqR_ans (fun q1 q2 q3 => ?_) rfl rfl rfl
    rw [q1, q2, q3]
    rfl)
  exact ⟨_, y, i, j, f, hy, hi, hj⟩
theorem cq_copyWords (h : NK σ o b) (hwr : G o 4 ≠ 0 → WFN N ∧ RB G J b N) (v w : Int32) : ∃ i j f, fX9_copyWords (some o) v w (wc σ G J) = some (ansE 0 1 2 (decide (G o 4 ≠ 0)) (inR v (nI 1) (N 3)) (inR w (nI 0) (nI 2)) (wbA N (v.toNatClampNeg - 1) w.toNatClampNeg), wc σ (cw G (b + 14) f) J, i, j) ∧ i ≤ 1 ∧ j ≤ 6 := by
  have B := nk_B h
  unfold fX9_copyWords
  rw [nk_o h, bnP_1, c_requireBook h]
  by_cases q : G o 4 = 0
  · refine ⟨1, 6, G (b + 14), ?_, by decide, by decide⟩
    rw [if_pos q, bnXA_e, decide_eq_false (fun e => e q), cw_self]
    rfl
  · obtain ⟨hw, r⟩ := hwr q
    have hb := w1_b hw.1
    rw [if_neg q, bnXA_1, decide_eq_true q]
    cases e : inR v (nI 1) (N 3)
    · refine ⟨1, 6, G (b + 14), ?_, by decide, by decide⟩
      rw [c_requireAct0 h hw.1 r e, bnXA_e, cw_self]
      rfl
    · obtain ⟨a, rfl, ha⟩ := inA_t hw.1 e
      rw [c_requireAct1 h hw.1 r ha, bnXA_1, c_requireUpTo, show inR w 0 2 = inR w (nI 0) (nI 2) from rfl]
      cases e2 : inR w (nI 0) (nI 2)
      · refine ⟨1, 6, G (b + 14), ?_, by decide, by decide⟩
        rw [cw_self]
        rfl
      · obtain ⟨gr, rfl, -, hgr⟩ := inR_t (by decide) (by decide) e2
        obtain ⟨f, hf, hd⟩ := c_draw B hw.1 hw.2.1 hw.2.2.2 r (Or.inl rfl) ha (show gr < 3 by omega)
        refine ⟨0, 0, f, ?_, by decide, by decide⟩
        rw [if_pos rfl, bnXA_1, nk_b h, bnP_1, bk_r11 B, bnP_1, bnP_1, bk_r8 B, bnP_1, hf, bnP_1, nk_b h, bnP_1, bk_r11 B, bnP_1, bk_tI B, bnP_1, cw_a, hd.2, nI_clamp (by omega), nI_clamp (by omega), Nat.add_sub_cancel]
        rfl
theorem mq_copyWords (h : MK σ m) (hw : G m 6 ≠ 0 → WFN (G (m + 1))) (hr : G m 6 = 0 ∨ G m 6 = 1) (v w : Int32) : fX10_copyWords (some m) v w (wi σ G) = some (if (isA G m v && inR w (nI 0) (nI 2)) = true then wbA (G (m + 1)) (v.toNatClampNeg - 1) w.toNatClampNeg else 0, wi σ (up G m 0 (thr (decide (G m 6 ≠ 0)) (isA G m v) (inR w (nI 0) (nI 2))))) := by
  unfold fX10_copyWords
  rw [mk_o h, bnP_1, mk_I h, bnP_1, m_isAct h, bnP_1, m_isGrade, bnP_1, m_may3 h hr, bnS_1]
  cases e : isA G m v
  · rw [Bool.and_false, Bool.false_and]
    rfl
  · cases e2 : inR w (nI 0) (nI 2)
    · rw [Bool.and_false]
      rfl
    · have q : G m 6 ≠ 0 := by
        unfold isA at e
        rw [Bool.and_eq_true, decide_eq_true_eq] at e
        exact e.1
      rw [if_pos (by rw [decide_eq_true q]; rfl), if_pos (show (true && true) = true from rfl)]
      have hw := hw q
      obtain ⟨-, a, rfl, ha⟩ := isA_t hw.1 e
      obtain ⟨gr, rfl, -, hgr⟩ := inR_t (by decide) (by decide) e2
      generalize hG : up G m 0 (thr (decide (G m 6 ≠ 0)) true true) = G'
      have eG : G' (m + 1) = G (m + 1) := by rw [← hG]; exact up_a (by omega)
      rw [← eG] at hw ha ⊢
      clear hG
      have hb := w1_b hw.1
      rw [nI_clamp (by omega), nI_clamp (by omega), Nat.add_sub_cancel, nI_pred, m_wordsBy h (act_ok hw.1 hw.2.1 ha).1 (by omega), bnP_1]
      rfl
/-- case 24: COPYWORDS -/
theorem lc24 (h : LO σ G J o b m d) (ho : o ≠ b + 14) (hm : m ≠ b + 14 ∧ m + 1 ≠ b + 14) {Lx : Nat} {xs : Nat → Int32} {v5 v w : Int32} (hx : sld Lx xs (v5 + 1) = some v) (hy : sld Lx xs (v5 + 2) = some w) (v4 : Option Nat) : ∃ t y a c f, fL_c24 Lx xs (some o) (some m) (some d) v4 v5 (wc σ G J) = some ((.ok () : Except Nat Unit), wc σ (up (cw G (b + 14) f) m 0 t) (upJ J d 0 y), a, c) ∧ a ≤ 1 ∧ c ≤ 6 := by
  unfold fL_c24 fL_copyWords
  simp only [hx, hy, bnP_1]
  obtain ⟨i, j, f, hC, hi, hj⟩ := cq_copyWords h.1 h.2.2.2.2.2 v w
  have h' := lo_s14 h ho hm f
  have hr : cw G (b + 14) f m 6 = 0 ∨ cw G (b + 14) f m 6 = 1 := by rw [h'.2.2.2.2.1]; exact h'.2.2.2.1
  have hM := fun J' => mq_copyWords (σ := wc σ (cw G (b + 14) f) J') (G := cw G (b + 14) f) h.2.1 (fun q => (h'.2.2.2.2.2 (by rw [← h'.2.2.2.2.1]; exact q)).1) hr v w
  obtain ⟨y, hy⟩ := lq_gen h.2.2.1 h.2.1 hC hM (g := fun n3 s2 => if n3 = 0 then some (.ok 1, s2, 0, 0) else if n3 = 1 then some (.ok 2, s2, 0, 0) else if n3 = 2 then some (.ok 3, s2, 0, 0) else none) (by
    rw [up_eq, isA_e, thr_pq, cw_b hm.1, cw_b hm.2, h.2.2.2.2.1]
    refine lqR_ans (fun q1 q2 q3 => ?_) rfl rfl rfl
    rw [q1, q2, q3]
    rfl)
  exact ⟨_, y, i, j, f, hy, hi, hj⟩
theorem kwN_b (w1 : W1 N) (w2 : W2 N) {a : Nat} (ha : a < nAc N) (gr : Nat) : kwN N a gr < 241 := by
  have h1 := cntN_le (fun k => hbN N (aF N a) (aM N a) gr (aF N a + k) || decide (0 < cwN N (aF N a + k))) (aM N a)
  have h2 := (w2_b w2 ha).2.1
  unfold kwN
  omega
theorem bcC_b (w1 : W1 N) (w2 : W2 N) {a : Nat} (ha : a < nAc N) : ∀ n, (bcC N a n).2 < 241
  | 0 => by
    show (0 : Nat) < 241
    decide
  | n + 1 => by
    have h1 := kwN_b w1 w2 ha n
    have h2 := bcC_b w1 w2 ha n
    have e : bcC N a (n + 1) = if wcQ N a n = 0 ∧ (bcC N a n).2 ≤ kwN N a n then (nI n, kwN N a n) else bcC N a n := rfl
    rw [e]
    by_cases q : wcQ N a n = 0 ∧ (bcC N a n).2 ≤ kwN N a n
    · rw [if_pos q]
      exact h1
    · rw [if_neg q]
      exact h2
theorem cq_bestCopy (h : NK σ o b) (hwr : G o 4 ≠ 0 → WFN N ∧ RB G J b N) (v : Int32) : ∃ i j f, fX9_bestCopy (some o) v (wc σ G J) = some (ansE 0 1 2 (decide (G o 4 ≠ 0)) (inR v (nI 1) (N 3)) true (bcC N (v.toNatClampNeg - 1) 3).1, wc σ (cw G (b + 14) f) J, i, j) ∧ i ≤ 1 ∧ j ≤ 6 := by
  have B := nk_B h
  unfold fX9_bestCopy
  rw [nk_o h, bnP_1, c_requireBook h]
  by_cases q : G o 4 = 0
  · refine ⟨1, 6, G (b + 14), ?_, by decide, by decide⟩
    rw [if_pos q, bnXA_e, decide_eq_false (fun e => e q), cw_self]
    rfl
  · obtain ⟨hw, r⟩ := hwr q
    have hb := w1_b hw.1
    rw [if_neg q, bnXA_1, decide_eq_true q]
    cases e : inR v (nI 1) (N 3)
    · refine ⟨1, 6, G (b + 14), ?_, by decide, by decide⟩
      rw [c_requireAct0 h hw.1 r e, bnXA_e, cw_self]
      rfl
    · obtain ⟨a, rfl, ha⟩ := inA_t hw.1 e
      rw [c_requireAct1 h hw.1 r ha, bnXA_1]
      have l1 : ∃ r1 S, lpS (fX9_bestCopy_l1 (some o) (nI (a + 1)) (some (b + 15 + a))) FUEL ((-1), 0, 0) (wc σ G J) = some (r1, S) ∧ r1 = (bcC N a 3).1 ∧ ∃ f, S = wc σ (cw G (b + 14) f) J := by
        refine lpS_i (fun k p S => k ≤ 3 ∧ p = ((bcC N a (3 - k)).1, nI (bcC N a (3 - k)).2, nI (3 - k)) ∧ ∃ f, S = wc σ (cw G (b + 14) f) J) (fun r1 S => r1 = (bcC N a 3).1 ∧ ∃ f, S = wc σ (cw G (b + 14) f) J) 3 FUEL _ _ (by decide) ⟨Nat.le_refl _, rfl, G (b + 14), by rw [cw_self]⟩ (fun k p S hI => ?_) (fun p S hI => ?_)
        · obtain ⟨k1, k2, f, rfl⟩ := hI
          left
          have r' := rb_s14 hw.1 r f
          obtain ⟨n, hn⟩ : ∃ n, 3 - (k + 1) = n := ⟨_, rfl⟩
          rw [hn] at k2
          subst k2
          have e3 : 3 - k = n + 1 := by omega
          obtain ⟨f2, hf2⟩ := c_copyReason B hw r' ha (show n < 3 by omega)
          rw [cw_cw] at hf2
          have r2 := rb_s14 hw.1 r f2
          have hbc := bcC_b hw.1 hw.2.1 ha n
          have hkw := kwN_b hw.1 hw.2.1 ha n
          have eb : bcC N a (n + 1) = if wcQ N a n = 0 ∧ (bcC N a n).2 ≤ kwN N a n then (nI n, kwN N a n) else bcC N a n := rfl
          by_cases q0 : wcQ N a n = 0
          · obtain ⟨f3, hf3⟩ := c_copiedWith B hw r2 ha (show n < 3 by omega)
            rw [cw_cw] at hf3
            refine ⟨((bcC N a (n + 1)).1, nI (bcC N a (n + 1)).2, nI (n + 1)), wc σ (cw G (b + 14) f3) J, ?_, by omega, by rw [e3], f3, rfl⟩
            unfold fX9_bestCopy_l1
            rw [if_neg (show ¬ (2 : Int32) < nI n from nI_nlt (show n ≤ 2 by omega) (by decide)), nk_b h, bnP_1]
            dsimp only
            rw [hf2, bnS_1, if_pos q0, nk_b h, bnP_1, hf3, bnS_1, nI_a1]
            by_cases q1 : (bcC N a n).2 ≤ kwN N a n
            · rw [if_neg (nI_nlt q1 (by omega)), eb, if_pos ⟨q0, q1⟩]
            · rw [if_pos (nI_lt (by omega) (by omega)), eb, if_neg (fun q2 => q1 q2.2)]
          · refine ⟨((bcC N a (n + 1)).1, nI (bcC N a (n + 1)).2, nI (n + 1)), wc σ (cw G (b + 14) f2) J, ?_, by omega, by rw [e3], f2, rfl⟩
            unfold fX9_bestCopy_l1
            rw [if_neg (show ¬ (2 : Int32) < nI n from nI_nlt (show n ≤ 2 by omega) (by decide)), nk_b h, bnP_1]
            dsimp only
            rw [hf2, bnS_1, if_neg q0, nI_a1, eb, if_neg (fun q2 => q0 q2.1)]
        · obtain ⟨k1, k2, f, rfl⟩ := hI
          refine ⟨(bcC N a 3).1, wc σ (cw G (b + 14) f) J, ?_, rfl, f, rfl⟩
          subst k2
          unfold fX9_bestCopy_l1
          exact if_pos (show (2 : Int32) < nI 3 by decide)
      obtain ⟨r1, S, e1, rfl, f, rfl⟩ := l1
      refine ⟨0, 0, f, ?_, by decide, by decide⟩
      rw [e1, bnS_1, nI_clamp (by omega), Nat.add_sub_cancel]
      rfl
/-- the reference goes from grade 2 down -/
theorem bc_eq (a : Nat) : (bcC N a 3).1 = (if wcQ N a 2 = 0 then (if wcQ N a 1 = 0 ∧ kwN N a 2 < kwN N a 1 then (if wcQ N a 0 = 0 ∧ kwN N a 1 < kwN N a 0 then nI 0 else nI 1) else (if wcQ N a 0 = 0 ∧ kwN N a 2 < kwN N a 0 then nI 0 else nI 2)) else if wcQ N a 1 = 0 then (if wcQ N a 0 = 0 ∧ kwN N a 1 < kwN N a 0 then nI 0 else nI 1) else if wcQ N a 0 = 0 then nI 0 else nO) := by
  unfold bcC bcC bcC bcC
  by_cases q2 : wcQ N a 2 = 0 <;> by_cases q1 : wcQ N a 1 = 0 <;> by_cases q0 : wcQ N a 0 = 0
  · simp only [q2, q1, q0, true_and, Nat.zero_le, if_true]
    by_cases z1 : kwN N a 0 ≤ kwN N a 1
    · simp only [z1, if_true]
      by_cases z2 : kwN N a 1 ≤ kwN N a 2
      · simp only [z2, if_true]
        rw [if_neg (by omega), if_neg (by omega)]
      · simp only [z2, if_false]
        rw [if_pos (by omega), if_neg (by omega)]
    · simp only [z1, if_false]
      by_cases z2 : kwN N a 0 ≤ kwN N a 2
      · simp only [z2, if_true]
        rw [if_neg (by omega), if_neg (by omega)]
      · simp only [z2, if_false]
        by_cases z3 : kwN N a 2 < kwN N a 1
        · rw [if_pos z3, if_pos (by omega)]
        · rw [if_neg z3, if_pos (by omega)]
  · simp only [q2, q1, q0, true_and, false_and, Nat.zero_le, if_true, if_false]
    by_cases z2 : kwN N a 1 ≤ kwN N a 2
    · simp only [z2, if_true]
      rw [if_neg (by omega)]
    · simp only [z2, if_false]
      rw [if_pos (by omega)]
  · simp only [q2, q1, q0, true_and, false_and, Nat.zero_le, if_true, if_false]
    by_cases z2 : kwN N a 0 ≤ kwN N a 2
    · simp only [z2, if_true]
      rw [if_neg (by omega)]
    · simp only [z2, if_false]
      rw [if_pos (by omega)]
  · simp only [q2, q1, q0, true_and, false_and, Nat.zero_le, if_true, if_false]
  · simp only [q2, q1, q0, true_and, false_and, Nat.zero_le, if_true, if_false]
    by_cases z2 : kwN N a 0 ≤ kwN N a 1
    · simp only [z2, if_true]
      rw [if_neg (by omega)]
    · simp only [z2, if_false]
      rw [if_pos (by omega)]
  · simp only [q2, q1, q0, true_and, false_and, Nat.zero_le, if_true, if_false]
  · simp only [q2, q1, q0, true_and, false_and, Nat.zero_le, if_true, if_false]
  · simp only [q2, q1, q0, true_and, false_and, Nat.zero_le, if_true, if_false]
theorem mq_bestCopy (h : MK σ m) (hw : G m 6 ≠ 0 → WFN (G (m + 1))) (hr : G m 6 = 0 ∨ G m 6 = 1) (v : Int32) : fX10_bestCopy (some m) v (wi σ G) = some (if isA G m v = true then (bcC (G (m + 1)) (v.toNatClampNeg - 1) 3).1 else 0, wi σ (up G m 0 (thr (decide (G m 6 ≠ 0)) (isA G m v) true))) := by
  unfold fX10_bestCopy
  rw [mk_o h, bnP_1, m_mayAct h hr, bnS_1]
  cases e : isA G m v
  · rfl
  · have q : G m 6 ≠ 0 := by
      unfold isA at e
      rw [Bool.and_eq_true, decide_eq_true_eq] at e
      exact e.1
    rw [if_pos rfl, if_pos rfl]
    have hw := hw q
    obtain ⟨-, a, rfl, ha⟩ := isA_t hw.1 e
    generalize hG : up G m 0 (thr (decide (G m 6 ≠ 0)) true true) = G'
    have eG : G' (m + 1) = G (m + 1) := by rw [← hG]; exact up_a (by omega)
    rw [← eG] at hw ha ⊢
    clear hG
    have hb := w1_b hw.1
    rw [nI_clamp (by omega), Nat.add_sub_cancel]
    have k2 := kwN_b hw.1 hw.2.1 ha 2
    have k1 := kwN_b hw.1 hw.2.1 ha 1
    have k0 := kwN_b hw.1 hw.2.1 ha 0
    -- one turn
    have step : ∀ (gr : Nat) (x : Int32) (y : Int32), gr < 3 → fX10_bestCopy_l1 (some m) (nI (a + 1)) (wi σ G') (x, y, nI gr) = some (.inl (if wcQ (G' (m + 1)) a gr = 0 ∧ y < nI (kwN (G' (m + 1)) a gr) then (nI gr, nI (kwN (G' (m + 1)) a gr), nI gr + nO) else (x, y, nI gr + nO))) := fun gr x y hgr => by
      unfold fX10_bestCopy_l1
      rw [if_neg (nI_lt0 (by omega)), nI_pred]
      dsimp only
      rw [m_whyCopy h hw ha hgr, bnP_1]
      by_cases z : wcQ (G' (m + 1)) a gr = 0
      · rw [if_pos z, m_knownWith h hw ha hgr, bnP_1]
        by_cases z2 : y < nI (kwN (G' (m + 1)) a gr)
        · rw [if_pos z2, bnP_1, if_pos ⟨z, z2⟩]
          rfl
        · rw [if_neg z2, if_neg (fun q => z2 q.2)]
          rfl
      · rw [if_neg z, if_neg (fun q => z q.1)]
        rfl
    have fin : ∀ x y : Int32, fX10_bestCopy_l1 (some m) (nI (a + 1)) (wi σ G') (x, y, nO) = some (.inr x) := fun x y => by
      unfold fX10_bestCopy_l1
      exact if_pos (show nO < 0 by decide)
    have e3 : lpP (fX10_bestCopy_l1 (some m) (nI (a + 1)) (wi σ G')) FUEL ((-1), (-1), 2) = some (bcC (G' (m + 1)) a 3).1 := by
      rw [bc_eq]
      show lpP (fX10_bestCopy_l1 (some m) (nI (a + 1)) (wi σ G')) (199996 + 1 + 1 + 1 + 1) (nO, nO, nI 2) = _
      rw [lpP_s _ (step 2 nO nO (by decide))]
      have s2 : nI 2 + nO = nI 1 := by decide
      have s1 : nI 1 + nO = nI 0 := by decide
      have s0 : nI 0 + nO = nO := by decide
      have l2 : nO < nI (kwN (G' (m + 1)) a 2) := nO_lt (by omega)
      have l1 : nO < nI (kwN (G' (m + 1)) a 1) := nO_lt (by omega)
      have l0 : nO < nI (kwN (G' (m + 1)) a 0) := nO_lt (by omega)
      have c21 : (wcQ (G' (m + 1)) a 1 = 0 ∧ nI (kwN (G' (m + 1)) a 2) < nI (kwN (G' (m + 1)) a 1)) ↔ (wcQ (G' (m + 1)) a 1 = 0 ∧ kwN (G' (m + 1)) a 2 < kwN (G' (m + 1)) a 1) := by rw [nI_ltI (by omega) (by omega)]
      have c10 : (wcQ (G' (m + 1)) a 0 = 0 ∧ nI (kwN (G' (m + 1)) a 1) < nI (kwN (G' (m + 1)) a 0)) ↔ (wcQ (G' (m + 1)) a 0 = 0 ∧ kwN (G' (m + 1)) a 1 < kwN (G' (m + 1)) a 0) := by rw [nI_ltI (by omega) (by omega)]
      have c20 : (wcQ (G' (m + 1)) a 0 = 0 ∧ nI (kwN (G' (m + 1)) a 2) < nI (kwN (G' (m + 1)) a 0)) ↔ (wcQ (G' (m + 1)) a 0 = 0 ∧ kwN (G' (m + 1)) a 2 < kwN (G' (m + 1)) a 0) := by rw [nI_ltI (by omega) (by omega)]
      rw [s2]
      by_cases q2 : wcQ (G' (m + 1)) a 2 = 0
      · rw [if_pos ⟨q2, l2⟩, if_pos q2, lpP_s _ (step 1 _ _ (by decide)), s1]
        by_cases q1 : wcQ (G' (m + 1)) a 1 = 0 ∧ kwN (G' (m + 1)) a 2 < kwN (G' (m + 1)) a 1
        · rw [if_pos (c21.mpr q1), if_pos q1, lpP_s _ (step 0 _ _ (by decide)), s0]
          by_cases q0 : wcQ (G' (m + 1)) a 0 = 0 ∧ kwN (G' (m + 1)) a 1 < kwN (G' (m + 1)) a 0
          · rw [if_pos (c10.mpr q0), if_pos q0, lpP_e _ (fin _ _)]
          · rw [if_neg (fun q => q0 (c10.mp q)), if_neg q0, lpP_e _ (fin _ _)]
        · rw [if_neg (fun q => q1 (c21.mp q)), if_neg q1, lpP_s _ (step 0 _ _ (by decide)), s0]
          by_cases q0 : wcQ (G' (m + 1)) a 0 = 0 ∧ kwN (G' (m + 1)) a 2 < kwN (G' (m + 1)) a 0
          · rw [if_pos (c20.mpr q0), if_pos q0, lpP_e _ (fin _ _)]
          · rw [if_neg (fun q => q0 (c20.mp q)), if_neg q0, lpP_e _ (fin _ _)]
      · rw [if_neg (fun q => q2 q.1), if_neg q2, lpP_s _ (step 1 _ _ (by decide)), s1]
        by_cases q1 : wcQ (G' (m + 1)) a 1 = 0
        · rw [if_pos ⟨q1, l1⟩, if_pos q1, lpP_s _ (step 0 _ _ (by decide)), s0]
          by_cases q0 : wcQ (G' (m + 1)) a 0 = 0 ∧ kwN (G' (m + 1)) a 1 < kwN (G' (m + 1)) a 0
          · rw [if_pos (c10.mpr q0), if_pos q0, lpP_e _ (fin _ _)]
          · rw [if_neg (fun q => q0 (c10.mp q)), if_neg q0, lpP_e _ (fin _ _)]
        · rw [if_neg (fun q => q1 q.1), if_neg q1, lpP_s _ (step 0 _ _ (by decide)), s0]
          by_cases q0 : wcQ (G' (m + 1)) a 0 = 0
          · rw [if_pos ⟨q0, l0⟩, if_pos q0, lpP_e _ (fin _ _)]
          · rw [if_neg (fun q => q0 q.1), if_neg q0, lpP_e _ (fin _ _)]
    rw [e3, bnP_1]
/-- case 25: BESTCOPY -/
theorem lc25 (h : LO σ G J o b m d) (ho : o ≠ b + 14) (hm : m ≠ b + 14 ∧ m + 1 ≠ b + 14) {Lx : Nat} {xs : Nat → Int32} {v5 v : Int32} (hx : sld Lx xs (v5 + 1) = some v) (v4 : Option Nat) : ∃ t y a c f, fL_c25 Lx xs (some o) (some m) (some d) v4 v5 (wc σ G J) = some ((.ok () : Except Nat Unit), wc σ (up (cw G (b + 14) f) m 0 t) (upJ J d 0 y), a, c) ∧ a ≤ 1 ∧ c ≤ 6 := by
  unfold fL_c25 fL_bestCopy
  simp only [hx, bnP_1]
  obtain ⟨i, j, f, hC, hi, hj⟩ := cq_bestCopy h.1 h.2.2.2.2.2 v
  have h' := lo_s14 h ho hm f
  have hr : cw G (b + 14) f m 6 = 0 ∨ cw G (b + 14) f m 6 = 1 := by rw [h'.2.2.2.2.1]; exact h'.2.2.2.1
  have hM := fun J' => mq_bestCopy (σ := wc σ (cw G (b + 14) f) J') (G := cw G (b + 14) f) h.2.1 (fun q => (h'.2.2.2.2.2 (by rw [← h'.2.2.2.2.1]; exact q)).1) hr v
  obtain ⟨y, hy⟩ := lq_gen h.2.2.1 h.2.1 hC hM (g := fun n3 s2 => if n3 = 0 then some (.ok 1, s2, 0, 0) else if n3 = 1 then some (.ok 2, s2, 0, 0) else none) (by
    rw [up_eq, isA_e, thr_pq, cw_b hm.1, cw_b hm.2, h.2.2.2.2.1]
    refine lqR_ans2 (fun q1 q2 => ?_) rfl rfl
    rw [q1, q2]
    rfl)
  exact ⟨_, y, i, j, f, hy, hi, hj⟩
end LQ11
