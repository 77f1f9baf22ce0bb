/-! THE PURE LEVEL, 24: LEAF, COPY, HAS -/
theorem inN_e {n j : Nat} (hn : n < 2 ^ 31) (hj : j < 2 ^ 31) : inR (nI j) (nI 0) (nI n - 1) = decide (j < n) := by
  by_cases z : n = 0
  · rw [z, show nI 0 - 1 = nO from rfl, inR_nO, decide_eq_false (by omega)]
  · rw [nI_m1 (by omega), inR_nI hj (by decide) (by omega), decide_eq_true (Nat.zero_le j), Bool.true_and]
    exact decide_eq_decide.mpr (by omega)
theorem w1_g {N : Nat → Int32} (h : W1 N) : N 2 = nI (nv N 2) ∧ nv N 2 < 5 ∧ 2 ≤ nv N 2 := ⟨h.2.2.1.1.1, h.2.2.1.1.2, h.2.2.1.2⟩
/-- the number that the mate of leaf l would have -/
def mtN (g l : Nat) : Nat := l / g * g + g - 1 - l % g
theorem mtN_b {g l : Nat} (hg : 2 ≤ g) (hg2 : g < 5) : mtN g l ≤ l + 4 := by
  have := Nat.div_mul_le_self l g
  unfold mtN
  omega
def mtQ (N : Nat → Int32) (l : Nat) : Int32 := if mtN (nv N 2) l = l then nO else if mtN (nv N 2) l < nLv N then nI (mtN (nv N 2) l) else nO
def onB (N : Nat → Int32) (l a : Nat) : Bool := decide (aF N a / nRm N ≤ l) && decide (l ≤ (aF N a + aM N a - 1) / nRm N)
def lefW (N : Nat → Int32) (l : Nat) : Nat → Int32
  | 0 => N (99 + l)
  | 1 => nI (pOn N l)
  | 2 => nI (cntN (onB N l) (nAc N))
  | 3 => mtQ N l
  | 4 => nI (l / nv N 2)
  | _ => match fuN (onB N l) (nAc N) with
    | none => 0
    | some k => nI (k + 1)
section LQ9
variable {σ : HpT} {G : Nat → Nat → Int32} {J : Nat → Nat → Int64} {o b m d : Nat} {N : Nat → Int32}
theorem c_gatheringOf (h : BK σ b) (w1 : W1 N) (r : RB G J b N) {l : Nat} (hl : l < 2 ^ 31) : fX4_gatheringOf (some (b + 10)) (nI l) (wc σ G J) = some (nI (l / nv N 2)) := by
  obtain ⟨g1, g2, g3⟩ := w1_g w1
  have r0 : G (b + 10) 0 = nI (nv N 2) := by rw [← g1]; exact r.1.2.2.2.2.2.2.2.1
  unfold fX4_gatheringOf
  have hz : nz (nI (nv N 2)) = some () := if_neg (nI_ne0 (by omega) (by omega))
  rw [lk_o (bk_L h), bnP_1, lk_I (bk_L h), bnP_1, r0, if_neg (nI_nle (by omega) (by omega)), bnP_1, hz, bnP_1, pk_div hl (by omega) (by omega)]
theorem c_mateOf (h : BK σ b) (w1 : W1 N) (r : RB G J b N) {l : Nat} (hl : l < 20) : fX4_mateOf (some (b + 10)) (nI l) (wc σ G J) = some (mtQ N l) := by
  obtain ⟨g1, g2, g3⟩ := w1_g w1
  have r0 : G (b + 10) 0 = nI (nv N 2) := by rw [← g1]; exact r.1.2.2.2.2.2.2.2.1
  have h12 := nlv_12 w1
  have hd := Nat.div_add_mod' l (nv N 2)
  have hm := Nat.mod_lt l (show 0 < nv N 2 by omega)
  unfold fX4_mateOf mtQ
  rw [lk_o (bk_L h), bnP_1, c_gatheringOf h w1 r (by omega), bnP_1, lk_I (bk_L h), bnP_1, bnP_1, r0, pk_mul, nI_add, nI_m1 (by omega), nI_sub (show l / nv N 2 * nv N 2 ≤ l by omega), nI_sub (by omega), show l - l / nv N 2 * nv N 2 = l % nv N 2 by omega]
  show (if nI (mtN (nv N 2) l) = nI l then _ else bnP (fX4_isThere (some (b + 10)) (nI (mtN (nv N 2) l)) (wc σ G J)) (fun x7 => if x7 = true then some (nI (mtN (nv N 2) l)) else some (-1))) = _
  have hM := mtN_b (l := l) g3 g2
  by_cases q : mtN (nv N 2) l = l
  · rw [if_pos (congrArg nI q), if_pos q]
    rfl
  · rw [if_neg (by rw [nI_eq (by omega) (by omega)]; exact q), if_neg q, c_isThere h w1 r, bnP_1, inN_e (by omega) (by omega)]
    by_cases q2 : mtN (nv N 2) l < nLv N
    · rw [decide_eq_true q2, if_pos rfl, if_pos q2]
    · rw [decide_eq_false q2, if_neg q2]
      rfl
theorem c_isOn (h : BK σ b) (hw : WFN N) (r : RB G J b N) {a l : Nat} (ha : a < nAc N) (hl : l < 2 ^ 31) : fX1_isOn (some b) (some (b + 15 + a)) (nI l) (wc σ G J) = some (onB N l a) := by
  obtain ⟨p1, p2, p3, p4, p5⟩ := (act_ok hw.1 hw.2.1 ha).1
  have hb := w1_b hw.1
  have hr := rb_act r ha
  have d1 := Nat.div_le_self (aF N a) (nRm N)
  have d2 := Nat.div_le_self (aF N a + aM N a - 1) (nRm N)
  unfold fX1_isOn onB
  rw [bk_o h, bnP_1, bk_aI h p1, bnP_1, hr.2.2.2.2.2.1, p2, c_leafOf h hw.1 r (by omega), bnP_1]
  by_cases q : aF N a / nRm N ≤ l
  · rw [if_neg (nI_nlt q (by omega)), bnP_1, bk_aI h p1, bnP_1, hr.2.2.2.2.2.2.1, p3, nI_add, nI_m1 (by omega), c_leafOf h hw.1 r (by omega), bnP_1, decide_eq_true q, Bool.true_and]
    by_cases q2 : l ≤ (aF N a + aM N a - 1) / nRm N
    · rw [if_neg (nI_nlt q2 (by omega)), decide_eq_true q2]
    · rw [if_pos (nI_lt (by omega) (by omega)), decide_eq_false q2]
  · rw [if_pos (nI_lt (by omega) (by omega)), decide_eq_false q, Bool.false_and]
theorem c_actsOn (h : BK σ b) (hw : WFN N) (r : RB G J b N) {l : Nat} (hl : l < 2 ^ 31) : fX1_actsOn (some b) (nI l) (wc σ G J) = some (nI (cntN (onB N l) (nAc N))) := by
  have hb := w1_b hw.1
  unfold fX1_actsOn
  have e : lpP (fX1_actsOn_l1 (some b) (nI l) (wc σ G J)) FUEL (0, 0) = some (nI (cntN (onB N l) (nAc N))) := by
    refine lpP_f (nAc N) (fun k => (nI (cntN (onB N l) k), nI k)) rfl (by omega) (fun k hk => ?_) ?_
    · unfold fX1_actsOn_l1
      have hs : cntN (onB N l) (k + 1) = cntN (onB N l) k + (if onB N l k = true then 1 else 0) := rfl
      rw [bk_I h, bnP_1, rb_n r hw.1]
      dsimp only
      rw [if_neg (nI_ge (by omega) (by omega)), bk_r6 h, bnP_1, bk_aR h (by omega), bnP_1, c_isOn h hw r hk hl, bnP_1, hs]
      cases onB N l k
      · rw [if_neg (by decide), if_neg (by decide), nI_a1]
        rfl
      · rw [if_pos rfl, if_pos rfl, nI_a1, nI_a1]
    · unfold fX1_actsOn_l1
      rw [bk_I h, bnP_1, rb_n r hw.1]
      dsimp only
      rw [if_pos (nI_le (Nat.le_refl _) (by omega))]
  rw [bk_o h, bnP_1, e, bnP_1]
theorem c_firstActOn (h : BK σ b) (hw : WFN N) (r : RB G J b N) {l : Nat} (hl : l < 2 ^ 31) : fX1_firstActOn (some b) (nI l) (wc σ G J) = some (match fuN (onB N l) (nAc N) with | none => 0 | some k => nI (k + 1)) := by
  have hb := w1_b hw.1
  unfold fX1_firstActOn
  have step : ∀ k, k < nAc N → fX1_firstActOn_l1 (some b) (nI l) (wc σ G J) (nI k) = (if onB N l k = true then some (.inr (.inr (nI (k + 1)))) else some (.inl (nI (k + 1)))) := fun k hk => by
    unfold fX1_firstActOn_l1
    rw [bk_I h, bnP_1, rb_n r hw.1, if_neg (nI_ge (by omega) (by omega)), bk_r6 h, bnP_1, bk_aR h (by omega), bnP_1, c_isOn h hw r hk hl, bnP_1, nI_a1]
  cases e2 : fuN (onB N l) (nAc N) with
  | none =>
    have e3 : lpP (fX1_firstActOn_l1 (some b) (nI l) (wc σ G J)) FUEL 0 = some (.inl ()) := by
      refine lpP_f (nAc N) (fun k => nI k) rfl (by omega) (fun k hk => ?_) ?_
      · rw [step k hk, fuN_none e2 k hk]
        rfl
      · unfold fX1_firstActOn_l1
        rw [bk_I h, bnP_1, rb_n r hw.1, if_pos (nI_le (Nat.le_refl _) (by omega))]
    rw [bk_o h, bnP_1, e3, bnP_1]
  | some i =>
    obtain ⟨h3, h4, h5⟩ := fuN_some e2
    have e3 : lpP (fX1_firstActOn_l1 (some b) (nI l) (wc σ G J)) FUEL 0 = some (.inr (nI (i + 1))) := by
      refine lpP_f i (fun k => nI k) rfl (by omega) (fun k hk => ?_) ?_
      · rw [step k (by omega), h5 k hk]
        rfl
      · rw [step i h3, h4]
        rfl
    rw [bk_o h, bnP_1, e3, bnP_1]
theorem cq_leaf (h : NK σ o b) (hwr : G o 4 ≠ 0 → WFN N ∧ RB G J b N) (v w : Int32) : fX9_leaf (some o) v w (wc σ G J) = some (ansE 0 1 2 (decide (G o 4 ≠ 0)) (inR v (nI 0) (nI (nLv N) - 1)) (inR w (nI 0) (nI 5)) (lefW N v.toNatClampNeg w.toNatClampNeg)) := by
  have B := nk_B h
  unfold fX9_leaf
  rw [nk_o h, bnP_1, c_requireBook h]
  by_cases q : G o 4 = 0
  · rw [if_pos q, bnX_e, decide_eq_false (fun e => e q)]
    rfl
  · obtain ⟨hw, r⟩ := hwr q
    rw [if_neg q, bnX_1, c_requireLeaf h hw.1 r, decide_eq_true q]
    cases e : inR v (nI 0) (nI (nLv N) - 1)
    · rfl
    · obtain ⟨l, rfl, hl⟩ := inL_t hw.1 e
      have h12 := nlf_pos hw.1 hl
      rw [if_pos rfl, bnX_1, c_requireUpTo, li_0, li_5]
      cases e2 : inR w (nI 0) (nI 5)
      · rfl
      · obtain ⟨j, rfl, -, hj⟩ := inR_t (by decide) (by decide) e2
        rw [if_pos rfl, bnX_1, nI_clamp (show l < 2 ^ 31 by omega), nI_clamp (by omega)]
        show _ = some (Except.ok (lefW N l j))
        have hj : j = 0 ∨ j = 1 ∨ j = 2 ∨ j = 3 ∨ j = 4 ∨ j = 5 := by omega
        rcases hj with rfl | rfl | rfl | rfl | rfl | rfl
        · rw [if_pos (by decide), nk_b h, bnP_1, bk_r9 B, bnP_1, c_stateOf B hw.1 r hl, bnP_1]
          rfl
        · rw [if_neg (by decide), if_pos (by decide), nk_b h, bnP_1, c_wordsOn B hw.1 r hl, bnP_1]
          rfl
        · rw [if_neg (by decide), if_neg (by decide), if_pos (by decide), nk_b h, bnP_1, c_actsOn B hw r (by omega), bnP_1]
          rfl
        · rw [if_neg (by decide), if_neg (by decide), if_neg (by decide), if_pos (by decide), nk_b h, bnP_1, bk_r9 B, bnP_1, c_mateOf B hw.1 r (by omega), bnP_1]
          rfl
        · rw [if_neg (by decide), if_neg (by decide), if_neg (by decide), if_neg (by decide), if_pos (by decide), nk_b h, bnP_1, bk_r9 B, bnP_1, c_gatheringOf B hw.1 r (by omega), bnP_1]
          rfl
        · rw [if_neg (by decide), if_neg (by decide), if_neg (by decide), if_neg (by decide), if_neg (by decide), nk_b h, bnP_1, c_firstActOn B hw r (by omega), bnP_1]
          rfl
/-! copies -/
def kbB (N : Nat → Int32) (c g : Nat) : Bool := hwN N c g && olN N g && decide (cwN N g = 1)
def cpW (N : Nat → Int32) (c : Nat) : Nat → Int32
  | 0 => nI (oO N c + 1)
  | 1 => nI (oG N c)
  | 2 => sumI (fun k => bI (hbN N (aF N (oO N c)) (aM N (oO N c)) (oG N c) (aF N (oO N c) + k)) + (if oG N c = 0 then N (127 + 13 * (aF N (oO N c) + k) + 4) else 0)) (aM N (oO N c))
  | 3 => 3 - nI (oG N c)
  | _ => nI (cntN (kbB N c) (nWd N))
theorem c_requireCopy (h : NK σ o b) (w1 : W1 N) (r : RB G J b N) (v : Int32) : fX9_requireCopy (some o) v (wc σ G J) = some (if inR v (nI 0) (N 6 - 1) = true then .ok (some (b + 25 + v.toNatClampNeg)) else .error 1) := by
  have hb := w1_b w1
  have he := (w1_e w1).2.2.2.2
  unfold fX9_requireCopy
  rw [nk_o h, bnP_1]
  by_cases q : v < 0
  · rw [if_pos q]
    unfold inR
    rw [show decide (nI 0 ≤ v) = false from decide_eq_false (Int32.not_le.mpr q), Bool.false_and]
    rfl
  · obtain ⟨j, hj, rfl⟩ := nI_of q
    rw [if_neg q, nk_b h, bnP_1, bk_I (nk_B h), bnP_1, rb_p r w1, he, inN_e (by omega) hj, nI_clamp hj]
    by_cases q2 : j < nCp N
    · rw [if_pos (nI_lt q2 (by omega)), decide_eq_true q2, if_pos rfl, bnP_1, bk_r7 (nk_B h), bnP_1, bk_pR (nk_B h) (by omega), bnP_1]
    · rw [if_neg (nI_nlt (by omega) hj), decide_eq_false q2]
      rfl
theorem inC_t (w1 : W1 N) {v : Int32} (e : inR v (nI 0) (N 6 - 1) = true) : ∃ c, v = nI c ∧ c < nCp N := by
  have hb := w1_b w1
  rw [(w1_e w1).2.2.2.2] at e
  exact inN_t (by omega) e
theorem hw_iv (hw : WFN N) {c x y : Nat} (hc : c < nCp N) (e : fsN N (aF N (oO N c)) (aM N (oO N c)) = some (x, y)) : x ≤ y ∧ y < nWd N ∧ ∀ g, g < x ∨ y < g → hwN N c g = false := by
  obtain ⟨⟨q2, q3⟩, q1, q4⟩ := w4_c hw.2.2.2 hc
  have hle := act_le hw.1 hw.2.1 q2
  obtain ⟨p1, p2, p3, p4, p5⟩ := fsN_some e
  refine ⟨p1.2.1, by omega, fun g hg => ?_⟩
  unfold hwN hbN
  by_cases h1 : aF N (oO N c) ≤ g
  · by_cases h2 : g < aF N (oO N c) + aM N (oO N c)
    · rcases hg with hg | hg
      · rw [p4 g h1 hg, Bool.false_and, Bool.and_false]
      · rw [p5 g hg h2, Bool.false_and, Bool.and_false]
    · rw [decide_eq_false h2, Bool.and_false, Bool.false_and]
  · rw [decide_eq_false h1, Bool.false_and, Bool.false_and]
theorem hw_no (hw : WFN N) {c : Nat} (hc : c < nCp N) (e : fsN N (aF N (oO N c)) (aM N (oO N c)) = none) (g : Nat) : hwN N c g = false := by
  unfold hwN hbN
  by_cases h1 : aF N (oO N c) ≤ g
  · by_cases h2 : g < aF N (oO N c) + aM N (oO N c)
    · have := fsN_none e (g - aF N (oO N c)) (by omega)
      rw [show aF N (oO N c) + (g - aF N (oO N c)) = g by omega] at this
      rw [this, Bool.false_and, Bool.and_false]
    · rw [decide_eq_false h2, Bool.and_false, Bool.false_and]
  · rw [decide_eq_false h1, Bool.false_and, Bool.false_and]
theorem c_knownByAlone (h : BK σ b) (hw : WFN N) (r : RB G J b N) {c : Nat} (hc : c < nCp N) : fX1_knownByAlone (some b) (some (b + 25 + c)) (wc σ G J) = some (nI (cntN (kbB N c) (nWd N))) := by
  have hb := w1_b hw.1
  obtain ⟨r1, r2, r3, -⟩ := r.2.2 c hc
  unfold fX1_knownByAlone
  rw [bk_o h, bnP_1, bk_pI h (by omega), bnP_1]
  cases e : fsN N (aF N (oO N c)) (aM N (oO N c)) with
  | none =>
    rw [e] at r3
    have r3 : G (b + 25 + c) 2 = 0 ∧ G (b + 25 + c) 3 = nO := r3
    rw [r3.1, cntN_zero (fun g hg => by unfold kbB; rw [hw_no hw hc e g, Bool.false_and, Bool.false_and])]
    have e2 : lpP (fX1_knownByAlone_l1 (some b) (some (b + 25 + c)) (wc σ G J)) FUEL (0, 0) = some (nI 0) := by
      refine lpP_e 199999 ?_
      unfold fX1_knownByAlone_l1
      rw [bk_pI h (by omega), bnP_1, r3.2]
      dsimp only
      rw [if_pos (by decide)]
      rfl
    rw [e2, bnP_1]
  | some xy =>
    obtain ⟨x, y⟩ := xy
    rw [e] at r3
    have r3 : G (b + 25 + c) 2 = nI x ∧ G (b + 25 + c) 3 = nI y := r3
    obtain ⟨h1, h2, h3⟩ := hw_iv hw hc e
    have ec : cntN (kbB N c) (nWd N) = cntN (fun k => kbB N c (x + k)) (y + 1 - x) := by
      rw [cntN_pre (a := y + 1) (by omega) (fun i q1 q2 => by unfold kbB; rw [h3 i (Or.inr (by omega)), Bool.false_and, Bool.false_and])]
      obtain ⟨j, hj⟩ : ∃ j, y + 1 = x + j := ⟨y + 1 - x, by omega⟩
      rw [hj, cntN_add, cntN_zero (p := kbB N c) (fun i hi => by unfold kbB; rw [h3 i (Or.inl hi), Bool.false_and, Bool.false_and]), Nat.zero_add, Nat.add_sub_cancel_left]
    rw [r3.1, ec]
    have e2 : lpP (fX1_knownByAlone_l1 (some b) (some (b + 25 + c)) (wc σ G J)) FUEL (0, nI x) = some (nI (cntN (fun k => kbB N c (x + k)) (y + 1 - x))) := by
      refine lpP_f (y + 1 - x) (fun k => (nI (cntN (fun k => kbB N c (x + k)) k), nI (x + k))) rfl (by omega) (fun k hk => ?_) ?_
      · unfold fX1_knownByAlone_l1
        have hs : cntN (fun k => kbB N c (x + k)) (k + 1) = cntN (fun k => kbB N c (x + k)) k + (if kbB N c (x + k) = true then 1 else 0) := rfl
        have hl := nlv_lt hw.1 (g := x + k) (by omega)
        rw [bk_pI h (by omega), bnP_1, r3.2]
        dsimp only
        rw [if_neg (nI_nlt (by omega) (by omega)), bk_r8 h, bnP_1, c_holds h hw r hc (by omega), bnP_1, hs]
        unfold kbB
        cases hwN N c (x + k)
        · rw [if_neg (by decide), nI_a1]
          rfl
        · rw [if_pos rfl, bk_r9 h, bnP_1, c_leafOf h hw.1 r (by omega), bnP_1, c_isLost h hw.1 r hl.1, bnP_1]
          show (if olN N (x + k) = true then _ else _) = _
          cases olN N (x + k)
          · rw [if_neg (by decide), nI_a1]
            rfl
          · have hcw : cwN N (x + k) < 2 ^ 31 := by
              have h1 := cntN_le (fun c => hwN N c (x + k)) (nCp N)
              show cntN _ _ < _
              omega
            rw [if_pos rfl, c_copiesWith h hw r (by omega), bnP_1]
            by_cases q : cwN N (x + k) = 1
            · rw [if_pos (by rw [q]; rfl), decide_eq_true q, nI_a1, nI_a1]
              rfl
            · rw [if_neg (by rw [li_1, nI_eq hcw (by omega)]; exact q), decide_eq_false q, nI_a1]
              rfl
      · unfold fX1_knownByAlone_l1
        rw [bk_pI h (by omega), bnP_1, r3.2]
        dsimp only
        rw [if_pos (nI_lt (by omega) (by omega))]
    rw [e2, bnP_1]
theorem cq_copy (h : NK σ o b) (hwr : G o 4 ≠ 0 → WFN N ∧ RB G J b N) (v w : Int32) : fX9_copy (some o) v w (wc σ G J) = some (ansE 0 1 2 (decide (G o 4 ≠ 0)) (inR v (nI 0) (N 6 - 1)) (inR w (nI 0) (nI 4)) (cpW N v.toNatClampNeg w.toNatClampNeg)) := by
  have B := nk_B h
  unfold fX9_copy
  rw [nk_o h, bnP_1, c_requireBook h]
  by_cases q : G o 4 = 0
  · rw [if_pos q, bnX_e, decide_eq_false (fun e => e q)]
    rfl
  · obtain ⟨hw, r⟩ := hwr q
    have hb := w1_b hw.1
    rw [if_neg q, bnX_1, c_requireCopy h hw.1 r, decide_eq_true q]
    cases e : inR v (nI 0) (N 6 - 1)
    · rfl
    · obtain ⟨c, rfl, hc⟩ := inC_t hw.1 e
      obtain ⟨⟨q2, q3⟩, q1, q4⟩ := w4_c hw.2.2.2 hc
      obtain ⟨r1, r2, r3, r4⟩ := r.2.2 c hc
      rw [if_pos rfl, bnX_1, c_requireUpTo, li_0, li_4, nI_clamp (show c < 2 ^ 31 by omega)]
      cases e2 : inR w (nI 0) (nI 4)
      · rfl
      · obtain ⟨j, rfl, -, hj⟩ := inR_t (by decide) (by decide) e2
        rw [if_pos rfl, bnX_1, nI_clamp (by omega)]
        show _ = some (Except.ok (cpW N c j))
        have hj : j = 0 ∨ j = 1 ∨ j = 2 ∨ j = 3 ∨ j = 4 := by omega
        rcases hj with rfl | rfl | rfl | rfl | rfl
        · rw [if_pos (by decide), bk_pI B (by omega), bnP_1, r1]
          rfl
        · rw [if_neg (by decide), if_pos (by decide), bk_pI B (by omega), bnP_1, r2, q4]
          rfl
        · rw [if_neg (by decide), if_neg (by decide), if_pos (by decide), bk_pI B (by omega), bnP_1, r4]
          rfl
        · unfold fX3_fee
          rw [if_neg (by decide), if_neg (by decide), if_neg (by decide), if_pos (by decide), bk_po B (by omega), bnP_1, bk_pI B (by omega), bnP_1, bnP_1, r2, q4]
          rfl
        · rw [if_neg (by decide), if_neg (by decide), if_neg (by decide), if_neg (by decide), nk_b h, bnP_1, c_knownByAlone B hw r hc, bnP_1]
          rfl
end LQ9
