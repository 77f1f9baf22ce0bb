/-! THE PURE LEVEL, 29: WHYNOTCOPY, COPYWORDS, BESTCOPY -/
/-- why an act can't be copied -/
def bdA (N : Nat → Int32) (a gr g : Nat) : Bool := hwA N a gr g && !knN N g
def wcQ (N : Nat → Int32) (a gr : Nat) : Int32 := if N (9 + 9 * a + 1) = 1 then (match fuN (fun k => bdA N a gr (aF N a + k)) (aM N a) with | some _ => 2 | none => if nCp N = 8 then 3 else 0) else 1
section LQ11
variable {σ : HpT} {G : Nat → Nat → Int32} {J : Nat → Nat → Int64} {o b m d : Nat} {N : Nat → Int32}
theorem bk_k14 (h : BK σ b) : hK σ (b + 14) = 3 ∧ b + 14 < hN σ := ⟨h.2.1.2.2.2.2, by have := h.1; omega⟩
theorem rb_s14 (w1 : W1 N) (r : RB G J b N) (f : Nat → Int32) : RB (cw G (b + 14) f) J b N := rb_cong w1 (fun a _ _ _ _ q _ => cw_b q) (fun _ _ _ => rfl) r
theorem fs_lo {n x y : Nat} (e : fsN N n m = some (x, y)) : n ≤ x ∧ x ≤ y ∧ y < n + m := (fsN_some e).1
theorem hwA_out {a gr g x y : Nat} (e : fsN N (aF N a) (aM N a) = some (x, y)) (hg : g < x ∨ y < g) : hwA N a gr g = false := by
  obtain ⟨p1, p2, p3, p4, p5⟩ := fsN_some e
  unfold hwA hbN
  by_cases h1 : aF N a ≤ g
  · by_cases h2 : g < aF N a + aM N a
    · rcases hg with hg | hg
      · rw [p4 g h1 hg, Bool.false_and, Bool.and_false]
      · rw [p5 g hg h2, Bool.false_and, Bool.and_false]
    · rw [decide_eq_false h2, Bool.and_false, Bool.false_and]
  · rw [decide_eq_false h1, Bool.false_and, Bool.false_and]
theorem hwA_no {a gr : Nat} (e : fsN N (aF N a) (aM N a) = none) (g : Nat) : hwA N a gr g = false := by
  unfold hwA hbN
  by_cases h1 : aF N a ≤ g
  · by_cases h2 : g < aF N a + aM N a
    · have := fsN_none e (g - aF N a) (by omega)
      rw [show aF N a + (g - aF N a) = g by omega] at this
      rw [this, Bool.false_and, Bool.and_false]
    · rw [decide_eq_false h2, Bool.and_false, Bool.false_and]
  · rw [decide_eq_false h1, Bool.false_and, Bool.false_and]
theorem c_copyReason (h : BK σ b) (hw : WFN N) (r : RB G J b N) {a gr : Nat} (ha : a < nAc N) (hgr : gr < 3) : ∃ f, fX1_copyReason (some b) (nI (a + 1)) (nI gr) (wc σ G J) = some (wcQ N a gr, wc σ (cw G (b + 14) f) J) := by
  have hb := w1_b hw.1
  obtain ⟨p1, p2, p3, p4, p5⟩ := (act_ok hw.1 hw.2.1 ha).1
  have hle := act_le hw.1 hw.2.1 ha
  have hr := rb_act r ha
  unfold fX1_copyReason wcQ
  rw [bk_o h, bnP_1, if_neg (show ¬ nI (a + 1) < 1 from nI_nlt (show 1 ≤ a + 1 by omega) (by omega)), bk_I h, bnP_1, rb_n r hw.1, if_neg (nI_nlt (by omega) (by omega)), bk_r6 h, bnP_1, nI_pred, bk_aR h p1, bnP_1, bk_aI h p1, bnP_1, hr.2.2.1]
  by_cases q : N (9 + 9 * a + 1) = 1
  · obtain ⟨f, hf, hd⟩ := c_draw h hw.1 hw.2.1 hw.2.2.2 r (Or.inl rfl) ha hgr
    have r' := rb_s14 hw.1 r f
    have hk := bk_k14 h
    refine ⟨f, ?_⟩
    have xI : ∀ k, gI (wc σ (cw G (b + 14) f) J) (some (b + 14)) 3 k = some (f k) := fun k => by
      rw [bk_tI h, cw_a]
    rw [if_pos q, if_pos q, bk_r11 h, bnP_1, bk_r8 h, bnP_1, bnP_1, bk_aR h p1, bnP_1, hf, bnP_1, bk_r11 h, bnP_1, xI, bnP_1]
    have hh : ∀ g, g < nWd N → fX3_holds (some (b + 14)) (some (b + 3)) (nI g) (wc σ (cw G (b + 14) f) J) = some (hwA N a gr g) := fun g hg => c_holdsX h hw.1 hw.2.1 hk.1 hk.2 ha hgr hg (by rw [cw_a]; exact hd.1.2.1) (by rw [cw_a]; exact hd.1.2.2) (rb_sk r' hg)
    have d3 := hd.1.2.2
    have last : bnP (gI (wc σ (cw G (b + 14) f) J) (some b) 1 3) (fun x47 => (if x47 < 8 then some ((0 : Int32), wc σ (cw G (b + 14) f) J) else some (3, wc σ (cw G (b + 14) f) J))) = some (if nCp N = 8 then 3 else 0, wc σ (cw G (b + 14) f) J) := by
      rw [bk_I h, bnP_1, rb_p r' hw.1]
      by_cases q8 : nCp N = 8
      · rw [if_neg (by rw [q8]; decide), if_pos q8]
      · rw [if_pos (show nI (nCp N) < 8 from nI_lt (show nCp N < 8 by omega) (by decide)), if_neg q8]
    cases e : fsN N (aF N a) (aM N a) with
    | none =>
      rw [e] at d3
      have d3 : f 2 = 0 ∧ f 3 = nO := d3
      have e0 : fuN (fun k => bdA N a gr (aF N a + k)) (aM N a) = none := by
        cases e1 : fuN (fun k => bdA N a gr (aF N a + k)) (aM N a) with
        | none => rfl
        | some j =>
          have := (fuN_some e1).2.1
          unfold bdA at this
          rw [hwA_no e, Bool.false_and] at this
          cases this
      have e2 : lpP (fX1_copyReason_l1 (some b) (wc σ (cw G (b + 14) f) J)) FUEL (f 2) = some (.inl ()) := by
        refine lpP_e 199999 ?_
        unfold fX1_copyReason_l1
        rw [bk_r11 h, bnP_1, xI, bnP_1, d3.1, d3.2, if_pos (by decide)]
      rw [e2, bnP_1, e0]
      exact last
    | some xy =>
      obtain ⟨x, y⟩ := xy
      rw [e] at d3
      have d3 : f 2 = nI x ∧ f 3 = nI y := d3
      obtain ⟨x1, x2, x3⟩ := fs_lo e
      have step : ∀ g, x ≤ g → g ≤ y → fX1_copyReason_l1 (some b) (wc σ (cw G (b + 14) f) J) (nI g) = (if bdA N a gr g = true then some (.inr (.inr 2)) else some (.inl (nI (g + 1)))) := fun g g1 g2 => by
        unfold fX1_copyReason_l1 bdA
        rw [bk_r11 h, bnP_1, xI, bnP_1, d3.2, if_neg (nI_nlt (by omega) (by omega)), bnP_1, bk_r8 h, bnP_1, hh g (by omega), bnP_1]
        cases hwA N a gr g
        · rw [if_neg (by decide), Bool.false_and, if_neg (by decide), nI_a1]
        · rw [if_pos rfl, c_isKnown h hw r' (by omega), bnP_1]
          cases knN N g
          · rfl
          · rw [if_pos rfl, if_neg (by decide), nI_a1]
      cases e1 : fuN (fun k => bdA N a gr (aF N a + k)) (aM N a) with
      | none =>
        have e2 : lpP (fX1_copyReason_l1 (some b) (wc σ (cw G (b + 14) f) J)) FUEL (f 2) = some (.inl ()) := by
          refine lpP_f (y + 1 - x) (fun k => nI (x + k)) (by rw [d3.1, Nat.add_zero]) (by omega) (fun k hk => ?_) ?_
          · have := fuN_none e1 (x + k - aF N a) (by omega)
            rw [show aF N a + (x + k - aF N a) = x + k by omega] at this
            rw [step _ (by omega) (by omega), this]
            rfl
          · unfold fX1_copyReason_l1
            rw [bk_r11 h, bnP_1, xI, bnP_1, d3.2, if_pos (nI_lt (by omega) (by omega))]
        rw [e2, bnP_1]
        exact last
      | some j =>
        obtain ⟨h3, h4, h5⟩ := fuN_some e1
        have hj : x ≤ aF N a + j ∧ aF N a + j ≤ y := by
          by_cases z : aF N a + j < x ∨ y < aF N a + j
          · unfold bdA at h4
            rw [hwA_out e z, Bool.false_and] at h4
            cases h4
          · omega
        have e2 : lpP (fX1_copyReason_l1 (some b) (wc σ (cw G (b + 14) f) J)) FUEL (f 2) = some (.inr 2) := by
          refine lpP_f (aF N a + j - x) (fun k => nI (x + k)) (by rw [d3.1, Nat.add_zero]) (by omega) (fun k hk => ?_) ?_
          · have := h5 (x + k - aF N a) (by omega)
            rw [show aF N a + (x + k - aF N a) = x + k by omega] at this
            rw [step _ (by omega) (by omega), this]
            rfl
          · rw [show x + (aF N a + j - x) = aF N a + j by omega, step _ (by omega) (by omega), h4]
            rfl
        rw [e2, bnP_1]
  · refine ⟨G (b + 14), ?_⟩
    rw [if_neg q, if_neg q, cw_self]
theorem wcQ_0 {a gr : Nat} (e : wcQ N a gr = 0) : N (9 + 9 * a + 1) = 1 := by
  unfold wcQ at e
  by_cases q : N (9 + 9 * a + 1) = 1
  · exact q
  · rw [if_neg q] at e
    cases e
theorem cq_whyNotCopy (h : NK σ o b) (hwr : G o 4 ≠ 0 → WFN N ∧ RB G J b N) (v w : Int32) : ∃ i j f, fX9_whyNotCopy (some o) v w (wc σ G J) = some (ansE 0 1 2 (decide (G o 4 ≠ 0)) (inR v (nI 1) (N 3)) (inR w (nI 0) (nI 2)) (wcQ N (v.toNatClampNeg - 1) w.toNatClampNeg), wc σ (cw G (b + 14) f) J, i, j) ∧ i ≤ 1 ∧ j ≤ 6 := by
  have B := nk_B h
  unfold fX9_whyNotCopy
  rw [nk_o h, bnP_1, c_requireBook h]
  by_cases q : G o 4 = 0
  · refine ⟨1, 6, G (b + 14), ?_, by decide, by decide⟩
    rw [if_pos q, bnXA_e, decide_eq_false (fun e => e q), cw_self]
    rfl
  · obtain ⟨hw, r⟩ := hwr q
    have hb := w1_b hw.1
    rw [if_neg q, bnXA_1, decide_eq_true q]
    cases e : inR v (nI 1) (N 3)
    · refine ⟨1, 6, G (b + 14), ?_, by decide, by decide⟩
      rw [c_requireAct0 h hw.1 r e, bnXA_e, cw_self]
      rfl
    · obtain ⟨a, rfl, ha⟩ := inA_t hw.1 e
      rw [c_requireAct1 h hw.1 r ha, bnXA_1, c_requireUpTo, show inR w 0 2 = inR w (nI 0) (nI 2) from rfl]
      cases e2 : inR w (nI 0) (nI 2)
      · refine ⟨1, 6, G (b + 14), ?_, by decide, by decide⟩
        rw [cw_self]
        rfl
      · obtain ⟨gr, rfl, -, hgr⟩ := inR_t (by decide) (by decide) e2
        obtain ⟨f, hf⟩ := c_copyReason B hw r ha (show gr < 3 by omega)
        refine ⟨0, 0, f, ?_, by decide, by decide⟩
        rw [if_pos rfl, bnXA_1, nk_b h, bnP_1, hf, bnS_1, nI_clamp (by omega), nI_clamp (by omega), Nat.add_sub_cancel]
        rfl
theorem cq_copyWords (h : NK σ o b) (hwr : G o 4 ≠ 0 → WFN N ∧ RB G J b N) (v w : Int32) : ∃ i j f, fX9_copyWords (some o) v w (wc σ G J) = some (ansE 0 1 2 (decide (G o 4 ≠ 0)) (inR v (nI 1) (N 3)) (inR w (nI 0) (nI 2)) (wbA N (v.toNatClampNeg - 1) w.toNatClampNeg), wc σ (cw G (b + 14) f) J, i, j) ∧ i ≤ 1 ∧ j ≤ 6 := by
  have B := nk_B h
  unfold fX9_copyWords
  rw [nk_o h, bnP_1, c_requireBook h]
  by_cases q : G o 4 = 0
  · refine ⟨1, 6, G (b + 14), ?_, by decide, by decide⟩
    rw [if_pos q, bnXA_e, decide_eq_false (fun e => e q), cw_self]
    rfl
  · obtain ⟨hw, r⟩ := hwr q
    have hb := w1_b hw.1
    rw [if_neg q, bnXA_1, decide_eq_true q]
    cases e : inR v (nI 1) (N 3)
    · refine ⟨1, 6, G (b + 14), ?_, by decide, by decide⟩
      rw [c_requireAct0 h hw.1 r e, bnXA_e, cw_self]
      rfl
    · obtain ⟨a, rfl, ha⟩ := inA_t hw.1 e
      rw [c_requireAct1 h hw.1 r ha, bnXA_1, c_requireUpTo, show inR w 0 2 = inR w (nI 0) (nI 2) from rfl]
      cases e2 : inR w (nI 0) (nI 2)
      · refine ⟨1, 6, G (b + 14), ?_, by decide, by decide⟩
        rw [cw_self]
        rfl
      · obtain ⟨gr, rfl, -, hgr⟩ := inR_t (by decide) (by decide) e2
        obtain ⟨f, hf, hd⟩ := c_draw B hw.1 hw.2.1 hw.2.2.2 r (Or.inl rfl) ha (show gr < 3 by omega)
        refine ⟨0, 0, f, ?_, by decide, by decide⟩
        rw [if_pos rfl, bnXA_1, nk_b h, bnP_1, bk_r11 B, bnP_1, bnP_1, bk_r8 B, bnP_1, hf, bnP_1, nk_b h, bnP_1, bk_r11 B, bnP_1, bk_tI B, bnP_1, cw_a, hd.2, nI_clamp (by omega), nI_clamp (by omega), Nat.add_sub_cancel]
        rfl
end LQ11
