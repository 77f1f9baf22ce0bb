/-! THE PURE LEVEL, 16: UNKNOWNIF, the case -/
section LQ6
variable {σ : HpT} {G : Nat → Nat → Int32} {J : Nat → Nat → Int64} {o b m d : Nat} {N : Nat → Int32}
theorem m_lostBy (h : MK σ m) (hw : WFN (G (m + 1))) {l : Nat} (hl : l < nLv (G (m + 1))) : fX10_lostBy (some m) (nI l) (wi σ G) = some (lostQ (G (m + 1)) l) := by
  have hb := w1_b hw.1
  have hp := nlf_pos hw.1 hl
  have hq := pOn_b hw.1 hl
  unfold fX10_lostBy lostQ
  rw [mk_o h, bnP_1, m_firstOn h hw.1, bnP_1]
  by_cases q : G (m + 1) (99 + l) = 2
  · rw [if_pos q]
    have e : lpP (fX10_lostBy_l1 (some m) (nI l) (wi σ G)) FUEL (0, nI (l * nRm (G (m + 1)))) = some 0 := by
      refine lpP_f (pOn (G (m + 1)) l) (fun k => (0, nI (l * nRm (G (m + 1)) + k))) rfl (by omega) (fun k hk => ?_) ?_
      · unfold fX10_lostBy_l1
        rw [m_lastOn h hw.1 hl, bnP_1]
        dsimp only
        rw [if_neg (by rw [nI_ltI (by omega) (by omega)]; omega), m_statusOf h l (by omega), bnP_1, if_pos q, bnP_1, show (0 : Int32) = bI false from rfl, m_one, bnP_1, nI_a1]
        rfl
      · unfold fX10_lostBy_l1
        rw [m_lastOn h hw.1 hl, bnP_1]
        dsimp only
        rw [if_pos (by rw [nI_ltI (by omega) (by omega)]; omega)]
    rw [e, bnP_1]
  · rw [if_neg q]
    have e : lpP (fX10_lostBy_l1 (some m) (nI l) (wi σ G)) FUEL (0, nI (l * nRm (G (m + 1)))) = some (nI (cntN (fun k => decide (cwN (G (m + 1)) (l * nRm (G (m + 1)) + k) = 0)) (pOn (G (m + 1)) l))) := by
      refine lpP_f (pOn (G (m + 1)) l) (fun k => (nI (cntN (fun k => decide (cwN (G (m + 1)) (l * nRm (G (m + 1)) + k) = 0)) k), nI (l * nRm (G (m + 1)) + k))) rfl (by omega) (fun k hk => ?_) ?_
      · unfold fX10_lostBy_l1
        rw [m_lastOn h hw.1 hl, bnP_1]
        dsimp only
        have hs : cntN (fun k => decide (cwN (G (m + 1)) (l * nRm (G (m + 1)) + k) = 0)) (k + 1) = cntN (fun k => decide (cwN (G (m + 1)) (l * nRm (G (m + 1)) + k) = 0)) k + (if decide (cwN (G (m + 1)) (l * nRm (G (m + 1)) + k) = 0) = true then 1 else 0) := rfl
        have hc : cwN (G (m + 1)) (l * nRm (G (m + 1)) + k) < 2 ^ 31 := by
          have h1 := cntN_le (fun c => hwN (G (m + 1)) c (l * nRm (G (m + 1)) + k)) (nCp (G (m + 1)))
          show cntN _ _ < _
          omega
        rw [if_neg (by rw [nI_ltI (by omega) (by omega)]; omega), m_statusOf h l (by omega), bnP_1, if_neg q, m_copiesWith h hw (by omega), bnP_1, hs]
        by_cases q2 : cwN (G (m + 1)) (l * nRm (G (m + 1)) + k) = 0
        · rw [if_pos (by rw [q2]; rfl), bnP_1, show (1 : Int32) = bI true from rfl, m_one, bnP_1, decide_eq_true q2, if_pos rfl, show bI true = nI 1 from rfl, nI_add, nI_add]
          rfl
        · rw [if_neg (nI_ne0 (by omega) hc), bnP_1, show (0 : Int32) = bI false from rfl, m_one, bnP_1, decide_eq_false q2, if_neg (by decide), show bI false = nI 0 from rfl, nI_add, nI_a1]
          rfl
      · unfold fX10_lostBy_l1
        rw [m_lastOn h hw.1 hl, bnP_1]
        dsimp only
        rw [if_pos (by rw [nI_ltI (by omega) (by omega)]; omega)]
    rw [e, bnP_1]
theorem c_requireLeaf (h : NK σ o b) (w1 : W1 N) (r : RB G J b N) (v : Int32) : fX9_requireLeaf (some o) v (wc σ G J) = some (if inR v (nI 0) (nI (nLv N) - 1) = true then .ok () else .error 1) := by
  unfold fX9_requireLeaf
  rw [nk_o h, bnP_1, nk_b h, bnP_1, bk_r9 (nk_B h), bnP_1, c_isThere (nk_B h) w1 r, bnP_1]
  cases inR v (nI 0) (nI (nLv N) - 1) <;> rfl
theorem inL_t (w1 : W1 N) {v : Int32} (e : inR v (nI 0) (nI (nLv N) - 1) = true) : ∃ l, v = nI l ∧ l < nLv N := by
  have h12 := nlv_12 w1
  by_cases z : nLv N = 0
  · rw [z] at e
    have := inR_nO v
    rw [show nO = nI 0 - 1 from rfl, e] at this
    cases this
  · rw [nI_m1 (by omega)] at e
    obtain ⟨a, q1, q2, q3⟩ := inR_t (by omega) (by omega) e
    exact ⟨a, q1, by omega⟩
theorem cq_unknownIf (h : NK σ o b) (hwr : G o 4 ≠ 0 → WFN N ∧ RB G J b N) (v : Int32) : fX9_unknownIf (some o) v (wc σ G J) = some (if G o 4 = 0 then .error 0 else if inR v (nI 0) (nI (nLv N) - 1) = true then .ok (lostQ N v.toNatClampNeg) else .error 1) := by
  unfold fX9_unknownIf
  rw [nk_o h, bnP_1, c_requireBook h]
  by_cases q : G o 4 = 0
  · rw [if_pos q, if_pos q, bnX_e]
  · obtain ⟨hw, r⟩ := hwr q
    rw [if_neg q, if_neg q, bnX_1, c_requireLeaf h hw.1 r]
    cases e : inR v (nI 0) (nI (nLv N) - 1)
    · rfl
    · obtain ⟨l, hv, hl⟩ := inL_t hw.1 e
      subst hv
      have := nlf_pos hw.1 hl
      rw [if_pos rfl, bnX_1, nk_b h, bnP_1, c_wouldBeUnknown (nk_B h) hw r hl, bnP_1, if_pos rfl, nI_clamp (by omega)]
theorem m_mayLeafG (h : MK σ m) (hw : G m 6 ≠ 0 → WFN (G (m + 1))) (hr : G m 6 = 0 ∨ G m 6 = 1) (v : Int32) : fX10_mayLeaf (some m) v (wi σ G) = some (isL G m v, wi σ (up G m 0 (thr (decide (G m 6 ≠ 0)) (isL G m v) true))) := by
  by_cases q : G m 6 = 0
  · have e1 : isL G m v = false := by
      unfold isL
      rw [decide_eq_false (fun e => e q), Bool.false_and]
    unfold fX10_mayLeaf fX10_isLeaf
    rw [mk_o h, bnP_1, mk_I h, bnP_1, bnP_1, bnP_1, if_pos q, bnP_1, e1]
    have e := m_read G m hr
    rw [e, m_mayTwo h, bnS_1, ← e, Bool.and_false]
  · exact m_mayLeaf h (hw q).1 hr v
theorem mq_unknownIf (h : MK σ m) (hw : G m 6 ≠ 0 → WFN (G (m + 1))) (hr : G m 6 = 0 ∨ G m 6 = 1) (v : Int32) : fX10_unknownIf (some m) v (wi σ G) = some (if isL G m v = true then lostQ (G (m + 1)) v.toNatClampNeg else 0, wi σ (up G m 0 (thr (decide (G m 6 ≠ 0)) (isL G m v) true))) := by
  unfold fX10_unknownIf
  rw [mk_o h, bnP_1, m_mayLeafG h hw hr, bnS_1]
  cases e : isL G m v
  · rfl
  · have q : G m 6 ≠ 0 := by
      unfold isL at e
      rw [Bool.and_eq_true, decide_eq_true_eq] at e
      exact e.1
    have hw := hw q
    obtain ⟨-, l, hv, hl⟩ := isL_t hw.1 e
    rw [if_pos rfl, if_pos rfl]
    generalize hG : up G m 0 (thr (decide (G m 6 ≠ 0)) true true) = G'
    have eG : G' (m + 1) = G (m + 1) := by rw [← hG]; exact up_a (by omega)
    rw [← eG] at hw hl ⊢
    subst hv
    have := nlf_pos hw.1 hl
    rw [m_lostBy h hw hl, bnP_1, nI_clamp (by omega)]
/-- case 20: UNKNOWNIF -/
theorem lc20 (h : LO σ G J o b m d) {Lx : Nat} {xs : Nat → Int32} {v5 v : Int32} (hx : sld Lx xs (v5 + 1) = some v) (v4 : Option Nat) : ∃ t y a c, fL_c20 Lx xs (some o) (some m) (some d) v4 v5 (wc σ G J) = some ((.ok () : Except Nat Unit), wc σ (up G m 0 t) (upJ J d 0 y), a, c) ∧ a ≤ 1 ∧ c ≤ 6 := by
  unfold fL_c20 fL_unknownIf
  simp only [hx, bnP_1]
  have hr : G m 6 = 0 ∨ G m 6 = 1 := by rw [h.2.2.2.2.1]; exact h.2.2.2.1
  refine lq_int h (cq_unknownIf h.1 h.2.2.2.2.2 v) (fun J' => mq_unknownIf (σ := wc σ G J') h.2.1 (fun q => (h.2.2.2.2.2 (by rw [← h.2.2.2.2.1]; exact q)).1) hr v) ?_
  unfold isL
  rw [h.2.2.2.2.1]
  by_cases q : G o 4 = 0
  · rw [if_pos q, decide_eq_false (fun e => e q)]
    exact ⟨show (1 : Int32) ≠ 0 by decide, rfl⟩
  · rw [if_neg q, decide_eq_true q]
    cases e : inR v (nI 0) (nI (nLv (G (m + 1))) - 1)
    · exact ⟨by decide, rfl⟩
    · exact ⟨rfl, rfl⟩
end LQ6
