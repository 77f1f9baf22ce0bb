/-! THE PURE LEVEL, 17: WORSTLEAF -/
/-- the worst of leaves 0 .. n - 1, and its words -/
def wlN (N : Nat → Int32) : Nat → Int32 × Int32
  | 0 => (-1, -1)
  | n + 1 => if (wlN N n).2 < lostQ N n then (nI n, lostQ N n) else wlN N n
section LQ7
variable {σ : HpT} {G : Nat → Nat → Int32} {J : Nat → Nat → Int64} {o b m d : Nat} {N : Nat → Int32}
theorem cq_worstLeaf (h : NK σ o b) (hwr : G o 4 ≠ 0 → WFN N ∧ RB G J b N) : fX9_worstLeaf (some o) (wc σ G J) = some (if G o 4 = 0 then .error 0 else .ok (wlN N (nLv N)).1) := by
  have B := nk_B h
  unfold fX9_worstLeaf
  rw [nk_o h, bnP_1, c_requireBook h]
  by_cases q : G o 4 = 0
  · rw [if_pos q, if_pos q, bnX_e]
  · obtain ⟨hw, r⟩ := hwr q
    have h12 := nlv_12 hw.1
    rw [if_neg q, if_neg q, bnX_1]
    have e : lpP (fX9_worstLeaf_l1 (some o) (wc σ G J)) FUEL (-1, -1, 0) = some (wlN N (nLv N)).1 := by
      refine lpP_f (nLv N) (fun k => ((wlN N k).1, (wlN N k).2, nI k)) rfl (by omega) (fun k hk => ?_) ?_
      · unfold fX9_worstLeaf_l1
        rw [nk_b h, bnP_1, bk_r9 B, bnP_1, lk_I (bk_L B), bnP_1, rb_l r]
        dsimp only
        have hs : wlN N (k + 1) = if (wlN N k).2 < lostQ N k then (nI k, lostQ N k) else wlN N k := rfl
        rw [if_neg (by rw [nI_leI (by omega) (by omega)]; omega), bnP_1, c_wouldBeUnknown B hw r hk, bnP_1, hs, nI_a1]
        by_cases q2 : (wlN N k).2 < lostQ N k
        · rw [if_neg (Int32.not_le.mpr q2), if_pos q2]
        · rw [if_pos (Int32.not_lt.mp q2), if_neg q2]
      · unfold fX9_worstLeaf_l1
        rw [nk_b h, bnP_1, bk_r9 B, bnP_1, lk_I (bk_L B), bnP_1, rb_l r]
        dsimp only
        rw [if_pos (by rw [nI_leI (by omega) (by omega)]; exact Nat.le_refl _)]
    rw [e, bnP_1]
theorem mq_worstLeaf (h : MK σ m) (hw : G m 6 ≠ 0 → WFN (G (m + 1))) (hr : G m 6 = 0 ∨ G m 6 = 1) : fX10_worstLeaf (some m) (wi σ G) = some (if decide (G m 6 ≠ 0) = true then (wlN (G (m + 1)) (nLv (G (m + 1)))).1 else 0, wi σ (up G m 0 (thr (decide (G m 6 ≠ 0)) true true))) := by
  unfold fX10_worstLeaf
  rw [mk_o h, bnP_1, m_mayLook h hr, bnS_1]
  by_cases q : G m 6 = 0
  · rw [decide_eq_false (fun e => e q)]
    rfl
  · have hw := hw q
    rw [decide_eq_true q, if_pos rfl, if_pos rfl]
    generalize hG : up G m 0 (thr true true true) = G'
    have eG : G' (m + 1) = G (m + 1) := by rw [← hG]; exact up_a (by omega)
    rw [← eG] at hw ⊢
    have h12 := nlv_12 hw.1
    have e : lpP (fX10_worstLeaf_l1 (some m) (wi σ G')) FUEL (-1, -1, 0) = some (wlN (G' (m + 1)) (nLv (G' (m + 1)))).1 := by
      refine lpP_f (nLv (G' (m + 1))) (fun k => ((wlN (G' (m + 1)) k).1, (wlN (G' (m + 1)) k).2, nI k)) rfl (by omega) (fun k hk => ?_) ?_
      · unfold fX10_worstLeaf_l1
        rw [m_leaves h hw.1, bnP_1]
        dsimp only
        have hs : wlN (G' (m + 1)) (k + 1) = if (wlN (G' (m + 1)) k).2 < lostQ (G' (m + 1)) k then (nI k, lostQ (G' (m + 1)) k) else wlN (G' (m + 1)) k := rfl
        rw [if_neg (by rw [nI_leI (by omega) (by omega)]; omega), m_lostBy h hw hk, bnP_1, hs, nI_a1]
        by_cases q2 : (wlN (G' (m + 1)) k).2 < lostQ (G' (m + 1)) k
        · rw [if_pos q2, if_pos q2]
        · rw [if_neg q2, if_neg q2]
      · unfold fX10_worstLeaf_l1
        rw [m_leaves h hw.1, bnP_1]
        dsimp only
        rw [if_pos (by rw [nI_leI (by omega) (by omega)]; exact Nat.le_refl _)]
    rw [e, bnP_1]
/-- case 21: WORSTLEAF -/
theorem lc21 (h : LO σ G J o b m d) {Lx : Nat} {xs : Nat → Int32} {v5 : Int32} (v4 : Option Nat) : ∃ t y a c, fL_c21 Lx xs (some o) (some m) (some d) v4 v5 (wc σ G J) = some ((.ok () : Except Nat Unit), wc σ (up G m 0 t) (upJ J d 0 y), a, c) ∧ a ≤ 1 ∧ c ≤ 6 := by
  unfold fL_c21 fL_worstLeaf
  have hr : G m 6 = 0 ∨ G m 6 = 1 := by rw [h.2.2.2.2.1]; exact h.2.2.2.1
  refine lq_int h (cq_worstLeaf h.1 h.2.2.2.2.2) (fun J' => mq_worstLeaf (σ := wc σ G J') h.2.1 (fun q => (h.2.2.2.2.2 (by rw [← h.2.2.2.2.1]; exact q)).1) hr) ?_
  rw [h.2.2.2.2.1]
  by_cases q : G o 4 = 0
  · rw [if_pos q, decide_eq_false (fun e => e q)]
    exact ⟨show (1 : Int32) ≠ 0 by decide, rfl⟩
  · rw [if_neg q, decide_eq_true q]
    exact ⟨rfl, rfl⟩
end LQ7
