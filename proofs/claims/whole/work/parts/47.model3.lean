/-! THE PURE LEVEL, 6: the reference's questions between calls -/
theorem w1_b {N : Nat → Int32} (h : W1 N) : (nRm N < 21 ∧ 4 ≤ nRm N) ∧ nAc N < 11 ∧ (nWd N < 241 ∧ nWd N ≤ 12 * nRm N) ∧ nCl N < 961 ∧ nCp N < 9 := ⟨⟨h.1.1.2, h.1.2⟩, h.2.2.2.1.2, ⟨h.2.2.2.2.1.1.2, h.2.2.2.2.1.2⟩, h.2.2.2.2.2.1.2, h.2.2.2.2.2.2.2⟩
theorem w1_e {N : Nat → Int32} (h : W1 N) : N 0 = nI (nRm N) ∧ N 3 = nI (nAc N) ∧ N 4 = nI (nWd N) ∧ N 5 = nI (nCl N) ∧ N 6 = nI (nCp N) := ⟨h.1.1.1, h.2.2.2.1.1, h.2.2.2.2.1.1.1, h.2.2.2.2.2.1.1, h.2.2.2.2.2.2.1⟩
theorem w2_b {N : Nat → Int32} (h : W2 N) {a : Nat} (ha : a < nAc N) : aF N a < 241 ∧ aM N a < 241 ∧ aK N a < 961 ∧ aC N a < 961 ∧ 1 ≤ aM N a := ⟨(h.2 a ha).2.1.1.2, (h.2 a ha).2.1.2.1.2, (h.2 a ha).2.1.2.2.1.2, (h.2 a ha).2.1.2.2.2.2, (h.2 a ha).2.2.1⟩
theorem w4_c {N : Nat → Int32} (h : W4 N) {c : Nat} (hc : c < nCp N) : (oO N c < nAc N ∧ oG N c < 3) ∧ N (111 + 2 * c) = nI (oO N c) ∧ N (111 + 2 * c + 1) = nI (oG N c) := ⟨⟨(h.2.2 c hc).2.1, (h.2.2 c hc).2.2.1.2⟩, (h.2.2 c hc).1.1, (h.2.2 c hc).2.2.1.1⟩
theorem act_ok {N : Nat → Int32} (w1 : W1 N) (w2 : W2 N) {a : Nat} (ha : a < nAc N) : aOK N a (aF N a) (aM N a) ∧ (a + 1 < nAc N → aF N (a + 1) = aF N a + aM N a) ∧ (a + 1 = nAc N → aF N a + aM N a = nWd N) ∧ (a = 0 → aF N a = 0) := by
  have hb := w1_b w1
  obtain ⟨q1, ⟨q2, q3, q4, q5⟩, q6, q7, q8, q9⟩ := w2.2 a ha
  have hw : aF N a + aM N a ≤ 240 := by
    by_cases e : a + 1 = nAc N
    · have := (q9 e).1
      omega
    · have e1 := q8 (by omega)
      have e2 := (w2_b w2 (a := a + 1) (by omega)).1
      omega
  exact ⟨⟨by omega, q2.1, q3.1, q6, hw⟩, fun h => (q8 h).1, fun h => (q9 h).1, fun h => (q7 h).1⟩
theorem act_mono {N : Nat → Int32} (w1 : W1 N) (w2 : W2 N) {j : Nat} : ∀ k, j < k → k < nAc N → aF N j + aM N j ≤ aF N k := by
  intro k
  induction k with
  | zero => intro h; omega
  | succ k ih =>
    intro h1 h2
    have e := (act_ok w1 w2 (a := k) (by omega)).2.1 h2
    by_cases q : j = k
    · subst q; omega
    · have := ih (by omega) (by omega)
      omega
theorem act_at {N : Nat → Int32} (w1 : W1 N) (w2 : W2 N) {g : Nat} (hg : g < nWd N) : ∃ a, a < nAc N ∧ aF N a ≤ g ∧ g < aF N a + aM N a ∧ ∀ j, j < a → aF N j + aM N j ≤ g := by
  have key : ∀ k, k < nAc N → g < aF N k + aM N k → ∃ a, a < nAc N ∧ aF N a ≤ g ∧ g < aF N a + aM N a ∧ ∀ j, j < a → aF N j + aM N j ≤ g := by
    intro k
    induction k with
    | zero =>
      intro hk h
      have := (act_ok w1 w2 hk).2.2.2 rfl
      exact ⟨0, hk, by omega, h, fun j hj => absurd hj (Nat.not_lt_zero _)⟩
    | succ k ih =>
      intro hk h
      by_cases q : aF N (k + 1) ≤ g
      · exact ⟨k + 1, hk, q, h, fun j hj => Nat.le_trans (act_mono w1 w2 (k + 1) hj hk) q⟩
      · have e := (act_ok w1 w2 (a := k) (by omega)).2.1 hk
        exact ih (by omega) (by omega)
  by_cases h0 : nAc N = 0
  · have := (w2.1 h0).1
    omega
  · have e := (act_ok w1 w2 (a := nAc N - 1) (by omega)).2.2.1 (by omega)
    exact key (nAc N - 1) (by omega) (by omega)
/-- the act of word g is the one -/
theorem act_uniq {N : Nat → Int32} (w1 : W1 N) (w2 : W2 N) {g a b : Nat} (ha : a < nAc N) (hb : b < nAc N) (h1 : aF N a ≤ g) (h2 : g < aF N a + aM N a) (h3 : aF N b ≤ g) (h4 : g < aF N b + aM N b) : a = b := by
  rcases Nat.lt_trichotomy a b with q | q | q
  · have := act_mono w1 w2 b q hb
    omega
  · exact q
  · have := act_mono w1 w2 a q ha
    omega
/-- does copy c hold word g -/
def hwN (N : Nat → Int32) (c g : Nat) : Bool := decide (aF N (oO N c) ≤ g) && decide (g < aF N (oO N c) + aM N (oO N c)) && hbN N (aF N (oO N c)) (aM N (oO N c)) (oG N c) g
def cwN (N : Nat → Int32) (g : Nat) : Nat := cntN (fun c => hwN N c g) (nCp N)
def olN (N : Nat → Int32) (g : Nat) : Bool := decide (N (99 + g / nRm N) = 2)
def knN (N : Nat → Int32) (g : Nat) : Bool := !olN N g || decide (0 < cwN N g)
def ukN (N : Nat → Int32) : Nat := cntN (fun g => !knN N g) (nWd N)
section M3
variable {σ : HpT} {G : Nat → Nat → Int32} {m : Nat}
theorem m_actOfW (h : MK σ m) (w1 : W1 (G (m + 1))) (w2 : W2 (G (m + 1))) {a g : Nat} (ha : a < nAc (G (m + 1))) (h1 : aF (G (m + 1)) a ≤ g) (h2 : g < aF (G (m + 1)) a + aM (G (m + 1)) a) : fX10_actOf (some m) (nI g) (wi σ G) = some (nI a) := by
  have q := (act_ok w1 w2 ha).1
  exact m_actOf h (f := aF (G (m + 1))) (n := aM (G (m + 1))) (by have := q.2.2.2.2; omega) (fun j hj => (act_ok w1 w2 (by omega)).1) (fun j hj => Nat.le_trans (act_mono w1 w2 a hj ha) h1) h2
theorem m_hasWord (h : MK σ m) (hw : WFN (G (m + 1))) {c g : Nat} (hc : c < nCp (G (m + 1))) (hg : g < nWd (G (m + 1))) : fX10_hasWord (some m) (nI c) (nI g) (wi σ G) = some (hwN (G (m + 1)) c g) := by
  obtain ⟨w1, w2, -, w4⟩ := hw
  obtain ⟨a, ha, a1, a2, -⟩ := act_at w1 w2 hg
  obtain ⟨⟨q2, q3⟩, q1, q4⟩ := w4_c w4 hc
  have hb := w1_b w1
  unfold fX10_hasWord hwN
  rw [mk_o h, bnP_1, li_0, m_ofCopy h c 0 (by omega), bnP_1, show 111 + 2 * c + 0 = 111 + 2 * c from rfl, q1, m_actOfW h w1 w2 ha a1 a2, bnP_1]
  by_cases e : oO (G (m + 1)) c = a
  · rw [if_pos (by rw [e]), bnP_1, li_1, m_ofCopy h c 1 (by omega), bnP_1, q4, m_hasBy h (act_ok w1 w2 q2).1 q3 (by omega), bnP_1]
    rw [e, decide_eq_true a1, decide_eq_true a2]
    cases hbN (G (m + 1)) (aF (G (m + 1)) a) (aM (G (m + 1)) a) (oG (G (m + 1)) c) g <;> rfl
  · rw [if_neg (by rw [nI_eq (by omega) (by omega)]; exact e)]
    have : (decide (aF (G (m + 1)) (oO (G (m + 1)) c) ≤ g) && decide (g < aF (G (m + 1)) (oO (G (m + 1)) c) + aM (G (m + 1)) (oO (G (m + 1)) c))) = false := by
      cases e1 : (decide (aF (G (m + 1)) (oO (G (m + 1)) c) ≤ g) && decide (g < aF (G (m + 1)) (oO (G (m + 1)) c) + aM (G (m + 1)) (oO (G (m + 1)) c)))
      · rfl
      · rw [Bool.and_eq_true, decide_eq_true_eq, decide_eq_true_eq] at e1
        exact absurd (act_uniq w1 w2 q2 ha e1.1 e1.2 a1 a2) e
    rw [this]
    rfl
theorem m_copiesWith (h : MK σ m) (hw : WFN (G (m + 1))) {g : Nat} (hg : g < nWd (G (m + 1))) : fX10_copiesWith (some m) (nI g) (wi σ G) = some (nI (cwN (G (m + 1)) g)) := by
  have hb := w1_b hw.1
  have he := w1_e hw.1
  unfold fX10_copiesWith
  have e : lpP (fX10_copiesWith_l1 (some m) (nI g) (wi σ G)) FUEL (0, 0) = some (nI (cwN (G (m + 1)) g)) := by
    refine lpP_f (nCp (G (m + 1))) (fun k => (nI (cntN (fun c => hwN (G (m + 1)) c g) k), nI k)) rfl (by omega) (fun k hk => ?_) ?_
    · unfold fX10_copiesWith_l1
      rw [mk_r1 h, bnP_1, li_6, mk_a1 h (by decide), bnP_1, he.2.2.2.2]
      dsimp only
      rw [if_neg (by rw [nI_leI (by omega) (by omega)]; omega), m_hasWord h hw hk hg, bnP_1, m_one, bnP_1, nI_a1, bI_nI, nI_add]
      rfl
    · unfold fX10_copiesWith_l1
      rw [mk_r1 h, bnP_1, li_6, mk_a1 h (by decide), bnP_1, he.2.2.2.2]
      dsimp only
      rw [if_pos (by rw [nI_leI (by omega) (by omega)]; exact Nat.le_refl _)]
      rfl
  rw [mk_o h, bnP_1, e, bnP_1]
theorem nlv_lt {N : Nat → Int32} (w1 : W1 N) {g : Nat} (hg : g < nWd N) : g / nRm N < nLv N ∧ nLv N ≤ 12 ∧ nRm N < 21 ∧ 0 < nRm N := by
  have hb := w1_b w1
  refine ⟨?_, ?_, hb.1.1, by omega⟩
  · show g / nRm N < (nWd N + nRm N - 1) / nRm N
    rw [Nat.lt_div_iff_mul_lt (by omega)]
    have := Nat.div_mul_le_self g (nRm N)
    omega
  · show (nWd N + nRm N - 1) / nRm N ≤ 12
    rw [Nat.div_le_iff_le_mul_add_pred (by omega)]
    have : nRm N * 12 = 12 * nRm N := Nat.mul_comm _ _
    omega
theorem m_isOnLost (h : MK σ m) (w1 : W1 (G (m + 1))) {g : Nat} (hg : g < nWd (G (m + 1))) : fX10_isOnLost (some m) (nI g) (wi σ G) = some (olN (G (m + 1)) g) := by
  obtain ⟨l1, l2, l3, l4⟩ := nlv_lt w1 hg
  have hb := w1_b w1
  unfold fX10_isOnLost olN
  rw [mk_o h, bnP_1, mk_r1 h, bnP_1, li_0, mk_a1 h (by decide), bnP_1, (w1_e w1).1]
  have hz : nz (nI (nRm (G (m + 1)))) = some () := if_neg (nI_ne0 l4 (by omega))
  rw [hz, bnP_1, pk_div (by omega) l4 (by omega), m_statusOf h _ (by omega), bnP_1]
  by_cases e : G (m + 1) (99 + g / nRm (G (m + 1))) = 2
  · rw [if_pos e, decide_eq_true e]
  · rw [if_neg e, decide_eq_false e]
theorem m_isKnown (h : MK σ m) (hw : WFN (G (m + 1))) {g : Nat} (hg : g < nWd (G (m + 1))) : fX10_isKnown (some m) (nI g) (wi σ G) = some (knN (G (m + 1)) g) := by
  unfold fX10_isKnown knN
  rw [mk_o h, bnP_1, m_isOnLost h hw.1 hg, bnP_1]
  cases olN (G (m + 1)) g
  · rfl
  · have hb : cwN (G (m + 1)) g < 2 ^ 31 := by
      have h1 := cntN_le (fun c => hwN (G (m + 1)) c g) (nCp (G (m + 1)))
      have h2 := w1_b hw.1
      show cntN _ _ < _
      omega
    rw [if_pos rfl, m_copiesWith h hw hg, bnP_1]
    by_cases e : 0 < cwN (G (m + 1)) g
    · rw [if_neg (nI_nle e hb), decide_eq_true e]
      rfl
    · rw [if_pos (by rw [show cwN (G (m + 1)) g = 0 by omega]; decide), decide_eq_false e]
      rfl
theorem m_unknown (h : MK σ m) (hw : WFN (G (m + 1))) : fX10_unknown (some m) (wi σ G) = some (nI (ukN (G (m + 1)))) := by
  have hb := w1_b hw.1
  have he := w1_e hw.1
  unfold fX10_unknown
  have e : lpP (fX10_unknown_l1 (some m) (wi σ G)) FUEL (0, 0) = some (nI (ukN (G (m + 1)))) := by
    refine lpP_f (nWd (G (m + 1))) (fun k => (nI (cntN (fun g => !knN (G (m + 1)) g) k), nI k)) rfl (by omega) (fun k hk => ?_) ?_
    · unfold fX10_unknown_l1
      rw [mk_r1 h, bnP_1, li_4, mk_a1 h (by decide), bnP_1, he.2.2.1]
      dsimp only
      rw [if_neg (by rw [nI_leI (by omega) (by omega)]; omega), m_isKnown h hw hk, bnP_1]
      have hs : cntN (fun g => !knN (G (m + 1)) g) (k + 1) = cntN (fun g => !knN (G (m + 1)) g) k + (if (!knN (G (m + 1)) k) = true then 1 else 0) := rfl
      rw [hs]
      cases knN (G (m + 1)) k
      · rw [if_neg (by decide), bnP_1, nI_a1]
        show some (Sum.inl (nI _ + nI 1, nI (k + 1))) = _
        rw [nI_add]
        rfl
      · rw [if_pos rfl, bnP_1, nI_a1]
        show some (Sum.inl (nI _ + nI 0, nI (k + 1))) = _
        rw [nI_add]
        rfl
    · unfold fX10_unknown_l1
      rw [mk_r1 h, bnP_1, li_4, mk_a1 h (by decide), bnP_1, he.2.2.1]
      dsimp only
      rw [if_pos (by rw [nI_leI (by omega) (by omega)]; exact Nat.le_refl _)]
      rfl
  rw [mk_o h, bnP_1, e, bnP_1]
end M3
