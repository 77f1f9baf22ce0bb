/-! THE PURE LEVEL, 7: the reference's counts -/
theorem nI_sub {a b : Nat} (h : b ≤ a) : nI a - nI b = nI (a - b) := by
  have e : nI a = nI (a - b) + nI b := by rw [nI_add, Nat.sub_add_cancel h]
  rw [e, Int32.add_sub_cancel]
theorem inR_t {v : Int32} {lo hi : Nat} (hl : lo < 2 ^ 31) (hh : hi < 2 ^ 31) (h : inR v (nI lo) (nI hi) = true) : ∃ a, v = nI a ∧ lo ≤ a ∧ a ≤ hi := by
  unfold inR at h
  rw [Bool.and_eq_true, decide_eq_true_eq, decide_eq_true_eq] at h
  obtain ⟨j, hj, e⟩ := nI_of (x := v) (Int32.not_lt.mpr (Int32.le_trans (nI_pos' hl) h.1))
  subst e
  rw [nI_leI hl hj, nI_leI hj hh] at h
  exact ⟨j, rfl, h.1, h.2⟩
theorem inR_nI {a lo hi : Nat} (ha : a < 2 ^ 31) (hl : lo < 2 ^ 31) (hh : hi < 2 ^ 31) : inR (nI a) (nI lo) (nI hi) = (decide (lo ≤ a) && decide (a ≤ hi)) := by
  unfold inR
  rw [Bool.eq_iff_iff, Bool.and_eq_true, Bool.and_eq_true, decide_eq_true_eq, decide_eq_true_eq, decide_eq_true_eq, decide_eq_true_eq, nI_leI hl ha, nI_leI ha hh]
theorem inR_nO (v : Int32) : inR v (nI 0) nO = false := by
  unfold inR
  by_cases h : nI 0 ≤ v
  · rw [decide_eq_true h, decide_eq_false (fun q => Int32.not_le.mpr (nO_lt (n := 0) (by decide)) (Int32.le_trans h q))]
    rfl
  · rw [decide_eq_false h]
    rfl
section M4
variable {σ : HpT} {G : Nat → Nat → Int32} {m : Nat}
theorem m_leaves (h : MK σ m) (w1 : W1 (G (m + 1))) : fX10_leaves (some m) (wi σ G) = some (nI (nLv (G (m + 1)))) := by
  have hb := w1_b w1
  have he := w1_e w1
  unfold fX10_leaves
  rw [mk_o h, bnP_1, mk_r1 h, bnP_1, li_4, mk_a1 h (by decide), bnP_1, bnP_1, li_0, mk_a1 h (by decide), bnP_1, bnP_1, mk_a1 h (by decide), bnP_1, he.1, he.2.2.1]
  have hz : nz (nI (nRm (G (m + 1)))) = some () := if_neg (nI_ne0 (by omega) (by omega))
  rw [hz, bnP_1, nI_add, nI_m1 (by omega), pk_div (by omega) (by omega) (by omega)]
/-- is v the number of an act, a leaf, a copy -/
def isA (G : Nat → Nat → Int32) (m : Nat) (v : Int32) : Bool := decide (G m 6 ≠ 0) && inR v (nI 1) (G (m + 1) 3)
theorem m_isAct (h : MK σ m) (v : Int32) : fX10_isAct (some m) v (wi σ G) = some (isA G m v) := by
  unfold fX10_isAct isA
  rw [mk_o h, bnP_1, mk_I h, bnP_1]
  by_cases e : G m 6 = 0
  · rw [if_pos e, decide_eq_false (fun q => q e)]
    rfl
  · rw [if_neg e, mk_r1 h, bnP_1, li_3, mk_a1 h (by decide), bnP_1, m_in, bnP_1, decide_eq_true e, Bool.true_and, li_1]
    cases inR v (nI 1) (G (m + 1) 3) <;> rfl
theorem isA_t (w1 : W1 (G (m + 1))) {v : Int32} (e : isA G m v = true) : G m 6 ≠ 0 ∧ ∃ a, v = nI (a + 1) ∧ a < nAc (G (m + 1)) := by
  have hb := w1_b w1
  unfold isA at e
  rw [Bool.and_eq_true, decide_eq_true_eq, (w1_e w1).2.1] at e
  obtain ⟨a, q1, q2, q3⟩ := inR_t (by omega) (by omega) e.2
  exact ⟨e.1, a - 1, by rw [q1, Nat.sub_add_cancel q2], by omega⟩
theorem m_isWordOf0 (h : MK σ m) {v w : Int32} (e : isA G m v = false) : fX10_isWordOf (some m) v w (wi σ G) = some false := by
  unfold fX10_isWordOf
  rw [mk_o h, bnP_1, m_isAct h, bnP_1, e, if_neg (by decide)]
theorem m_isWordOf (h : MK σ m) (w1 : W1 (G (m + 1))) (w2 : W2 (G (m + 1))) {a : Nat} {w : Int32} (ha : a < nAc (G (m + 1))) (e : isA G m (nI (a + 1)) = true) : fX10_isWordOf (some m) (nI (a + 1)) w (wi σ G) = some (inR w (nI 0) (nI (aM (G (m + 1)) a - 1))) := by
  have hb := w1_b w1
  obtain ⟨-, -, q3, q4, -⟩ := (act_ok w1 w2 ha).1
  unfold fX10_isWordOf
  rw [mk_o h, bnP_1, m_isAct h, bnP_1, e, if_pos rfl, nI_pred, li_6, m_ofAct h a 6 (by omega), bnP_1, m_in, bnP_1, q3, nI_m1 (by omega), li_0]
  cases inR w (nI 0) (nI (aM (G (m + 1)) a - 1)) <;> rfl
def isL (G : Nat → Nat → Int32) (m : Nat) (v : Int32) : Bool := decide (G m 6 ≠ 0) && inR v (nI 0) (nI (nLv (G (m + 1))) - 1)
theorem m_isLeaf (h : MK σ m) (w1 : W1 (G (m + 1))) (v : Int32) : fX10_isLeaf (some m) v (wi σ G) = some (isL G m v) := by
  unfold fX10_isLeaf isL
  rw [mk_o h, bnP_1, mk_I h, bnP_1]
  by_cases e : G m 6 = 0
  · rw [if_pos e, decide_eq_false (fun q => q e)]
    rfl
  · rw [if_neg e, m_leaves h w1, bnP_1, m_in, bnP_1, decide_eq_true e, Bool.true_and, li_0]
    cases inR v (nI 0) (nI (nLv (G (m + 1))) - 1) <;> rfl
def isC (G : Nat → Nat → Int32) (m : Nat) (v : Int32) : Bool := decide (G m 6 ≠ 0) && inR v (nI 0) (G (m + 1) 6 - 1)
theorem m_isCopy (h : MK σ m) (v : Int32) : fX10_isCopy (some m) v (wi σ G) = some (isC G m v) := by
  unfold fX10_isCopy isC
  rw [mk_o h, bnP_1, mk_I h, bnP_1]
  by_cases e : G m 6 = 0
  · rw [if_pos e, decide_eq_false (fun q => q e)]
    rfl
  · rw [if_neg e, mk_r1 h, bnP_1, li_6, mk_a1 h (by decide), bnP_1, m_in, bnP_1, decide_eq_true e, Bool.true_and, li_0]
    cases inR v (nI 0) (G (m + 1) 6 - 1) <;> rfl
theorem isL_t (w1 : W1 (G (m + 1))) {v : Int32} (e : isL G m v = true) : G m 6 ≠ 0 ∧ ∃ l, v = nI l ∧ l < nLv (G (m + 1)) := by
  have hb := w1_b w1
  unfold isL at e
  rw [Bool.and_eq_true, decide_eq_true_eq] at e
  refine ⟨e.1, ?_⟩
  have hl : nLv (G (m + 1)) ≤ 12 := by
    rw [Nat.div_le_iff_le_mul_add_pred (by omega)]
    have : nRm (G (m + 1)) * 12 = 12 * nRm (G (m + 1)) := Nat.mul_comm _ _
    omega
  by_cases z : nLv (G (m + 1)) = 0
  · rw [z] at e
    have := inR_nO v
    rw [show nO = nI 0 - 1 from rfl, e.2] at this
    cases this
  · rw [nI_m1 (by omega)] at e
    obtain ⟨a, q1, q2, q3⟩ := inR_t (by omega) (by omega) e.2
    exact ⟨a, q1, by omega⟩
theorem isC_t (w1 : W1 (G (m + 1))) {v : Int32} (e : isC G m v = true) : G m 6 ≠ 0 ∧ ∃ c, v = nI c ∧ c < nCp (G (m + 1)) := by
  have hb := w1_b w1
  unfold isC at e
  rw [Bool.and_eq_true, decide_eq_true_eq, (w1_e w1).2.2.2.2] at e
  refine ⟨e.1, ?_⟩
  by_cases z : nCp (G (m + 1)) = 0
  · rw [z] at e
    have := inR_nO v
    rw [show nO = nI 0 - 1 from rfl, e.2] at this
    cases this
  · rw [nI_m1 (by omega)] at e
    obtain ⟨a, q1, q2, q3⟩ := inR_t (by omega) (by omega) e.2
    exact ⟨a, q1, by omega⟩
theorem m_isGrade (v : Int32) : fX10_isGrade v σ = some (inR v (nI 0) (nI 2)) := by
  unfold fX10_isGrade
  rw [m_in, bnP_1, li_0, li_2]
theorem m_read (G : Nat → Nat → Int32) (m : Nat) : G m 6 = 0 ∨ G m 6 = 1 → G m 6 = bI (decide (G m 6 ≠ 0)) := by
  intro h
  rcases h with h | h
  · rw [h]; rfl
  · rw [h]; rfl
theorem m_mayAct (h : MK σ m) (hr : G m 6 = 0 ∨ G m 6 = 1) (v : Int32) : fX10_mayAct (some m) v (wi σ G) = some (isA G m v, wi σ (up G m 0 (thr (decide (G m 6 ≠ 0)) (isA G m v) true))) := by
  unfold fX10_mayAct
  rw [mk_o h, bnP_1, mk_I h, bnP_1, m_isAct h, bnP_1]
  have e := m_read G m hr
  rw [e, m_mayTwo h, bnS_1, ← e]
  unfold isA
  rw [← Bool.and_assoc, Bool.and_self]
theorem m_mayLeaf (h : MK σ m) (w1 : W1 (G (m + 1))) (hr : G m 6 = 0 ∨ G m 6 = 1) (v : Int32) : fX10_mayLeaf (some m) v (wi σ G) = some (isL G m v, wi σ (up G m 0 (thr (decide (G m 6 ≠ 0)) (isL G m v) true))) := by
  unfold fX10_mayLeaf
  rw [mk_o h, bnP_1, mk_I h, bnP_1, m_isLeaf h w1, bnP_1]
  have e := m_read G m hr
  rw [e, m_mayTwo h, bnS_1, ← e]
  unfold isL
  rw [← Bool.and_assoc, Bool.and_self]
theorem m_mayCopy (h : MK σ m) (hr : G m 6 = 0 ∨ G m 6 = 1) (v : Int32) : fX10_mayCopy (some m) v (wi σ G) = some (isC G m v, wi σ (up G m 0 (thr (decide (G m 6 ≠ 0)) (isC G m v) true))) := by
  unfold fX10_mayCopy
  rw [mk_o h, bnP_1, mk_I h, bnP_1, m_isCopy h, bnP_1]
  have e := m_read G m hr
  rw [e, m_mayTwo h, bnS_1, ← e]
  unfold isC
  rw [← Bool.and_assoc, Bool.and_self]
theorem m_wordsBy (h : MK σ m) {a f n gr : Nat} (ha : aOK (G (m + 1)) a f n) (hgr : gr < 3) : fX10_wordsBy (some m) (nI a) (nI gr) (wi σ G) = some (sumI (fun k => bI (hbN (G (m + 1)) f n gr (f + k)) + (if gr = 0 then G (m + 1) (127 + 13 * (f + k) + 4) else 0)) n) := by
  obtain ⟨h1, h2, h3, h4, h5⟩ := id ha
  unfold fX10_wordsBy
  rw [mk_o h, bnP_1, li_5, m_ofAct h a 5 (by omega), bnP_1, h2]
  have e : lpP (fX10_wordsBy_l1 (some m) (nI a) (nI gr) (wi σ G)) FUEL (0, nI f) = some (sumI (fun k => bI (hbN (G (m + 1)) f n gr (f + k)) + (if gr = 0 then G (m + 1) (127 + 13 * (f + k) + 4) else 0)) n) := by
    refine lpP_f n (fun k => (sumI (fun k => bI (hbN (G (m + 1)) f n gr (f + k)) + (if gr = 0 then G (m + 1) (127 + 13 * (f + k) + 4) else 0)) k, nI (f + k))) rfl (by omega) (fun k hk => ?_) ?_
    · unfold fX10_wordsBy_l1
      rw [m_lastOf h ha, bnP_1]
      dsimp only
      rw [if_neg (by rw [nI_ltI (by omega) (by omega)]; omega), m_hasBy h ha hgr (by omega), bnP_1, m_one, bnP_1, nI_a1]
      by_cases q : gr = 0
      · rw [if_pos (by rw [q]; rfl), li_4, m_ofWord h (f + k) 4 (by omega), bnP_1]
        simp only [if_pos q]
        rfl
      · rw [if_neg (by rw [li_0, nI_eq (by omega) (by omega)]; exact q)]
        simp only [if_neg q]
        rfl
    · unfold fX10_wordsBy_l1
      rw [m_lastOf h ha, bnP_1]
      dsimp only
      rw [if_pos (by rw [nI_ltI (by omega) (by omega)]; omega)]
  rw [e, bnP_1]
theorem m_ofAllActs (h : MK σ m) (w1 : W1 (G (m + 1))) {w : Nat} (hw : w < 9) : fX10_ofAllActs (some m) (nI w) (wi σ G) = some (sumI (fun a => G (m + 1) (9 + 9 * a + w)) (nAc (G (m + 1)))) := by
  have hb := w1_b w1
  have he := w1_e w1
  unfold fX10_ofAllActs
  have e : lpP (fX10_ofAllActs_l1 (some m) (nI w) (wi σ G)) FUEL (0, 0) = some (sumI (fun a => G (m + 1) (9 + 9 * a + w)) (nAc (G (m + 1)))) := by
    refine lpP_f (nAc (G (m + 1))) (fun k => (sumI (fun a => G (m + 1) (9 + 9 * a + w)) k, nI k)) rfl (by omega) (fun k hk => ?_) ?_
    · unfold fX10_ofAllActs_l1
      rw [mk_r1 h, bnP_1, li_3, mk_a1 h (by decide), bnP_1, he.2.1]
      dsimp only
      rw [if_neg (by rw [nI_leI (by omega) (by omega)]; omega), m_ofAct h k w (by omega), bnP_1, nI_a1]
      rfl
    · unfold fX10_ofAllActs_l1
      rw [mk_r1 h, bnP_1, li_3, mk_a1 h (by decide), bnP_1, he.2.1]
      dsimp only
      rw [if_pos (by rw [nI_leI (by omega) (by omega)]; exact Nat.le_refl _)]
  rw [mk_o h, bnP_1, e, bnP_1]
theorem m_standingAll (h : MK σ m) (w1 : W1 (G (m + 1))) (w2 : W2 (G (m + 1))) : fX10_standingAll (some m) 0 (wi σ G) = some (sumI (fun a => stN (G (m + 1)) (aF (G (m + 1)) a) (aM (G (m + 1)) a)) (nAc (G (m + 1)))) := by
  have hb := w1_b w1
  have he := w1_e w1
  unfold fX10_standingAll
  have e : lpP (fX10_standingAll_l1 (some m) 0 (wi σ G)) FUEL (0, 0) = some (sumI (fun a => stN (G (m + 1)) (aF (G (m + 1)) a) (aM (G (m + 1)) a)) (nAc (G (m + 1)))) := by
    refine lpP_f (nAc (G (m + 1))) (fun k => (sumI (fun a => stN (G (m + 1)) (aF (G (m + 1)) a) (aM (G (m + 1)) a)) k, nI k)) rfl (by omega) (fun k hk => ?_) ?_
    · unfold fX10_standingAll_l1
      rw [mk_r1 h, bnP_1, li_3, mk_a1 h (by decide), bnP_1, he.2.1]
      dsimp only
      rw [if_neg (by rw [nI_leI (by omega) (by omega)]; omega), if_pos rfl, m_standing h (act_ok w1 w2 hk).1, bnP_1, nI_a1]
      rfl
    · unfold fX10_standingAll_l1
      rw [mk_r1 h, bnP_1, li_3, mk_a1 h (by decide), bnP_1, he.2.1]
      dsimp only
      rw [if_pos (by rw [nI_leI (by omega) (by omega)]; exact Nat.le_refl _)]
  rw [mk_o h, bnP_1, e, bnP_1]
/-- standing words of a sealed act -/
def slN (N : Nat → Int32) (a : Nat) : Int32 := if N (9 + 9 * a + 1) = 1 then stN N (aF N a) (aM N a) else 0
theorem m_standingAll1 (h : MK σ m) (w1 : W1 (G (m + 1))) (w2 : W2 (G (m + 1))) : fX10_standingAll (some m) 1 (wi σ G) = some (sumI (slN (G (m + 1))) (nAc (G (m + 1)))) := by
  have hb := w1_b w1
  have he := w1_e w1
  unfold fX10_standingAll
  have e : lpP (fX10_standingAll_l1 (some m) 1 (wi σ G)) FUEL (0, 0) = some (sumI (slN (G (m + 1))) (nAc (G (m + 1)))) := by
    refine lpP_f (nAc (G (m + 1))) (fun k => (sumI (slN (G (m + 1))) k, nI k)) rfl (by omega) (fun k hk => ?_) ?_
    · unfold fX10_standingAll_l1
      rw [mk_r1 h, bnP_1, li_3, mk_a1 h (by decide), bnP_1, he.2.1]
      dsimp only
      rw [if_neg (by rw [nI_leI (by omega) (by omega)]; omega), if_neg (by decide), li_1, m_ofAct h k 1 (by omega), bnP_1, show nI 1 = 1 from rfl, nI_a1]
      have hs : sumI (slN (G (m + 1))) (k + 1) = sumI (slN (G (m + 1))) k + slN (G (m + 1)) k := rfl
      rw [hs]
      by_cases q : G (m + 1) (9 + 9 * k + 1) = 1
      · rw [if_pos q, m_standing h (act_ok w1 w2 hk).1, bnP_1, show slN (G (m + 1)) k = stN (G (m + 1)) (aF (G (m + 1)) k) (aM (G (m + 1)) k) from if_pos q]
      · rw [if_neg q, show slN (G (m + 1)) k = 0 from if_neg q]
    · unfold fX10_standingAll_l1
      rw [mk_r1 h, bnP_1, li_3, mk_a1 h (by decide), bnP_1, he.2.1]
      dsimp only
      rw [if_pos (by rw [nI_leI (by omega) (by omega)]; exact Nat.le_refl _)]
  rw [mk_o h, bnP_1, e, bnP_1]
theorem m_actsWith (h : MK σ m) (w1 : W1 (G (m + 1))) (c : Int32) : fX10_actsWith (some m) c (wi σ G) = some (nI (cntN (fun a => decide (G (m + 1) (9 + 9 * a + 1) = c)) (nAc (G (m + 1))))) := by
  have hb := w1_b w1
  have he := w1_e w1
  unfold fX10_actsWith
  have e : lpP (fX10_actsWith_l1 (some m) c (wi σ G)) FUEL (0, 0) = some (nI (cntN (fun a => decide (G (m + 1) (9 + 9 * a + 1) = c)) (nAc (G (m + 1))))) := by
    refine lpP_f (nAc (G (m + 1))) (fun k => (nI (cntN (fun a => decide (G (m + 1) (9 + 9 * a + 1) = c)) k), nI k)) rfl (by omega) (fun k hk => ?_) ?_
    · unfold fX10_actsWith_l1
      rw [mk_r1 h, bnP_1, li_3, mk_a1 h (by decide), bnP_1, he.2.1]
      dsimp only
      have hs : cntN (fun a => decide (G (m + 1) (9 + 9 * a + 1) = c)) (k + 1) = cntN (fun a => decide (G (m + 1) (9 + 9 * a + 1) = c)) k + (if decide (G (m + 1) (9 + 9 * k + 1) = c) = true then 1 else 0) := rfl
      rw [if_neg (by rw [nI_leI (by omega) (by omega)]; omega), li_1, m_ofAct h k 1 (by omega), bnP_1, hs]
      by_cases q : G (m + 1) (9 + 9 * k + 1) = c
      · rw [if_pos q, bnP_1, show nI 1 = bI true from rfl, m_one, bnP_1, decide_eq_true q, if_pos rfl, show bI true = nI 1 from rfl, nI_add, nI_add]
      · rw [if_neg q, bnP_1, show (0 : Int32) = bI false from rfl, m_one, bnP_1, decide_eq_false q, if_neg (by decide), show bI false = nI 0 from rfl, nI_add, nI_add]
    · unfold fX10_actsWith_l1
      rw [mk_r1 h, bnP_1, li_3, mk_a1 h (by decide), bnP_1, he.2.1]
      dsimp only
      rw [if_pos (by rw [nI_leI (by omega) (by omega)]; exact Nat.le_refl _)]
  rw [mk_o h, bnP_1, e, bnP_1]
theorem m_withStatus (h : MK σ m) (w1 : W1 (G (m + 1))) (c : Int32) : fX10_withStatus (some m) c (wi σ G) = some (nI (cntN (fun l => decide (G (m + 1) (99 + l) = c)) (nLv (G (m + 1))))) := by
  have hb := w1_b w1
  have hl : nLv (G (m + 1)) ≤ 12 := by
    rw [Nat.div_le_iff_le_mul_add_pred (by omega)]
    have : nRm (G (m + 1)) * 12 = 12 * nRm (G (m + 1)) := Nat.mul_comm _ _
    omega
  unfold fX10_withStatus
  have e : lpP (fX10_withStatus_l1 (some m) c (wi σ G)) FUEL (0, 0) = some (nI (cntN (fun l => decide (G (m + 1) (99 + l) = c)) (nLv (G (m + 1))))) := by
    refine lpP_f (nLv (G (m + 1))) (fun k => (nI (cntN (fun l => decide (G (m + 1) (99 + l) = c)) k), nI k)) rfl (by omega) (fun k hk => ?_) ?_
    · unfold fX10_withStatus_l1
      rw [m_leaves h w1, bnP_1]
      dsimp only
      have hs : cntN (fun l => decide (G (m + 1) (99 + l) = c)) (k + 1) = cntN (fun l => decide (G (m + 1) (99 + l) = c)) k + (if decide (G (m + 1) (99 + k) = c) = true then 1 else 0) := rfl
      rw [if_neg (by rw [nI_leI (by omega) (by omega)]; omega), m_statusOf h k (by omega), bnP_1, hs]
      by_cases q : G (m + 1) (99 + k) = c
      · rw [if_pos q, bnP_1, show (1 : Int32) = bI true from rfl, m_one, bnP_1, decide_eq_true q, if_pos rfl, show bI true = nI 1 from rfl, nI_add, nI_add]
      · rw [if_neg q, bnP_1, show (0 : Int32) = bI false from rfl, m_one, bnP_1, decide_eq_false q, if_neg (by decide), show bI false = nI 0 from rfl, nI_add, nI_a1]
    · unfold fX10_withStatus_l1
      rw [m_leaves h w1, bnP_1]
      dsimp only
      rw [if_pos (by rw [nI_leI (by omega) (by omega)]; exact Nat.le_refl _)]
  rw [mk_o h, bnP_1, e, bnP_1]
theorem m_standingWritten (h : MK σ m) {f n : Nat} (hn : f + n ≤ 240) (h1 : 1 ≤ n) : fX10_standingWritten (some m) (nI f) (nI (f + n - 1)) (wi σ G) = some (nI (cntN (fun k => skN (G (m + 1)) (f + k)) n)) := by
  unfold fX10_standingWritten
  have e : lpP (fX10_standingWritten_l1 (some m) (nI (f + n - 1)) (wi σ G)) FUEL (0, nI f) = some (nI (cntN (fun k => skN (G (m + 1)) (f + k)) n)) := by
    refine lpP_f n (fun k => (nI (cntN (fun k => skN (G (m + 1)) (f + k)) k), nI (f + k))) rfl (by omega) (fun k hk => ?_) ?_
    · unfold fX10_standingWritten_l1
      dsimp only
      rw [if_neg (by rw [nI_ltI (by omega) (by omega)]; omega), m_stands h (by omega), bnP_1, m_one, bnP_1, nI_a1, bI_nI, nI_add]
      rfl
    · unfold fX10_standingWritten_l1
      dsimp only
      rw [if_pos (by rw [nI_ltI (by omega) (by omega)]; omega)]
  rw [mk_o h, bnP_1, e, bnP_1]
theorem m_copiesOf (h : MK σ m) (w1 : W1 (G (m + 1))) (w4 : W4 (G (m + 1))) {a : Nat} (ha : a < nAc (G (m + 1))) : fX10_copiesOf (some m) (nI a) (wi σ G) = some (nI (cntN (fun c => decide (oO (G (m + 1)) c = a)) (nCp (G (m + 1))))) := by
  have hb := w1_b w1
  have he := w1_e w1
  unfold fX10_copiesOf
  have e : lpP (fX10_copiesOf_l1 (some m) (nI a) (wi σ G)) FUEL (0, 0) = some (nI (cntN (fun c => decide (oO (G (m + 1)) c = a)) (nCp (G (m + 1))))) := by
    refine lpP_f (nCp (G (m + 1))) (fun k => (nI (cntN (fun c => decide (oO (G (m + 1)) c = a)) k), nI k)) rfl (by omega) (fun k hk => ?_) ?_
    · unfold fX10_copiesOf_l1
      obtain ⟨⟨q2, q3⟩, q1, q4⟩ := w4_c w4 hk
      rw [mk_r1 h, bnP_1, li_6, mk_a1 h (by decide), bnP_1, he.2.2.2.2]
      dsimp only
      have hs : cntN (fun c => decide (oO (G (m + 1)) c = a)) (k + 1) = cntN (fun c => decide (oO (G (m + 1)) c = a)) k + (if decide (oO (G (m + 1)) k = a) = true then 1 else 0) := rfl
      rw [if_neg (by rw [nI_leI (by omega) (by omega)]; omega), li_0, m_ofCopy h k 0 (by omega), bnP_1, hs, show 111 + 2 * k + 0 = 111 + 2 * k from rfl, q1]
      by_cases q : oO (G (m + 1)) k = a
      · rw [if_pos (by rw [q]), bnP_1, show (1 : Int32) = bI true from rfl, m_one, bnP_1, decide_eq_true q, if_pos rfl, show bI true = nI 1 from rfl, nI_add, nI_add]
      · rw [if_neg (by rw [nI_eq (by omega) (by omega)]; exact q), bnP_1, show nI 0 = bI false from rfl, m_one, bnP_1, decide_eq_false q, if_neg (by decide), show bI false = nI 0 from rfl, nI_add, nI_a1]
    · unfold fX10_copiesOf_l1
      rw [mk_r1 h, bnP_1, li_6, mk_a1 h (by decide), bnP_1, he.2.2.2.2]
      dsimp only
      rw [if_pos (by rw [nI_leI (by omega) (by omega)]; exact Nat.le_refl _)]
  rw [mk_o h, bnP_1, e, bnP_1]
end M4
