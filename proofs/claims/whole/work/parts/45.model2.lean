/-! THE PURE LEVEL, 4: the reference's questions -/
theorem nI_s1 {n : Nat} (h : 0 < n) : nI n - nI 1 = nI (n - 1) := nI_m1 h
theorem nI_i1 (n : Nat) : nI n + nI 1 = nI (n + 1) := nI_add n 1
theorem nI_a1 (n : Nat) : nI n + 1 = nI (n + 1) := nI_add n 1
/-- act a of the row: its words f .. f + n - 1 -/
def aOK (N : Nat → Int32) (a f n : Nat) : Prop := a < 10 ∧ N (9 + 9 * a + 5) = nI f ∧ N (9 + 9 * a + 6) = nI n ∧ 1 ≤ n ∧ f + n ≤ 240
/-- what stands at word g -/
def skN (N : Nat → Int32) (g : Nat) : Bool := decide (N (127 + 13 * g + 2) = 0)
/-- first and last standing word of words f .. f + n - 1 -/
def fsN (N : Nat → Int32) (f : Nat) : Nat → Option (Nat × Nat)
  | 0 => none
  | n + 1 => if skN N (f + n) = true then (match fsN N f n with | none => some (f + n, f + n) | some (x, _) => some (x, f + n)) else fsN N f n
theorem fsN_none {N : Nat → Int32} {f : Nat} : ∀ {n : Nat}, fsN N f n = none → ∀ k, k < n → skN N (f + k) = false
  | 0, _, k, hk => absurd hk (Nat.not_lt_zero _)
  | n + 1, h, k, hk => by
    unfold fsN at h
    cases e : skN N (f + n)
    · rw [e] at h
      have h : fsN N f n = none := h
      rcases Nat.lt_succ_iff_lt_or_eq.mp hk with q | q
      · exact fsN_none h k q
      · rw [q]; exact e
    · rw [if_pos e] at h
      split at h <;> cases h
theorem fsN_some {N : Nat → Int32} {f x y : Nat} : ∀ {n : Nat}, fsN N f n = some (x, y) → (f ≤ x ∧ x ≤ y ∧ y < f + n) ∧ skN N x = true ∧ skN N y = true ∧ (∀ g, f ≤ g → g < x → skN N g = false) ∧ ∀ g, y < g → g < f + n → skN N g = false
  | 0, h => by cases h
  | n + 1, h => by
    unfold fsN at h
    cases e : skN N (f + n)
    · rw [e] at h
      obtain ⟨h1, h2, h3, h4, h5⟩ := fsN_some (n := n) h
      refine ⟨⟨h1.1, h1.2.1, by omega⟩, h2, h3, h4, fun g q1 q2 => ?_⟩
      by_cases q : g = f + n
      · rw [q]; exact e
      · exact h5 g q1 (by omega)
    · rw [if_pos e] at h
      split at h
      · rename_i e2
        cases h
        refine ⟨⟨by omega, Nat.le_refl _, by omega⟩, e, e, fun g q1 q2 => ?_, fun g q1 q2 => by omega⟩
        have := fsN_none e2 (g - f) (by omega)
        rw [show f + (g - f) = g by omega] at this
        exact this
      · rename_i x2 y2 e2
        cases h
        obtain ⟨h1, h2, h3, h4, h5⟩ := fsN_some (n := n) e2
        exact ⟨⟨h1.1, by omega, by omega⟩, h2, e, h4, fun g q1 q2 => by omega⟩
def fstS (N : Nat → Int32) (f n : Nat) : Int32 := match fsN N f n with | none => nO | some (x, _) => nI x
def lstS (N : Nat → Int32) (f n : Nat) : Int32 := match fsN N f n with | none => nO | some (_, y) => nI y
/-- has a copy of grade gr word g (of this act's words) -/
def hbN (N : Nat → Int32) (f n gr g : Nat) : Bool := skN N g && (decide (gr < 2) || decide (nI g = fstS N f n) || decide (nI g = lstS N f n))
section M2
variable {σ : HpT} {G : Nat → Nat → Int32} {m : Nat}
theorem m_lastOf (h : MK σ m) {a f n : Nat} (ha : aOK (G (m + 1)) a f n) : fX10_lastOf (some m) (nI a) (wi σ G) = some (nI (f + n - 1)) := by
  obtain ⟨h1, h2, h3, h4, h5⟩ := ha
  unfold fX10_lastOf
  simp only [bnP_1, bnS_1, mk_o h, mk_I h, mk_P h, mk_r1 h, mk_r2 h, mk_r3 h, mk_r4 h, mk_r5 h, mk_r6 h, mk_r7 h, mk_r8 h, li_0, li_1, li_2, li_3, li_4, li_5, li_6, li_7, li_8, li_9, li_10, li_11, li_12, li_13, li_14, li_15, li_20, li_31, li_32, li_40, li_41, li_47, li_48, li_57, li_58, li_59, li_63, li_94, li_97, li_99, li_111, li_122, li_127, li_240, li_255, li_580, li_600, li_3247, li_6139, li_42973, neg_nO, nI_add, pk_mul, m_ofAct h a 5 (by omega), m_ofAct h a 6 (by omega), h2, h3]
  rw [nI_s1 (by omega)]
theorem m_stands (h : MK σ m) {g : Nat} (hg : g < 241) : fX10_stands (some m) (nI g) (wi σ G) = some (skN (G (m + 1)) g) := by
  unfold fX10_stands skN
  rw [mk_o h, bnP_1, li_2, m_ofWord h g 2 (by omega), bnP_1]
  by_cases e : G (m + 1) (127 + 13 * g + 2) = 0
  · rw [if_pos e, decide_eq_true e]
  · rw [if_neg e, decide_eq_false e]
/-- standing words of an act, those behind them too -/
def stN (N : Nat → Int32) (f n : Nat) : Int32 := sumI (fun k => bI (skN N (f + k)) + N (127 + 13 * (f + k) + 4)) n
theorem m_standing (h : MK σ m) {a f n : Nat} (ha : aOK (G (m + 1)) a f n) : fX10_standing (some m) (nI a) (wi σ G) = some (stN (G (m + 1)) f n) := by
  obtain ⟨h1, h2, h3, h4, h5⟩ := id ha
  unfold fX10_standing
  rw [mk_o h, bnP_1, li_5, m_ofAct h a 5 (by omega), bnP_1, h2]
  have e : lpP (fX10_standing_l1 (some m) (nI a) (wi σ G)) FUEL (0, nI f) = some (stN (G (m + 1)) f n) := by
    refine lpP_f n (fun k => (sumI (fun k => bI (skN (G (m + 1)) (f + k)) + G (m + 1) (127 + 13 * (f + k) + 4)) k, nI (f + k))) rfl (by omega) (fun k hk => ?_) ?_
    · unfold fX10_standing_l1
      rw [m_lastOf h ha, bnP_1]
      dsimp only
      rw [if_neg (by rw [nI_ltI (by omega) (by omega)]; omega), m_stands h (by omega), bnP_1, m_one, bnP_1, li_4, m_ofWord h (f + k) 4 (by omega), bnP_1, nI_a1]
      rfl
    · unfold fX10_standing_l1
      rw [m_lastOf h ha, bnP_1]
      dsimp only
      rw [if_pos (by rw [nI_ltI (by omega) (by omega)]; omega)]
      rfl
  rw [e, bnP_1]
theorem m_actOf (h : MK σ m) {a g : Nat} {f n : Nat → Nat} (hg : g < 240) (ha : ∀ j, j ≤ a → aOK (G (m + 1)) j (f j) (n j)) (hl : ∀ j, j < a → f j + n j ≤ g) (hr : g < f a + n a) : fX10_actOf (some m) (nI g) (wi σ G) = some (nI a) := by
  unfold fX10_actOf
  have h10 : a < 10 := (ha a (Nat.le_refl _)).1
  have e : lpP (fX10_actOf_l1 (some m) (nI g) (wi σ G)) FUEL 0 = some (nI a) := by
    refine lpP_f a (fun k => nI k) rfl (by omega) (fun k hk => ?_) ?_
    · obtain ⟨-, -, -, q4, q5⟩ := ha k (by omega)
      unfold fX10_actOf_l1
      rw [m_lastOf h (ha k (by omega)), bnP_1, if_neg (by rw [nI_leI (by omega) (by omega)]; have := hl k hk; omega), nI_a1]
    · obtain ⟨-, -, -, q4, q5⟩ := ha a (Nat.le_refl _)
      unfold fX10_actOf_l1
      rw [m_lastOf h (ha a (Nat.le_refl _)), bnP_1, if_pos (by rw [nI_leI (by omega) (by omega)]; omega)]
  rw [mk_o h, bnP_1, e, bnP_1]
theorem m_firstStanding (h : MK σ m) {a f n : Nat} (ha : aOK (G (m + 1)) a f n) : fX10_firstStanding (some m) (nI a) (wi σ G) = some (fstS (G (m + 1)) f n) := by
  obtain ⟨h1, h2, h3, h4, h5⟩ := id ha
  unfold fX10_firstStanding fstS
  rw [mk_o h, bnP_1, li_5, m_ofAct h a 5 (by omega), bnP_1, h2]
  have step : ∀ k, k < n → skN (G (m + 1)) (f + k) = false → fX10_firstStanding_l1 (some m) (nI a) (wi σ G) (nI (f + k)) = some (.inl (nI (f + (k + 1)))) := fun k hk hs => by
    unfold fX10_firstStanding_l1
    rw [m_lastOf h ha, bnP_1, if_neg (by rw [nI_ltI (by omega) (by omega)]; omega), m_stands h (by omega), bnP_1, hs, if_neg (by decide), nI_a1]
    rfl
  cases e : fsN (G (m + 1)) f n with
  | none =>
    have e2 : lpP (fX10_firstStanding_l1 (some m) (nI a) (wi σ G)) FUEL (nI f) = some (.inl ()) := by
      refine lpP_f n (fun k => nI (f + k)) rfl (by omega) (fun k hk => step k hk (fsN_none e k hk)) ?_
      unfold fX10_firstStanding_l1
      rw [m_lastOf h ha, bnP_1, if_pos (by rw [nI_ltI (by omega) (by omega)]; omega)]
    rw [e2, bnP_1]
    rfl
  | some xy =>
    obtain ⟨x, y⟩ := xy
    obtain ⟨q1, q2, q3, q4, q5⟩ := fsN_some e
    have e2 : lpP (fX10_firstStanding_l1 (some m) (nI a) (wi σ G)) FUEL (nI f) = some (.inr (nI x)) := by
      refine lpP_f (x - f) (fun k => nI (f + k)) rfl (by omega) (fun k hk => step k (by omega) (q4 _ (by omega) (by omega))) ?_
      rw [show f + (x - f) = x by omega]
      unfold fX10_firstStanding_l1
      rw [m_lastOf h ha, bnP_1, if_neg (by rw [nI_ltI (by omega) (by omega)]; omega), m_stands h (by omega), bnP_1, q2, if_pos rfl]
    rw [e2, bnP_1]
theorem m_lastStanding (h : MK σ m) {a f n : Nat} (ha : aOK (G (m + 1)) a f n) : fX10_lastStanding (some m) (nI a) (wi σ G) = some (lstS (G (m + 1)) f n) := by
  obtain ⟨h1, h2, h3, h4, h5⟩ := id ha
  unfold fX10_lastStanding lstS
  rw [mk_o h, bnP_1, m_lastOf h ha, bnP_1]
  -- the states: f + n - 1 - k, and one below f (that may be -1)
  have step : ∀ g, f ≤ g → g < f + n → skN (G (m + 1)) g = false → fX10_lastStanding_l1 (some m) (nI a) (wi σ G) (nI g) = some (.inl (nI g + nO)) := fun g q1 q2 hs => by
    unfold fX10_lastStanding_l1
    rw [li_5, m_ofAct h a 5 (by omega), bnP_1, h2, if_neg (by rw [nI_ltI (by omega) (by omega)]; omega), m_stands h (by omega), bnP_1, hs, if_neg (by decide)]
    rfl
  cases e : fsN (G (m + 1)) f n with
  | none =>
    have e2 : lpP (fX10_lastStanding_l1 (some m) (nI a) (wi σ G)) FUEL (nI (f + n - 1)) = some (.inl ()) := by
      refine lpP_f n (fun k => nI (f + n - k) + nO) (by rw [Nat.sub_zero]; exact nI_pO (by omega)) (by omega) (fun k hk => ?_) ?_
      · rw [nI_pO (by omega), step _ (by omega) (by omega) (by rw [show f + n - k - 1 = f + (n - k - 1) by omega]; exact fsN_none e _ (by omega)), show f + n - (k + 1) = f + n - k - 1 by omega]
      · rw [show f + n - n = f by omega]
        unfold fX10_lastStanding_l1
        rw [li_5, m_ofAct h a 5 (by omega), bnP_1, h2, if_pos ?_]
        by_cases q : f = 0
        · subst q; exact nO_lt (by decide)
        · rw [nI_pO (by omega), nI_ltI (by omega) (by omega)]; omega
    rw [e2, bnP_1]
    rfl
  | some xy =>
    obtain ⟨x, y⟩ := xy
    obtain ⟨q1, q2, q3, q4, q5⟩ := fsN_some e
    have e2 : lpP (fX10_lastStanding_l1 (some m) (nI a) (wi σ G)) FUEL (nI (f + n - 1)) = some (.inr (nI y)) := by
      refine lpP_f (f + n - 1 - y) (fun k => nI (f + n - 1 - k)) rfl (by omega) (fun k hk => ?_) ?_
      · rw [step _ (by omega) (by omega) (q5 _ (by omega) (by omega)), nI_pO (by omega), show f + n - 1 - (k + 1) = f + n - 1 - k - 1 by omega]
      · rw [show f + n - 1 - (f + n - 1 - y) = y by omega]
        unfold fX10_lastStanding_l1
        rw [li_5, m_ofAct h a 5 (by omega), bnP_1, h2, if_neg (by rw [nI_ltI (by omega) (by omega)]; omega), m_stands h (by omega), bnP_1, q3, if_pos rfl]
    rw [e2, bnP_1]
theorem m_hasBy (h : MK σ m) {a f n gr g : Nat} (ha : aOK (G (m + 1)) a f n) (hgr : gr < 3) (hg : g < 240) : fX10_hasBy (some m) (nI a) (nI gr) (nI g) (wi σ G) = some (hbN (G (m + 1)) f n gr g) := by
  unfold fX10_hasBy hbN
  rw [mk_o h, bnP_1, m_stands h (by omega), bnP_1]
  cases e : skN (G (m + 1)) g
  · rfl
  · rw [if_pos rfl]
    by_cases h2 : gr < 2
    · rw [if_pos (by rw [li_2, nI_ltI (by omega) (by omega)]; exact h2), decide_eq_true h2]
      rfl
    · rw [if_neg (by rw [li_2, nI_ltI (by omega) (by omega)]; exact h2), decide_eq_false h2, m_firstStanding h ha, bnP_1]
      by_cases h3 : nI g = fstS (G (m + 1)) f n
      · rw [if_pos h3, decide_eq_true h3]
        rfl
      · rw [if_neg h3, decide_eq_false h3, m_lastStanding h ha, bnP_1]
        by_cases h4 : nI g = lstS (G (m + 1)) f n
        · rw [if_pos h4, decide_eq_true h4]
          rfl
        · rw [if_neg h4, decide_eq_false h4]
          rfl
end M2
