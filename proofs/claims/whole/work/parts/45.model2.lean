/-! THE PURE LEVEL, 4: the reference's questions -/
theorem nI_s1 {n : Nat} (h : 0 < n) : nI n - nI 1 = nI (n - 1) := nI_m1 h
theorem nI_i1 (n : Nat) : nI n + nI 1 = nI (n + 1) := nI_add n 1
/-- act a of the row: its words f .. f + n - 1 -/
def aOK (N : Nat → Int32) (a f n : Nat) : Prop := a < 10 ∧ N (9 + 9 * a + 5) = nI f ∧ N (9 + 9 * a + 6) = nI n ∧ 1 ≤ n ∧ f + n ≤ 240
/-- what stands at word g -/
def skN (N : Nat → Int32) (g : Nat) : Bool := decide (N (127 + 13 * g + 2) = 0)
section M2
variable {σ : HpT} {G : Nat → Nat → Int32} {m : Nat}
theorem m_lastOf (h : MK σ m) {a f n : Nat} (ha : aOK (G (m + 1)) a f n) : fX10_lastOf (some m) (nI a) (wi σ G) = some (nI (f + n - 1)) := by
  obtain ⟨h1, h2, h3, h4, h5⟩ := ha
  unfold fX10_lastOf
  simp only [bnP_1, bnS_1, mk_o h, mk_I h, mk_P h, mk_r1 h, mk_r2 h, mk_r3 h, mk_r4 h, mk_r5 h, mk_r6 h, mk_r7 h, mk_r8 h, li_0, li_1, li_2, li_3, li_4, li_5, li_6, li_7, li_8, li_9, li_10, li_11, li_12, li_13, li_14, li_15, li_20, li_31, li_32, li_40, li_41, li_47, li_48, li_57, li_58, li_59, li_63, li_94, li_97, li_99, li_111, li_122, li_127, li_240, li_255, li_580, li_600, li_3247, li_6139, li_42973, neg_nO, nI_add, pk_mul, m_ofAct h a 5 (by omega), m_ofAct h a 6 (by omega), h2, h3]
  rw [nI_s1 (by omega)]
theorem m_stands (h : MK σ m) {g : Nat} (hg : g < 241) : fX10_stands (some m) (nI g) (wi σ G) = some (skN (G (m + 1)) g) := by
  unfold fX10_stands skN
  rw [mk_o h, bnP_1, li_2, m_ofWord h g 2 (by omega), bnP_1]
  by_cases e : G (m + 1) (127 + 13 * g + 2) = 0
  · rw [if_pos e, decide_eq_true e]
  · rw [if_neg e, decide_eq_false e]
/-- standing words of an act, those behind them too -/
def stN (N : Nat → Int32) (f n : Nat) : Int32 := sumI (fun k => bI (skN N (f + k)) + N (127 + 13 * (f + k) + 4)) n
theorem m_standing (h : MK σ m) {a f n : Nat} (ha : aOK (G (m + 1)) a f n) : fX10_standing (some m) (nI a) (wi σ G) = some (stN (G (m + 1)) f n) := by
  obtain ⟨h1, h2, h3, h4, h5⟩ := id ha
  unfold fX10_standing
  rw [mk_o h, bnP_1, li_5, m_ofAct h a 5 (by omega), bnP_1, h2]
  rw [lpP_f n (fun k => (sumI (fun k => bI (skN (G (m + 1)) (f + k)) + G (m + 1) (127 + 13 * (f + k) + 4)) k, nI (f + k))) rfl (by omega) (fun k hk => ?_) (r := stN (G (m + 1)) f n) ?_]
  · rfl
  · unfold fX10_standing_l1
    rw [m_lastOf h ha, bnP_1]
    dsimp only
    rw [if_neg (by rw [nI_ltI (by omega) (by omega)]; omega), m_stands h (by omega), bnP_1, m_one, bnP_1, li_4, m_ofWord h (f + k) 4 (by omega), bnP_1, li_1, nI_i1]
    rfl
  · unfold fX10_standing_l1
    rw [m_lastOf h ha, bnP_1]
    dsimp only
    rw [if_pos (by rw [nI_ltI (by omega) (by omega)]; omega)]
    rfl
end M2
