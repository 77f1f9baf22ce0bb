/-! THE PURE LEVEL, 1: the reference's cells, its small methods -/
theorem li_0 : (0 : Int32) = nI 0 := rfl
theorem li_1 : (1 : Int32) = nI 1 := rfl
theorem li_2 : (2 : Int32) = nI 2 := rfl
theorem li_3 : (3 : Int32) = nI 3 := rfl
theorem li_4 : (4 : Int32) = nI 4 := rfl
theorem li_5 : (5 : Int32) = nI 5 := rfl
theorem li_6 : (6 : Int32) = nI 6 := rfl
theorem li_7 : (7 : Int32) = nI 7 := rfl
theorem li_8 : (8 : Int32) = nI 8 := rfl
theorem li_9 : (9 : Int32) = nI 9 := rfl
theorem li_10 : (10 : Int32) = nI 10 := rfl
theorem li_11 : (11 : Int32) = nI 11 := rfl
theorem li_12 : (12 : Int32) = nI 12 := rfl
theorem li_13 : (13 : Int32) = nI 13 := rfl
theorem li_14 : (14 : Int32) = nI 14 := rfl
theorem li_15 : (15 : Int32) = nI 15 := rfl
theorem li_20 : (20 : Int32) = nI 20 := rfl
theorem li_31 : (31 : Int32) = nI 31 := rfl
theorem li_32 : (32 : Int32) = nI 32 := rfl
theorem li_40 : (40 : Int32) = nI 40 := rfl
theorem li_41 : (41 : Int32) = nI 41 := rfl
theorem li_47 : (47 : Int32) = nI 47 := rfl
theorem li_48 : (48 : Int32) = nI 48 := rfl
theorem li_57 : (57 : Int32) = nI 57 := rfl
theorem li_58 : (58 : Int32) = nI 58 := rfl
theorem li_59 : (59 : Int32) = nI 59 := rfl
theorem li_63 : (63 : Int32) = nI 63 := rfl
theorem li_94 : (94 : Int32) = nI 94 := rfl
theorem li_97 : (97 : Int32) = nI 97 := rfl
theorem li_99 : (99 : Int32) = nI 99 := rfl
theorem li_111 : (111 : Int32) = nI 111 := rfl
theorem li_122 : (122 : Int32) = nI 122 := rfl
theorem li_127 : (127 : Int32) = nI 127 := rfl
theorem li_240 : (240 : Int32) = nI 240 := rfl
theorem li_255 : (255 : Int32) = nI 255 := rfl
theorem li_580 : (580 : Int32) = nI 580 := rfl
theorem li_600 : (600 : Int32) = nI 600 := rfl
theorem li_3247 : (3247 : Int32) = nI 3247 := rfl
theorem li_6139 : (6139 : Int32) = nI 6139 := rfl
theorem li_42973 : (42973 : Int32) = nI 42973 := rfl
def nO : Int32 := -1
theorem neg_nO : -nI 1 = nO := rfl
theorem nO_ne {n : Nat} (h : n < 2 ^ 31) : ¬ nO = nI n := fun e => by
  have h2 := congrArg Int32.toInt e
  rw [nI_toInt h] at h2
  have : nO.toInt = -1 := rfl
  omega
theorem nI_nO {n : Nat} (h : n < 2 ^ 31) : ¬ nI n = nO := fun e => nO_ne h e.symm
theorem nO_lt {n : Nat} (h : n < 2 ^ 31) : nO < nI n := by
  rw [Int32.lt_iff_toInt_lt, nI_toInt h]
  have : nO.toInt = -1 := rfl
  omega
theorem nI_pO {n : Nat} (h : 0 < n) : nI n + nO = nI (n - 1) := by
  obtain ⟨k, rfl⟩ : ∃ k, n = k + 1 := ⟨n - 1, by omega⟩
  exact pk_m1 k
theorem nO_1 : nO + nI 1 = nI 0 := rfl
theorem nI_sub0 : nI 0 - nI 1 = nO := rfl
/-- the reference's cells lie from m on -/
def MK (σ : HpT) (m : Nat) : Prop := m + 9 ≤ hN σ ∧ hK σ m = 10 ∧ (hK σ (m + 1) = 20 ∧ hK σ (m + 2) = 20 ∧ hK σ (m + 3) = 20 ∧ hK σ (m + 4) = 20 ∧ hK σ (m + 5) = 23 ∧ hK σ (m + 6) = 22 ∧ hK σ (m + 7) = 23 ∧ hK σ (m + 8) = 22) ∧
  (hZ σ (m + 1) = 6139 ∧ hZ σ (m + 2) = 6139 ∧ hZ σ (m + 3) = 49112 ∧ hZ σ (m + 4) = 12278 ∧ hZ σ (m + 5) = 2 ∧ hZ σ (m + 6) = 600 ∧ hZ σ (m + 7) = 12 ∧ hZ σ (m + 8) = 20000) ∧
  (hR σ m 1 = some (m + 1) ∧ hR σ m 2 = some (m + 2) ∧ hR σ m 3 = some (m + 3) ∧ hR σ m 4 = some (m + 4) ∧ hR σ m 5 = some (m + 5) ∧ hR σ m 8 = some (m + 6) ∧ hR σ m 21 = some (m + 7) ∧ hR σ m 22 = some (m + 8))
section M1
variable {σ : HpT} {G : Nat → Nat → Int32} {m : Nat}
theorem mk_o (h : MK σ m) : isK (wi σ G) (some m) 10 = some () := isK_e h.2.1
theorem mk_I (h : MK σ m) (k : Nat) : gI (wi σ G) (some m) 10 k = some (G m k) := gI_e h.2.1 (by have := h.1; omega)
theorem mk_P (h : MK σ m) (k : Nat) (x : Int32) : pI (wi σ G) (some m) 10 k x = some (wi σ (up G m k x)) := pI_e h.2.1 (by have := h.1; omega)
theorem mk_r1 (h : MK σ m) : gR (wi σ G) (some m) 10 1 = some (some (m + 1)) := gR_e h.2.1 h.2.2.2.2.1
theorem mk_r2 (h : MK σ m) : gR (wi σ G) (some m) 10 2 = some (some (m + 2)) := gR_e h.2.1 h.2.2.2.2.2.1
theorem mk_r3 (h : MK σ m) : gR (wi σ G) (some m) 10 3 = some (some (m + 3)) := gR_e h.2.1 h.2.2.2.2.2.2.1
theorem mk_r4 (h : MK σ m) : gR (wi σ G) (some m) 10 4 = some (some (m + 4)) := gR_e h.2.1 h.2.2.2.2.2.2.2.1
theorem mk_r5 (h : MK σ m) : gR (wi σ G) (some m) 10 5 = some (some (m + 5)) := gR_e h.2.1 h.2.2.2.2.2.2.2.2.1
theorem mk_r6 (h : MK σ m) : gR (wi σ G) (some m) 10 8 = some (some (m + 6)) := gR_e h.2.1 h.2.2.2.2.2.2.2.2.2.1
theorem mk_r7 (h : MK σ m) : gR (wi σ G) (some m) 10 21 = some (some (m + 7)) := gR_e h.2.1 h.2.2.2.2.2.2.2.2.2.2.1
theorem mk_r8 (h : MK σ m) : gR (wi σ G) (some m) 10 22 = some (some (m + 8)) := gR_e h.2.1 h.2.2.2.2.2.2.2.2.2.2.2
theorem mk_a1 (h : MK σ m) {n : Nat} (hn : n < 6139) : aI (wi σ G) (some (m + 1)) 20 (nI n) = some (G (m + 1) n) := aI_e h.2.2.1.1 (by have := h.1; omega) h.2.2.2.1.1 hn (by decide)
theorem mk_a2 (h : MK σ m) {n : Nat} (hn : n < 6139) : aI (wi σ G) (some (m + 2)) 20 (nI n) = some (G (m + 2) n) := aI_e h.2.2.1.2.1 (by have := h.1; omega) h.2.2.2.1.2.1 hn (by decide)
theorem mk_a3 (h : MK σ m) {n : Nat} (hn : n < 49112) : aI (wi σ G) (some (m + 3)) 20 (nI n) = some (G (m + 3) n) := aI_e h.2.2.1.2.2.1 (by have := h.1; omega) h.2.2.2.1.2.2.1 hn (by decide)
theorem mk_a4 (h : MK σ m) {n : Nat} (hn : n < 12278) : aI (wi σ G) (some (m + 4)) 20 (nI n) = some (G (m + 4) n) := aI_e h.2.2.1.2.2.2.1 (by have := h.1; omega) h.2.2.2.1.2.2.2.1 hn (by decide)
theorem mk_a5 (h : MK σ m) {n : Nat} (hn : n < 2) : aI (wi σ G) (some (m + 5)) 23 (nI n) = some (G (m + 5) n) := aI_e h.2.2.1.2.2.2.2.1 (by have := h.1; omega) h.2.2.2.1.2.2.2.2.1 hn (by decide)
theorem mk_a6 (h : MK σ m) {n : Nat} (hn : n < 600) : aI (wi σ G) (some (m + 6)) 22 (nI n) = some (G (m + 6) n) := aI_e h.2.2.1.2.2.2.2.2.1 (by have := h.1; omega) h.2.2.2.1.2.2.2.2.2.1 hn (by decide)
theorem mk_a7 (h : MK σ m) {n : Nat} (hn : n < 12) : aI (wi σ G) (some (m + 7)) 23 (nI n) = some (G (m + 7) n) := aI_e h.2.2.1.2.2.2.2.2.2.1 (by have := h.1; omega) h.2.2.2.1.2.2.2.2.2.2.1 hn (by decide)
theorem mk_a8 (h : MK σ m) {n : Nat} (hn : n < 20000) : aI (wi σ G) (some (m + 8)) 22 (nI n) = some (G (m + 8) n) := aI_e h.2.2.1.2.2.2.2.2.2.2 (by have := h.1; omega) h.2.2.2.1.2.2.2.2.2.2.2 hn (by decide)
theorem mk_s1 (h : MK σ m) {n : Nat} {x : Int32} (hn : n < 6139) : sI (wi σ G) (some (m + 1)) (nI n) x = some (wi σ (up G (m + 1) n x)) := sI_e h.2.2.1.1 (by have := h.1; omega) h.2.2.2.1.1 hn (by decide)
theorem mk_s2 (h : MK σ m) {n : Nat} {x : Int32} (hn : n < 6139) : sI (wi σ G) (some (m + 2)) (nI n) x = some (wi σ (up G (m + 2) n x)) := sI_e h.2.2.1.2.1 (by have := h.1; omega) h.2.2.2.1.2.1 hn (by decide)
theorem mk_s3 (h : MK σ m) {n : Nat} {x : Int32} (hn : n < 49112) : sI (wi σ G) (some (m + 3)) (nI n) x = some (wi σ (up G (m + 3) n x)) := sI_e h.2.2.1.2.2.1 (by have := h.1; omega) h.2.2.2.1.2.2.1 hn (by decide)
theorem mk_s4 (h : MK σ m) {n : Nat} {x : Int32} (hn : n < 12278) : sI (wi σ G) (some (m + 4)) (nI n) x = some (wi σ (up G (m + 4) n x)) := sI_e h.2.2.1.2.2.2.1 (by have := h.1; omega) h.2.2.2.1.2.2.2.1 hn (by decide)
theorem mk_s5 (h : MK σ m) {n : Nat} {x : Int32} (hn : n < 2) : sZ (wi σ G) (some (m + 5)) (nI n) x = some (wi σ (up G (m + 5) n (vp_nar .boolean x))) := sZ_e h.2.2.1.2.2.2.2.1 (by have := h.1; omega) h.2.2.2.1.2.2.2.2.1 hn (by decide)
theorem mk_s6 (h : MK σ m) {n : Nat} {x : Int32} (hn : n < 600) : sB (wi σ G) (some (m + 6)) (nI n) x = some (wi σ (up G (m + 6) n x.toInt8.toInt32)) := sB_e h.2.2.1.2.2.2.2.2.1 (by have := h.1; omega) h.2.2.2.1.2.2.2.2.2.1 hn (by decide)
theorem mk_s7 (h : MK σ m) {n : Nat} {x : Int32} (hn : n < 12) : sZ (wi σ G) (some (m + 7)) (nI n) x = some (wi σ (up G (m + 7) n (vp_nar .boolean x))) := sZ_e h.2.2.1.2.2.2.2.2.2.1 (by have := h.1; omega) h.2.2.2.1.2.2.2.2.2.2.1 hn (by decide)
theorem mk_s8 (h : MK σ m) {n : Nat} {x : Int32} (hn : n < 20000) : sB (wi σ G) (some (m + 8)) (nI n) x = some (wi σ (up G (m + 8) n x.toInt8.toInt32)) := sB_e h.2.2.1.2.2.2.2.2.2.2 (by have := h.1; omega) h.2.2.2.1.2.2.2.2.2.2.2 hn (by decide)
/-! rows of the row -/
theorem m_ofAct (h : MK σ m) (a w : Nat) (hb : 9 + 9 * a + w < 6139) : fX10_ofAct (some m) (nI a) (nI w) (wi σ G) = some (G (m + 1) (9 + 9 * a + w)) := by
  unfold fX10_ofAct
  simp only [bnP_1, bnS_1, mk_o h, mk_I h, mk_P h, mk_r1 h, mk_r2 h, mk_r3 h, mk_r4 h, mk_r5 h, mk_r6 h, mk_r7 h, mk_r8 h, li_0, li_1, li_2, li_3, li_4, li_5, li_6, li_7, li_8, li_9, li_10, li_11, li_12, li_13, li_14, li_15, li_20, li_31, li_32, li_40, li_41, li_47, li_48, li_57, li_58, li_59, li_63, li_94, li_97, li_99, li_111, li_122, li_127, li_240, li_255, li_580, li_600, li_3247, li_6139, li_42973, neg_nO, nI_add, pk_mul, mk_a1 h hb]
theorem m_ofWord (h : MK σ m) (a w : Nat) (hb : 127 + 13 * a + w < 6139) : fX10_ofWord (some m) (nI a) (nI w) (wi σ G) = some (G (m + 1) (127 + 13 * a + w)) := by
  unfold fX10_ofWord
  simp only [bnP_1, bnS_1, mk_o h, mk_I h, mk_P h, mk_r1 h, mk_r2 h, mk_r3 h, mk_r4 h, mk_r5 h, mk_r6 h, mk_r7 h, mk_r8 h, li_0, li_1, li_2, li_3, li_4, li_5, li_6, li_7, li_8, li_9, li_10, li_11, li_12, li_13, li_14, li_15, li_20, li_31, li_32, li_40, li_41, li_47, li_48, li_57, li_58, li_59, li_63, li_94, li_97, li_99, li_111, li_122, li_127, li_240, li_255, li_580, li_600, li_3247, li_6139, li_42973, neg_nO, nI_add, pk_mul, mk_a1 h hb]
theorem m_ofClause (h : MK σ m) (a w : Nat) (hb : 3247 + 3 * a + w < 6139) : fX10_ofClause (some m) (nI a) (nI w) (wi σ G) = some (G (m + 1) (3247 + 3 * a + w)) := by
  unfold fX10_ofClause
  simp only [bnP_1, bnS_1, mk_o h, mk_I h, mk_P h, mk_r1 h, mk_r2 h, mk_r3 h, mk_r4 h, mk_r5 h, mk_r6 h, mk_r7 h, mk_r8 h, li_0, li_1, li_2, li_3, li_4, li_5, li_6, li_7, li_8, li_9, li_10, li_11, li_12, li_13, li_14, li_15, li_20, li_31, li_32, li_40, li_41, li_47, li_48, li_57, li_58, li_59, li_63, li_94, li_97, li_99, li_111, li_122, li_127, li_240, li_255, li_580, li_600, li_3247, li_6139, li_42973, neg_nO, nI_add, pk_mul, mk_a1 h hb]
theorem m_ofCopy (h : MK σ m) (a w : Nat) (hb : 111 + 2 * a + w < 6139) : fX10_ofCopy (some m) (nI a) (nI w) (wi σ G) = some (G (m + 1) (111 + 2 * a + w)) := by
  unfold fX10_ofCopy
  simp only [bnP_1, bnS_1, mk_o h, mk_I h, mk_P h, mk_r1 h, mk_r2 h, mk_r3 h, mk_r4 h, mk_r5 h, mk_r6 h, mk_r7 h, mk_r8 h, li_0, li_1, li_2, li_3, li_4, li_5, li_6, li_7, li_8, li_9, li_10, li_11, li_12, li_13, li_14, li_15, li_20, li_31, li_32, li_40, li_41, li_47, li_48, li_57, li_58, li_59, li_63, li_94, li_97, li_99, li_111, li_122, li_127, li_240, li_255, li_580, li_600, li_3247, li_6139, li_42973, neg_nO, nI_add, pk_mul, mk_a1 h hb]
theorem m_statusOf (h : MK σ m) (l : Nat) (hb : 99 + l < 6139) : fX10_statusOf (some m) (nI l) (wi σ G) = some (G (m + 1) (99 + l)) := by
  unfold fX10_statusOf
  simp only [bnP_1, bnS_1, mk_o h, mk_I h, mk_P h, mk_r1 h, mk_r2 h, mk_r3 h, mk_r4 h, mk_r5 h, mk_r6 h, mk_r7 h, mk_r8 h, li_0, li_1, li_2, li_3, li_4, li_5, li_6, li_7, li_8, li_9, li_10, li_11, li_12, li_13, li_14, li_15, li_20, li_31, li_32, li_40, li_41, li_47, li_48, li_57, li_58, li_59, li_63, li_94, li_97, li_99, li_111, li_122, li_127, li_240, li_255, li_580, li_600, li_3247, li_6139, li_42973, neg_nO, nI_add, pk_mul, mk_a1 h hb]
theorem m_putsAct (h : MK σ m) (a w : Nat) (x : Int32) (hb : 9 + 9 * a + w < 6139) : fX10_putsAct (some m) (nI a) (nI w) x (wi σ G) = some (wi σ (up G (m + 1) (9 + 9 * a + w) x)) := by
  unfold fX10_putsAct
  simp only [bnP_1, bnS_1, mk_o h, mk_I h, mk_P h, mk_r1 h, mk_r2 h, mk_r3 h, mk_r4 h, mk_r5 h, mk_r6 h, mk_r7 h, mk_r8 h, li_0, li_1, li_2, li_3, li_4, li_5, li_6, li_7, li_8, li_9, li_10, li_11, li_12, li_13, li_14, li_15, li_20, li_31, li_32, li_40, li_41, li_47, li_48, li_57, li_58, li_59, li_63, li_94, li_97, li_99, li_111, li_122, li_127, li_240, li_255, li_580, li_600, li_3247, li_6139, li_42973, neg_nO, nI_add, pk_mul, mk_s1 h hb]
theorem m_putsWord (h : MK σ m) (a w : Nat) (x : Int32) (hb : 127 + 13 * a + w < 6139) : fX10_putsWord (some m) (nI a) (nI w) x (wi σ G) = some (wi σ (up G (m + 1) (127 + 13 * a + w) x)) := by
  unfold fX10_putsWord
  simp only [bnP_1, bnS_1, mk_o h, mk_I h, mk_P h, mk_r1 h, mk_r2 h, mk_r3 h, mk_r4 h, mk_r5 h, mk_r6 h, mk_r7 h, mk_r8 h, li_0, li_1, li_2, li_3, li_4, li_5, li_6, li_7, li_8, li_9, li_10, li_11, li_12, li_13, li_14, li_15, li_20, li_31, li_32, li_40, li_41, li_47, li_48, li_57, li_58, li_59, li_63, li_94, li_97, li_99, li_111, li_122, li_127, li_240, li_255, li_580, li_600, li_3247, li_6139, li_42973, neg_nO, nI_add, pk_mul, mk_s1 h hb]
theorem m_thrown (h : MK σ m) : fX10_thrown (some m) (wi σ G) = some (G m 0) := by
  unfold fX10_thrown
  simp only [bnP_1, bnS_1, mk_o h, mk_I h, mk_P h, mk_r1 h, mk_r2 h, mk_r3 h, mk_r4 h, mk_r5 h, mk_r6 h, mk_r7 h, mk_r8 h, li_0, li_1, li_2, li_3, li_4, li_5, li_6, li_7, li_8, li_9, li_10, li_11, li_12, li_13, li_14, li_15, li_20, li_31, li_32, li_40, li_41, li_47, li_48, li_57, li_58, li_59, li_63, li_94, li_97, li_99, li_111, li_122, li_127, li_240, li_255, li_580, li_600, li_3247, li_6139, li_42973, neg_nO, nI_add, pk_mul]
/-- low ≤ v ≤ high -/
def inR (v lo hi : Int32) : Bool := decide (lo ≤ v) && decide (v ≤ hi)
theorem m_in (v lo hi : Int32) : fX10_in v lo hi σ = some (inR v lo hi) := by
  unfold fX10_in inR
  by_cases h1 : v < lo
  · rw [if_pos h1, decide_eq_false (Int32.not_le.mpr h1)]
    rfl
  · rw [if_neg h1, decide_eq_true (Int32.not_lt.mp h1)]
    by_cases h2 : hi < v
    · rw [if_pos h2, decide_eq_false (Int32.not_le.mpr h2)]
      rfl
    · rw [if_neg h2, decide_eq_true (Int32.not_lt.mp h2)]
      rfl
theorem m_one (b : Bool) : fX10_one (bI b) σ = some (bI b) := by
  cases b <;> rfl
theorem bI_ne {b : Bool} : bI b = 0 ↔ b = false := by cases b <;> simp [bI]
/-- what a call throws: the first of three that fails -/
def thr (p q r : Bool) : Int32 := if p = false then 1 else if q = false then 2 else if r = false then 3 else 0
theorem thr_0 {p q r : Bool} : thr p q r = 0 ↔ p = true ∧ q = true ∧ r = true := by cases p <;> cases q <;> cases r <;> simp [thr]
theorem m_may (h : MK σ m) (p q r : Bool) : fX10_may (some m) (bI p) (bI q) (bI r) (wi σ G) = some (p && q && r, wi σ (up G m 0 (thr p q r))) := by
  unfold fX10_may
  cases p <;> cases q <;> cases r <;> simp [bI, thr, mk_o h, bnP_1, mk_P h, mk_I h, up_eq]
theorem m_mayTwo (h : MK σ m) (p q : Bool) : fX10_mayTwo (some m) (bI p) (bI q) (wi σ G) = some (p && q, wi σ (up G m 0 (thr p q true))) := by
  unfold fX10_mayTwo
  rw [mk_o h, bnP_1, show (1 : Int32) = bI true from rfl, m_may h, bnS_1, Bool.and_true]
end M1
