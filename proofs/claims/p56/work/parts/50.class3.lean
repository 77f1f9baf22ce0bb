/-! THE PURE LEVEL, 9: the class's counts of a Book -/
section C3
variable {σ : HpT} {G : Nat → Nat → Int32} {J : Nat → Nat → Int64} {o b : Nat} {N : Nat → Int32}
/-- a NotaryBook at o, its Book at b -/
def NK (σ : HpT) (o b : Nat) : Prop := hK σ o = 9 ∧ o < hN σ ∧ hR σ o 5 = some b ∧ BK σ b
theorem nk_o (h : NK σ o b) : isK (wc σ G J) (some o) 9 = some () := isK_c h.1
theorem nk_I (h : NK σ o b) (k : Nat) : gI (wc σ G J) (some o) 9 k = some (G o k) := gI_c h.1 h.2.1
theorem nk_b (h : NK σ o b) : gR (wc σ G J) (some o) 9 5 = some (some b) := gR_c h.1 h.2.2.1
theorem nk_B (h : NK σ o b) : BK σ b := h.2.2.2
theorem c_requireBook (h : NK σ o b) : fX9_requireBook (some o) (wc σ G J) = some (if G o 4 = 0 then .error 0 else .ok ()) := by
  unfold fX9_requireBook
  rw [nk_o h, bnP_1, nk_I h, bnP_1]
  by_cases q : G o 4 = 0
  · rw [if_pos q, if_pos q]
  · rw [if_neg q, if_neg q]
theorem c_requireUpTo (v k : Int32) : fX9_requireUpTo v k σ = some (if inR v 0 k = true then .ok () else .error 2) := by
  unfold fX9_requireUpTo inR
  by_cases h1 : v < 0
  · rw [if_pos h1, decide_eq_false (Int32.not_le.mpr h1)]
    rfl
  · rw [if_neg h1, decide_eq_true (Int32.not_lt.mp h1)]
    by_cases h2 : v ≤ k
    · rw [if_pos h2, decide_eq_true h2]
      rfl
    · rw [if_neg h2, decide_eq_false h2]
      rfl
theorem rb_act (r : RB G J b N) {a : Nat} (ha : a < nAc N) : G (b + 15 + a) 0 = nI (a + 1) ∧ G (b + 15 + a) 1 = N (9 + 9 * a) ∧ G (b + 15 + a) 2 = N (9 + 9 * a + 1) ∧ G (b + 15 + a) 3 = N (9 + 9 * a + 2) ∧ G (b + 15 + a) 4 = N (9 + 9 * a + 3) ∧ G (b + 15 + a) 5 = N (9 + 9 * a + 5) ∧ G (b + 15 + a) 6 = N (9 + 9 * a + 6) ∧ G (b + 15 + a) 7 = N (9 + 9 * a + 4) := r.1.2.2.2.2.2.2.2.2.2.1 a ha
theorem rb_n (r : RB G J b N) (w1 : W1 N) : G b 2 = nI (nAc N) := by rw [← (w1_e w1).2.1]; exact r.1.2.2.1
theorem rb_w (r : RB G J b N) (w1 : W1 N) : G (b + 3) 0 = nI (nWd N) := by rw [← (w1_e w1).2.2.1]; exact r.1.2.2.2.2.2.2.1
theorem rb_l (r : RB G J b N) : G (b + 10) 1 = nI (nLv N) := r.1.2.2.2.2.2.2.2.2.1
theorem nlv_12 (w1 : W1 N) : nLv N ≤ 12 := by
  have hb := w1_b w1
  rw [Nat.div_le_iff_le_mul_add_pred (by omega)]
  have : nRm N * 12 = 12 * nRm N := Nat.mul_comm _ _
  omega
theorem c_marksOfAll (h : BK σ b) (w1 : W1 N) (r : RB G J b N) : fX1_marksOfAll (some b) (wc σ G J) = some (sumI (fun a => N (9 + 9 * a + 3)) (nAc N)) := by
  have hb := w1_b w1
  unfold fX1_marksOfAll
  have e : lpP (fX1_marksOfAll_l1 (some b) (wc σ G J)) FUEL (0, 0) = some (sumI (fun a => N (9 + 9 * a + 3)) (nAc N)) := by
    refine lpP_f (nAc N) (fun k => (sumI (fun a => N (9 + 9 * a + 3)) k, nI k)) rfl (by omega) (fun k hk => ?_) ?_
    · unfold fX1_marksOfAll_l1
      rw [bk_I h, bnP_1, rb_n r w1]
      dsimp only
      rw [if_neg (by rw [nI_leI (by omega) (by omega)]; omega), bk_r6 h, bnP_1, bk_aR h (by omega), bnP_1, bk_aI h (by omega), bnP_1, (rb_act r hk).2.2.2.2.1, nI_a1]
      rfl
    · unfold fX1_marksOfAll_l1
      rw [bk_I h, bnP_1, rb_n r w1]
      dsimp only
      rw [if_pos (by rw [nI_leI (by omega) (by omega)]; exact Nat.le_refl _)]
  rw [bk_o h, bnP_1, e, bnP_1]
theorem c_actsAt (h : BK σ b) (w1 : W1 N) (r : RB G J b N) (c : Int32) : fX1_actsAt (some b) c (wc σ G J) = some (nI (cntN (fun a => decide (N (9 + 9 * a + 1) = c)) (nAc N))) := by
  have hb := w1_b w1
  unfold fX1_actsAt
  have e : lpP (fX1_actsAt_l1 (some b) c (wc σ G J)) FUEL (0, 0) = some (nI (cntN (fun a => decide (N (9 + 9 * a + 1) = c)) (nAc N))) := by
    refine lpP_f (nAc N) (fun k => (nI (cntN (fun a => decide (N (9 + 9 * a + 1) = c)) k), nI k)) rfl (by omega) (fun k hk => ?_) ?_
    · unfold fX1_actsAt_l1
      have hs : cntN (fun a => decide (N (9 + 9 * a + 1) = c)) (k + 1) = cntN (fun a => decide (N (9 + 9 * a + 1) = c)) k + (if decide (N (9 + 9 * k + 1) = c) = true then 1 else 0) := rfl
      rw [bk_I h, bnP_1, rb_n r w1]
      dsimp only
      rw [if_neg (by rw [nI_leI (by omega) (by omega)]; omega), bk_r6 h, bnP_1, bk_aR h (by omega), bnP_1, bk_aI h (by omega), bnP_1, (rb_act r hk).2.2.1, hs]
      by_cases q : N (9 + 9 * k + 1) = c
      · rw [if_pos q, decide_eq_true q, if_pos rfl, nI_a1, nI_a1]
      · rw [if_neg q, decide_eq_false q, if_neg (by decide), nI_a1]
        rfl
    · unfold fX1_actsAt_l1
      rw [bk_I h, bnP_1, rb_n r w1]
      dsimp only
      rw [if_pos (by rw [nI_leI (by omega) (by omega)]; exact Nat.le_refl _)]
  rw [bk_o h, bnP_1, e, bnP_1]
theorem c_countOf (h : BK σ b) (w1 : W1 N) (r : RB G J b N) (c : Int32) : fX4_countOf (some (b + 10)) c (wc σ G J) = some (nI (cntN (fun l => decide (N (99 + l) = c)) (nLv N))) := by
  have hl := nlv_12 w1
  unfold fX4_countOf
  have e : lpP (fX4_countOf_l1 (some (b + 10)) c (wc σ G J)) FUEL (0, 0) = some (nI (cntN (fun l => decide (N (99 + l) = c)) (nLv N))) := by
    refine lpP_f (nLv N) (fun k => (nI (cntN (fun l => decide (N (99 + l) = c)) k), nI k)) rfl (by omega) (fun k hk => ?_) ?_
    · unfold fX4_countOf_l1
      have hs : cntN (fun l => decide (N (99 + l) = c)) (k + 1) = cntN (fun l => decide (N (99 + l) = c)) k + (if decide (N (99 + k) = c) = true then 1 else 0) := rfl
      have r0 : G (b + 10 + 1) k = N (99 + k) := r.1.2.2.2.2.2.2.2.2.2.2 k hk
      rw [lk_I (bk_L h), bnP_1, rb_l r]
      dsimp only
      rw [if_neg (by rw [nI_leI (by omega) (by omega)]; omega), lk_r2 (bk_L h), bnP_1, lk_a2 (bk_L h) (by omega), bnP_1, r0, hs]
      by_cases q : N (99 + k) = c
      · rw [if_pos q, decide_eq_true q, if_pos rfl, nI_a1, nI_a1]
      · rw [if_neg q, decide_eq_false q, if_neg (by decide), nI_a1]
        rfl
    · unfold fX4_countOf_l1
      rw [lk_I (bk_L h), bnP_1, rb_l r]
      dsimp only
      rw [if_pos (by rw [nI_leI (by omega) (by omega)]; exact Nat.le_refl _)]
  rw [lk_o (bk_L h), bnP_1, e, bnP_1]
theorem c_unknownFrom (h : BK σ b) (hw : WFN N) (r : RB G J b N) {f n : Nat} (hf : f + n ≤ nWd N) : fX1_unknownFrom (some b) (nI f) (nI n) (wc σ G J) = some (nI (cntN (fun k => !knN N (f + k)) n)) := by
  have hb := w1_b hw.1
  unfold fX1_unknownFrom
  have e : lpP (fX1_unknownFrom_l1 (some b) (nI f) (nI n) (wc σ G J)) FUEL (0, nI f) = some (nI (cntN (fun k => !knN N (f + k)) n)) := by
    refine lpP_f n (fun k => (nI (cntN (fun k => !knN N (f + k)) k), nI (f + k))) rfl (by omega) (fun k hk => ?_) ?_
    · unfold fX1_unknownFrom_l1
      dsimp only
      have hs : cntN (fun k => !knN N (f + k)) (k + 1) = cntN (fun k => !knN N (f + k)) k + (if (!knN N (f + k)) = true then 1 else 0) := rfl
      rw [nI_add, if_neg (by rw [nI_leI (by omega) (by omega)]; omega), c_isKnown h hw r (by omega), bnP_1, hs]
      cases knN N (f + k)
      · rw [if_neg (by decide), if_pos (by decide), nI_a1, nI_a1]
        rfl
      · rw [if_pos rfl, if_neg (by decide), nI_a1]
        rfl
    · unfold fX1_unknownFrom_l1
      dsimp only
      rw [nI_add, if_pos (by rw [nI_leI (by omega) (by omega)]; exact Nat.le_refl _)]
  rw [bk_o h, bnP_1, e, bnP_1]
/-- is there an open act: the last one, open -/
def isO (N : Nat → Int32) : Prop := 0 < nAc N ∧ N (9 + 9 * (nAc N - 1) + 1) = 0
theorem c_openAct1 (h : BK σ b) (w1 : W1 N) (r : RB G J b N) (q : isO N) : fX1_openAct (some b) (wc σ G J) = some (some (b + 15 + (nAc N - 1))) := by
  have hb := w1_b w1
  unfold fX1_openAct
  rw [bk_o h, bnP_1, bk_I h, bnP_1, rb_n r w1, if_neg (nI_ne0 q.1 (by omega)), bk_r6 h, bnP_1, bnP_1, nI_m1 q.1, bk_aR h (by have := q.1; omega), bnP_1, bk_aI h (by have := q.1; omega), bnP_1, (rb_act r (by have := q.1; omega)).2.2.1, if_pos q.2, bnP_1, bnP_1, nI_m1 q.1, bk_aR h (by have := q.1; omega), bnP_1]
theorem c_openAct0 (h : BK σ b) (w1 : W1 N) (r : RB G J b N) (q : ¬ isO N) : fX1_openAct (some b) (wc σ G J) = some none := by
  have hb := w1_b w1
  unfold fX1_openAct
  rw [bk_o h, bnP_1, bk_I h, bnP_1, rb_n r w1]
  by_cases z : nAc N = 0
  · rw [if_pos (by rw [z]; decide)]
  · rw [if_neg (nI_ne0 (by omega) (by omega)), bk_r6 h, bnP_1, bnP_1, nI_m1 (by omega), bk_aR h (by omega), bnP_1, bk_aI h (by omega), bnP_1, (rb_act r (by omega)).2.2.1, if_neg (fun e => q ⟨by omega, e⟩)]
end C3
section M5
variable {σ : HpT} {G : Nat → Nat → Int32} {m : Nat}
end M5
