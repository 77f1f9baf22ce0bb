/-! THE PURE LEVEL, 15: UNKNOWNIF; the words of a leaf -/
theorem nlf_pos {N : Nat → Int32} (w1 : W1 N) {l : Nat} (hl : l < nLv N) : l * nRm N < nWd N ∧ l < 12 ∧ l * nRm N < 241 := by
  have hb := w1_b w1
  have h12 := nlv_12 w1
  have h : l + 1 ≤ (nWd N + nRm N - 1) / nRm N := hl
  rw [Nat.le_div_iff_mul_le (by omega), Nat.succ_mul] at h
  omega
/-- how many words stand on leaf l -/
def pOn (N : Nat → Int32) (l : Nat) : Nat := if l * nRm N + nRm N ≤ nWd N then nRm N else nWd N - l * nRm N
theorem pOn_b {N : Nat → Int32} (w1 : W1 N) {l : Nat} (hl : l < nLv N) : 1 ≤ pOn N l ∧ l * nRm N + pOn N l ≤ nWd N := by
  have hb := w1_b w1
  have := nlf_pos w1 hl
  unfold pOn
  split <;> omega
def lostQ (N : Nat → Int32) (l : Nat) : Int32 := if N (99 + l) = 2 then 0 else nI (cntN (fun k => decide (cwN N (l * nRm N + k) = 0)) (pOn N l))
section LQ5
variable {σ : HpT} {G : Nat → Nat → Int32} {J : Nat → Nat → Int64} {o b m d : Nat} {N : Nat → Int32}
theorem c_wordsOn (h : BK σ b) (w1 : W1 N) (r : RB G J b N) {l : Nat} (hl : l < nLv N) : fX1_wordsOn (some b) (nI l) (wc σ G J) = some (nI (pOn N l)) := by
  have hb := w1_b w1
  have hp := nlf_pos w1 hl
  have hq := pOn_b w1 hl
  have r0 : G b 0 = nI (nRm N) := by rw [← (w1_e w1).1]; exact r.1.1
  unfold fX1_wordsOn
  simp only [bk_o h, bnP_1, bk_I h, bk_r8 h, sk_I (bk_S h), r0, rb_w r w1]
  rw [pk_mul, nI_sub (by omega)]
  have e : mmn (nI (nRm N)) (nI (nWd N - l * nRm N)) = nI (pOn N l) := by
    unfold mmn pOn
    by_cases q : nWd N - l * nRm N < nRm N
    · rw [if_pos (by rw [nI_ltI (by omega) (by omega)]; exact q), if_neg (by omega)]
    · rw [if_neg (by rw [nI_ltI (by omega) (by omega)]; exact q), if_pos (by omega)]
  rw [e]
  unfold mmx
  rw [if_pos (by rw [li_0, nI_ltI (by omega) (by omega)]; omega)]
theorem c_wouldBeUnknown (h : BK σ b) (hw : WFN N) (r : RB G J b N) {l : Nat} (hl : l < nLv N) : fX1_wouldBeUnknown (some b) (nI l) (wc σ G J) = some (lostQ N l) := by
  have hb := w1_b hw.1
  have hp := nlf_pos hw.1 hl
  have hq := pOn_b hw.1 hl
  have r0 : G b 0 = nI (nRm N) := by rw [← (w1_e hw.1).1]; exact r.1.1
  unfold fX1_wouldBeUnknown lostQ
  rw [bk_o h, bnP_1, bk_r9 h, bnP_1, c_isLost h hw.1 r hl, bnP_1]
  by_cases q : N (99 + l) = 2
  · rw [decide_eq_true q, if_pos rfl, if_pos q]
  · rw [decide_eq_false q, if_neg (by decide), if_neg q, bk_I h, bnP_1, r0, c_wordsOn h hw.1 r hl, bnP_1, pk_mul, nI_add]
    have e : lpP (fX1_wouldBeUnknown_l1 (some b) (nI (l * nRm N + pOn N l)) (wc σ G J)) FUEL (0, nI (l * nRm N)) = some (nI (cntN (fun k => decide (cwN N (l * nRm N + k) = 0)) (pOn N l))) := by
      refine lpP_f (pOn N l) (fun k => (nI (cntN (fun k => decide (cwN N (l * nRm N + k) = 0)) k), nI (l * nRm N + k))) rfl (by omega) (fun k hk => ?_) ?_
      · unfold fX1_wouldBeUnknown_l1
        dsimp only
        have hs : cntN (fun k => decide (cwN N (l * nRm N + k) = 0)) (k + 1) = cntN (fun k => decide (cwN N (l * nRm N + k) = 0)) k + (if decide (cwN N (l * nRm N + k) = 0) = true then 1 else 0) := rfl
        have hc : cwN N (l * nRm N + k) < 2 ^ 31 := by
          have h1 := cntN_le (fun c => hwN N c (l * nRm N + k)) (nCp N)
          show cntN _ _ < _
          omega
        rw [if_neg (by rw [nI_leI (by omega) (by omega)]; omega), c_copiesWith h hw r (by omega), bnP_1, hs]
        by_cases q2 : cwN N (l * nRm N + k) = 0
        · rw [if_pos (by rw [q2]; rfl), decide_eq_true q2, if_pos rfl, nI_a1, nI_a1]
          rfl
        · rw [if_neg (nI_ne0 (by omega) hc), decide_eq_false q2, if_neg (by decide), nI_a1]
          rfl
      · unfold fX1_wouldBeUnknown_l1
        dsimp only
        rw [if_pos (by rw [nI_leI (by omega) (by omega)]; exact Nat.le_refl _)]
    rw [e, bnP_1]
end LQ5
