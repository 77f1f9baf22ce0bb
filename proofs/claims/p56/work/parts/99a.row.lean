/-! p56, pure: what holds of the row between the rounds -/
section P56A
variable {N N' : tN} {q : Nat}
theorem i64N {a : Nat} (h : a < 2 ^ 31) : (nI a).toInt64 = Int64.ofNat a := by
  apply Int64.toInt_inj.mp
  rw [Int32.toInt_toInt64, nI_toInt h, Int64.toInt_ofNat_of_lt (by omega)]
theorem j_add {a b : Nat} (h : a + b < 2 ^ 31) : (nI a).toInt64 + (nI b).toInt64 = (nI (a + b)).toInt64 := by
  rw [i64N (by omega), i64N (by omega), i64N h, Int64.ofNat_add]
theorem j_sub {a b : Nat} (h : b ≤ a) (ha : a < 2 ^ 31) : (nI a).toInt64 - (nI b).toInt64 = (nI (a - b)).toInt64 := by
  have e := j_add (a := a - b) (b := b) (by omega)
  rw [Nat.sub_add_cancel h] at e
  rw [← e, Int64.add_sub_cancel]
theorem j_1 {a : Nat} (h : a + 1 < 2 ^ 31) : (nI a).toInt64 + 1 = (nI (a + 1)).toInt64 := j_add (b := 1) h
def CSH (N : tN) : Prop := N 7 = N 8 + sumI (fun a => N (9 + 9 * a + 4)) (nAc N) + sumI (fun c => 3 - nI (oG N c)) (nCp N)
theorem csh_eq (c : CSH N) (h3 : nAc N' = nAc N) (h6 : nCp N' = nCp N) (h7 : N' 7 = N 7) (h8 : N' 8 = N 8) (hf : ∀ a, a < nAc N → N' (9 + 9 * a + 4) = N (9 + 9 * a + 4)) (hg : ∀ c, c < nCp N → oG N' c = oG N c) : CSH N' := by
  unfold CSH at c ⊢
  rw [h3, h6, h7, h8, sumI_cong (f := fun a => N' (9 + 9 * a + 4)) (g := fun a => N (9 + 9 * a + 4)) hf, sumI_cong (f := fun c => 3 - nI (oG N' c)) (g := fun c => 3 - nI (oG N c)) (fun k hk => by rw [hg k hk])]
  exact c
theorem pon_sum (w1 : W1 N) : ∀ n, n ≤ nLv N → sumI (fun l => nI (pOn N l)) n = nI (if n * nRm N ≤ nWd N then n * nRm N else nWd N)
  | 0, _ => by
    rw [Nat.zero_mul, if_pos (Nat.zero_le _)]
    rfl
  | n + 1, h => by
    have hb := w1_b w1
    have hn : n * nRm N < nWd N := by
      have h1 : n + 1 ≤ (nWd N + nRm N - 1) / nRm N := h
      have h2 := Nat.div_mul_le_self (nWd N + nRm N - 1) (nRm N)
      have h3 : (n + 1) * nRm N ≤ (nWd N + nRm N - 1) / nRm N * nRm N := Nat.mul_le_mul_right _ h1
      rw [Nat.succ_mul] at h3
      omega
    show sumI (fun l => nI (pOn N l)) n + nI (pOn N n) = _
    rw [pon_sum w1 n (by omega), if_pos (Nat.le_of_lt hn), nI_add]
    congr 1
    unfold pOn
    rw [Nat.succ_mul]
    split
    · rfl
    · omega
theorem lv_all (w1 : W1 N) : nWd N ≤ nLv N * nRm N := by
  have hb := w1_b w1
  show nWd N ≤ (nWd N + nRm N - 1) / nRm N * nRm N
  have d := Nat.div_add_mod (nWd N + nRm N - 1) (nRm N)
  have m := Nat.mod_lt (nWd N + nRm N - 1) (show 0 < nRm N by omega)
  rw [Nat.mul_comm] at d
  omega
theorem gap0 (hw : WFN N) (h2 : nAc N = 2) (c : CSH N) : gapQ N = 0 := by
  have hb := w1_b hw.1
  have a0 := act_ok hw.1 hw.2.1 (a := 0) (by omega)
  have a1 := act_ok hw.1 hw.2.1 (a := 1) (by omega)
  have e1 : sumI (fun l => nI (pOn N l)) (nLv N) = nI (nWd N) := by
    have key := lv_all hw.1
    rw [pon_sum hw.1 _ (Nat.le_refl _)]
    congr 1
    split
    · omega
    · rfl
  have e2 : sumI (fun a => nI (aM N a)) (nAc N) = nI (nWd N) := by
    rw [h2]
    show (0 + nI (aM N 0)) + nI (aM N 1) = _
    rw [Int32.zero_add, nI_add]
    congr 1
    have h1 := a0.2.1 (by omega)
    have h3 := a1.2.2.1 (by omega)
    have h4 := a0.2.2.2 rfl
    have h5 : aF N (0 + 1) = aF N 1 := rfl
    omega
  have c' : N 7 - N 8 - sumI (fun a => N (9 + 9 * a + 4)) (nAc N) - sumI (fun c => 3 - nI (oG N c)) (nCp N) = 0 := by
    have h : N 7 = N 8 + sumI (fun a => N (9 + 9 * a + 4)) (nAc N) + sumI (fun c => 3 - nI (oG N c)) (nCp N) := c
    generalize sumI (fun a => N (9 + 9 * a + 4)) (nAc N) = x at h ⊢
    generalize sumI (fun c => 3 - nI (oG N c)) (nCp N) = y at h ⊢
    rw [h, Int32.add_assoc, Int32.add_comm (N 8), Int32.add_sub_cancel, Int32.add_comm x, Int32.add_sub_cancel, Int32.sub_self]
  unfold gapQ
  rw [e1, e2, c', Int32.sub_self]
  decide
/-- the row behind q rounds -/
def QN (q : Nat) (N : tN) : Prop := WFN N ∧ nAc N = 2 ∧ CSH N ∧ (∃ c, N 7 = nI c ∧ c ≤ 3000 * (q + 2)) ∧ (∃ k, N 21 = nI k ∧ k ≤ q) ∧ (N 19 = 0 → N 22 = 0)
theorem qn_w (h : QN q N) : WFN N := h.1
theorem qn_2 (h : QN q N) : nAc N = 2 := h.2.1
theorem qn_up (h : QN q N) : QN (q + 1) N := by
  obtain ⟨h1, h2, h3, ⟨c, h4, h5⟩, ⟨k, h6, h7⟩, h8⟩ := h
  exact ⟨h1, h2, h3, ⟨c, h4, by omega⟩, ⟨k, h6, by omega⟩, h8⟩
theorem stn_n (hw : WFN N) {f n : Nat} (hf : f + n ≤ nWd N) : ∃ s, stN N f n = nI s ∧ s ≤ 5 * n := by
  unfold stN
  induction n with
  | zero => exact ⟨0, rfl, Nat.le_refl _⟩
  | succ n ih =>
    obtain ⟨s, e, h⟩ := ih (by omega)
    obtain ⟨x, hx, hx4⟩ : ∃ x, N (127 + 13 * (f + n) + 4) = nI x ∧ x < 5 := ⟨_, (hw.2.2.2.1 (f + n) (by omega)).1.1, (hw.2.2.2.1 (f + n) (by omega)).1.2⟩
    refine ⟨s + ((if skN N (f + n) = true then 1 else 0) + x), ?_, ?_⟩
    · show sumI _ n + (bI (skN N (f + n)) + N (127 + 13 * (f + n) + 4)) = _
      rw [e, bI_nI, hx, nI_add, nI_add]
    · have : (if skN N (f + n) = true then 1 else 0) ≤ 1 := by split <;> omega
      omega
/-- one more in a sum -/
theorem sumI_one {f g : Nat → Int32} : ∀ {n j : Nat}, j < n → g j = f j + 1 → (∀ k, k < n → k ≠ j → g k = f k) → sumI g n = sumI f n + 1
  | n + 1, j, hj, h1, h2 => by
    show sumI g n + g n = sumI f n + f n + 1
    by_cases e : j = n
    · subst e
      rw [h1, sumI_cong (fun k hk => h2 k (by omega) (by omega)), Int32.add_assoc]
    · rw [h2 n (by omega) (fun q => e q.symm), sumI_one (f := f) (g := g) (n := n) (j := j) (by omega) h1 (fun k hk hne => h2 k (by omega) hne), Int32.add_assoc, Int32.add_assoc, Int32.add_comm 1]
theorem sumI_plus {f g : Nat → Int32} {y : Int32} : ∀ {n j : Nat}, j < n → g j = f j + y → (∀ k, k < n → k ≠ j → g k = f k) → sumI g n = sumI f n + y
  | n + 1, j, hj, h1, h2 => by
    show sumI g n + g n = sumI f n + f n + y
    by_cases e : j = n
    · subst e
      rw [h1, sumI_cong (fun k hk => h2 k (by omega) (by omega)), Int32.add_assoc]
    · rw [h2 n (by omega) (fun q => e q.symm), sumI_plus (f := f) (g := g) (n := n) (j := j) (by omega) h1 (fun k hk hne => h2 k (by omega) hne), Int32.add_assoc, Int32.add_assoc, Int32.add_comm y]
theorem cntN_mo {p r : Nat → Bool} : ∀ {n j : Nat}, j < n → r j = true → p j = false → (∀ k, k < n → k ≠ j → r k = p k) → cntN r n = cntN p n + 1
  | n + 1, j, hj, h1, h2, h3 => by
    show cntN r n + (if r n = true then 1 else 0) = cntN p n + (if p n = true then 1 else 0) + 1
    by_cases e : j = n
    · subst e
      rw [cntN_cong (fun k hk => h3 k (by omega) (by omega)), h1, h2]
      rfl
    · rw [h3 n (by omega) (fun z => e z.symm), cntN_mo (p := p) (r := r) (n := n) (j := j) (by omega) h1 h2 (fun k hk hne => h3 k (by omega) hne)]
      omega
/-- struck words leave the standing ones fewer -/
theorem cnt_stk {f n f' : Nat} (h1 : f ≤ f') : ∀ n', f' + n' ≤ f + n → cntN (fun k => skN N (f + k) && !decide (f' ≤ f + k ∧ f + k < f' + n')) n + cntN (fun k => skN N (f' + k)) n' = cntN (fun k => skN N (f + k)) n
  | 0, _ => by
    show cntN _ n + 0 = _
    rw [Nat.add_zero]
    exact cntN_cong fun k _ => by
      rw [decide_eq_false (by omega), Bool.not_false, Bool.and_true]
  | n' + 1, h2 => by
    rw [← cnt_stk h1 n' (by omega)]
    show _ + (cntN (fun k => skN N (f' + k)) n' + (if skN N (f' + n') = true then 1 else 0)) = _
    cases e : skN N (f' + n')
    · rw [if_neg (by decide), Nat.add_zero]
      congr 1
      refine cntN_cong fun k hk => ?_
      by_cases z : f + k = f' + n'
      · rw [z, e, Bool.false_and, Bool.false_and]
      · rw [decide_eq_decide.mpr (show f' ≤ f + k ∧ f + k < f' + (n' + 1) ↔ f' ≤ f + k ∧ f + k < f' + n' by omega)]
    · rw [if_pos rfl]
      have := cntN_mo (p := fun k => skN N (f + k) && !decide (f' ≤ f + k ∧ f + k < f' + (n' + 1))) (r := fun k => skN N (f + k) && !decide (f' ≤ f + k ∧ f + k < f' + n')) (n := n) (j := f' + n' - f) (by omega) (by
        show (skN N (f + (f' + n' - f)) && !decide (f' ≤ f + (f' + n' - f) ∧ f + (f' + n' - f) < f' + n')) = true
        rw [show f + (f' + n' - f) = f' + n' by omega, e, decide_eq_false (by omega)]
        rfl) (by
        show (skN N (f + (f' + n' - f)) && !decide (f' ≤ f + (f' + n' - f) ∧ f + (f' + n' - f) < f' + (n' + 1))) = false
        rw [show f + (f' + n' - f) = f' + n' by omega, decide_eq_true (by omega), Bool.not_true, Bool.and_false]) (fun k hk hne => by
        show (skN N (f + k) && !decide (f' ≤ f + k ∧ f + k < f' + n')) = (skN N (f + k) && !decide (f' ≤ f + k ∧ f + k < f' + (n' + 1)))
        rw [decide_eq_decide.mpr (show f' ≤ f + k ∧ f + k < f' + n' ↔ f' ≤ f + k ∧ f + k < f' + (n' + 1) by omega)])
      omega
theorem stn_sum (N : tN) (f n : Nat) : stN N f n = nI (cntN (fun k => skN N (f + k)) n) + sumI (fun k => N (127 + 13 * (f + k) + 4)) n := by
  unfold stN
  rw [sumI_add, sumI_cnt]
theorem sk_stk (hw : WFN N) {f' n' g : Nat} : skN (stkN N f' n') g = (skN N g && !decide (f' ≤ g ∧ g < f' + n')) := by
  have hb := w1_b hw.1
  by_cases z : f' ≤ g ∧ g < f' + n'
  · rw [decide_eq_true z, Bool.not_true, Bool.and_false]
    unfold skN
    rw [stk_w z.1 z.2]
    rfl
  · rw [decide_eq_false z, Bool.not_false, Bool.and_true]
    unfold skN
    rw [stk_o (by omega) (by omega)]
theorem st_stk (hw : WFN N) {f n f' n' : Nat} (h1 : f ≤ f') (h2 : f' + n' ≤ f + n) : stN (stkN N f' n') f n + nI (cntN (fun k => skN N (f' + k)) n') = stN N f n := by
  have hb := w1_b hw.1
  rw [stn_sum (stkN N f' n') f n, stn_sum N f n, ← cnt_stk (N := N) h1 n' h2, cntN_cong (p := fun k => skN (stkN N f' n') (f + k)) (q := fun k => skN N (f + k) && !decide (f' ≤ f + k ∧ f + k < f' + n')) (fun k _ => sk_stk hw), sumI_cong (f := fun k => stkN N f' n' (127 + 13 * (f + k) + 4)) (g := fun k => N (127 + 13 * (f + k) + 4)) (fun k _ => stk_o (by omega) (by omega)), Int32.add_assoc, Int32.add_comm (sumI _ n), ← Int32.add_assoc, nI_add]
theorem sk_int (hw : WFN N) {g g' : Nat} {lo hi : Int32} (h4 : wN' N g < 4) : skN (intN N g lo hi) g' = skN N g' := by
  have hb := w1_b hw.1
  unfold skN
  rw [int_o (by omega) (by omega) (by omega) (by omega)]
theorem st_int (hw : WFN N) {f n g : Nat} {lo hi : Int32} (hg : g < nWd N) (h4 : wN' N g < 4) (h1 : f ≤ g) (h2 : g < f + n) : stN (intN N g lo hi) f n = stN N f n + 1 := by
  have hb := w1_b hw.1
  unfold stN
  refine sumI_one (j := g - f) (by omega) ?_ (fun k hk hne => ?_)
  · show bI (skN (intN N g lo hi) (f + (g - f))) + intN N g lo hi (127 + 13 * (f + (g - f)) + 4) = bI (skN N (f + (g - f))) + N (127 + 13 * (f + (g - f)) + 4) + 1
    rw [show f + (g - f) = g by omega, sk_int hw h4, Int32.add_assoc]
    congr 1
    have e : N (127 + 13 * g + 4) = nI (wN' N g) := (hw.2.2.2.1 g hg).1.1
    rw [e, nI_a1]
    unfold intN
    rw [if_neg (by omega), if_neg (by omega), if_pos (by omega)]
  · show bI (skN (intN N g lo hi) (f + k)) + intN N g lo hi (127 + 13 * (f + k) + 4) = bI (skN N (f + k)) + N (127 + 13 * (f + k) + 4)
    rw [sk_int hw h4, int_o (by omega) (by omega) (by omega) (by omega)]
/-- a copy's word is known -/
theorem kn_has {c g : Nat} (hc : c < nCp N) (h : hwN N c g = true) : knN N g = true := by
  unfold knN
  rw [decide_eq_true (show 0 < cwN N g from ?_), Bool.or_true]
  unfold cwN
  have key : ∀ n, c < n → 0 < cntN (fun c => hwN N c g) n := by
    intro n
    induction n with
    | zero => exact fun z => absurd z (Nat.not_lt_zero _)
    | succ n ih =>
      intro z
      show 0 < cntN (fun c => hwN N c g) n + (if hwN N n g = true then 1 else 0)
      by_cases e : c = n
      · rw [← e, if_pos h]
        omega
      · have := ih (by omega)
        omega
  exact key _ hc
end P56A
