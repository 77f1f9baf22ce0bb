/-! THE PURE LEVEL, 6: the reference's questions between calls -/
theorem w1_b {N : Nat → Int32} (h : W1 N) : (nRm N < 21 ∧ 4 ≤ nRm N) ∧ nAc N < 11 ∧ (nWd N < 241 ∧ nWd N ≤ 12 * nRm N) ∧ nCl N < 961 ∧ nCp N < 9 := ⟨⟨h.1.1.2, h.1.2⟩, h.2.2.2.1.2, ⟨h.2.2.2.2.1.1.2, h.2.2.2.2.1.2⟩, h.2.2.2.2.2.1.2, h.2.2.2.2.2.2.2⟩
theorem w1_e {N : Nat → Int32} (h : W1 N) : N 0 = nI (nRm N) ∧ N 3 = nI (nAc N) ∧ N 4 = nI (nWd N) ∧ N 5 = nI (nCl N) ∧ N 6 = nI (nCp N) := ⟨h.1.1.1, h.2.2.2.1.1, h.2.2.2.2.1.1.1, h.2.2.2.2.2.1.1, h.2.2.2.2.2.2.1⟩
theorem w2_b {N : Nat → Int32} (h : W2 N) {a : Nat} (ha : a < nAc N) : aF N a < 241 ∧ aM N a < 241 ∧ aK N a < 961 ∧ aC N a < 961 ∧ 1 ≤ aM N a := ⟨(h.2 a ha).2.1.1.2, (h.2 a ha).2.1.2.1.2, (h.2 a ha).2.1.2.2.1.2, (h.2 a ha).2.1.2.2.2.2, (h.2 a ha).2.2.1⟩
theorem w4_c {N : Nat → Int32} (h : W4 N) {c : Nat} (hc : c < nCp N) : (oO N c < nAc N ∧ oG N c < 3) ∧ N (111 + 2 * c) = nI (oO N c) ∧ N (111 + 2 * c + 1) = nI (oG N c) := ⟨⟨(h.2.2 c hc).2.1, (h.2.2 c hc).2.2.1.2⟩, (h.2.2 c hc).1.1, (h.2.2 c hc).2.2.1.1⟩
theorem act_ok {N : Nat → Int32} (w1 : W1 N) (w2 : W2 N) {a : Nat} (ha : a < nAc N) : aOK N a (aF N a) (aM N a) ∧ (a + 1 < nAc N → aF N (a + 1) = aF N a + aM N a) ∧ (a + 1 = nAc N → aF N a + aM N a = nWd N) ∧ (a = 0 → aF N a = 0) := by
  have hb := w1_b w1
  obtain ⟨q1, ⟨q2, q3, q4, q5⟩, q6, q7, q8, q9⟩ := w2.2 a ha
  have hw : aF N a + aM N a ≤ 240 := by
    by_cases e : a + 1 = nAc N
    · have := (q9 e).1
      omega
    · have e1 := q8 (by omega)
      have e2 := (w2_b w2 (a := a + 1) (by omega)).1
      omega
  exact ⟨⟨by omega, q2.1, q3.1, q6, hw⟩, fun h => (q8 h).1, fun h => (q9 h).1, fun h => (q7 h).1⟩
theorem act_mono {N : Nat → Int32} (w1 : W1 N) (w2 : W2 N) {j : Nat} : ∀ k, j < k → k < nAc N → aF N j + aM N j ≤ aF N k := by
  intro k
  induction k with
  | zero => intro h; omega
  | succ k ih =>
    intro h1 h2
    have e := (act_ok w1 w2 (a := k) (by omega)).2.1 h2
    by_cases q : j = k
    · subst q; omega
    · have := ih (by omega) (by omega)
      omega
/-- does copy c hold word g -/
def hwN (N : Nat → Int32) (c g : Nat) : Bool := decide (aF N (oO N c) ≤ g) && decide (g < aF N (oO N c) + aM N (oO N c)) && hbN N (aF N (oO N c)) (aM N (oO N c)) (oG N c) g
def cwN (N : Nat → Int32) (g : Nat) : Nat := cntN (fun c => hwN N c g) (nCp N)
def olN (N : Nat → Int32) (g : Nat) : Bool := decide (N (99 + g / nRm N) = 2)
def knN (N : Nat → Int32) (g : Nat) : Bool := !olN N g || decide (0 < cwN N g)
def ukN (N : Nat → Int32) : Nat := cntN (fun g => !knN N g) (nWd N)
section M3
variable {σ : HpT} {G : Nat → Nat → Int32} {m : Nat}
theorem nlv_lt {N : Nat → Int32} (w1 : W1 N) {g : Nat} (hg : g < nWd N) : g / nRm N < nLv N ∧ nLv N ≤ 12 ∧ nRm N < 21 ∧ 0 < nRm N := by
  have hb := w1_b w1
  refine ⟨?_, ?_, hb.1.1, by omega⟩
  · show g / nRm N < (nWd N + nRm N - 1) / nRm N
    rw [Nat.lt_div_iff_mul_lt (by omega)]
    have := Nat.div_mul_le_self g (nRm N)
    omega
  · show (nWd N + nRm N - 1) / nRm N ≤ 12
    rw [Nat.div_le_iff_le_mul_add_pred (by omega)]
    have : nRm N * 12 = 12 * nRm N := Nat.mul_comm _ _
    omega
end M3
