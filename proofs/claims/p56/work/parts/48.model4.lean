/-! THE PURE LEVEL, 7: the reference's counts -/
theorem nI_sub {a b : Nat} (h : b ≤ a) : nI a - nI b = nI (a - b) := by
  have e : nI a = nI (a - b) + nI b := by rw [nI_add, Nat.sub_add_cancel h]
  rw [e, Int32.add_sub_cancel]
theorem inR_t {v : Int32} {lo hi : Nat} (hl : lo < 2 ^ 31) (hh : hi < 2 ^ 31) (h : inR v (nI lo) (nI hi) = true) : ∃ a, v = nI a ∧ lo ≤ a ∧ a ≤ hi := by
  unfold inR at h
  rw [Bool.and_eq_true, decide_eq_true_eq, decide_eq_true_eq] at h
  obtain ⟨j, hj, e⟩ := nI_of (x := v) (Int32.not_lt.mpr (Int32.le_trans (nI_pos' hl) h.1))
  subst e
  rw [nI_leI hl hj, nI_leI hj hh] at h
  exact ⟨j, rfl, h.1, h.2⟩
theorem inR_nI {a lo hi : Nat} (ha : a < 2 ^ 31) (hl : lo < 2 ^ 31) (hh : hi < 2 ^ 31) : inR (nI a) (nI lo) (nI hi) = (decide (lo ≤ a) && decide (a ≤ hi)) := by
  unfold inR
  rw [Bool.eq_iff_iff, Bool.and_eq_true, Bool.and_eq_true, decide_eq_true_eq, decide_eq_true_eq, decide_eq_true_eq, decide_eq_true_eq, nI_leI hl ha, nI_leI ha hh]
theorem inR_nO (v : Int32) : inR v (nI 0) nO = false := by
  unfold inR
  by_cases h : nI 0 ≤ v
  · rw [decide_eq_true h, decide_eq_false (fun q => Int32.not_le.mpr (nO_lt (n := 0) (by decide)) (Int32.le_trans h q))]
    rfl
  · rw [decide_eq_false h]
    rfl
section M4
variable {σ : HpT} {G : Nat → Nat → Int32} {m : Nat}
/-- is v the number of an act, a leaf, a copy -/
def isA (G : Nat → Nat → Int32) (m : Nat) (v : Int32) : Bool := decide (G m 6 ≠ 0) && inR v (nI 1) (G (m + 1) 3)
theorem isA_t (w1 : W1 (G (m + 1))) {v : Int32} (e : isA G m v = true) : G m 6 ≠ 0 ∧ ∃ a, v = nI (a + 1) ∧ a < nAc (G (m + 1)) := by
  have hb := w1_b w1
  unfold isA at e
  rw [Bool.and_eq_true, decide_eq_true_eq, (w1_e w1).2.1] at e
  obtain ⟨a, q1, q2, q3⟩ := inR_t (by omega) (by omega) e.2
  exact ⟨e.1, a - 1, by rw [q1, Nat.sub_add_cancel q2], by omega⟩
end M4
