/-! THE PURE LEVEL, 91: the reference reads an act's body -/
def itS (f : Nat → Int32) (e a : Nat) (N : tN) (p cur d : Nat) : Except (Nat × Nat) (tN × Nat × Nat) :=
  if tkK f e p = 1 then (if nWd N = 12 * nRm N then .error (4, tkS f e p) else .ok (adW N a cur (wLo f e p) (wHi f e p), cur, d))
  else if tkK f e p = 4 then (if d = 4 then .error (4, tkS f e p) else .ok (obN N a cur, nCl N + 1, d + 1))
  else if tkK f e p = 5 then (if d = 0 ∨ cF N (cur - 1) = nWd N then .error (1, tkS f e p) else .ok (cbN N (cur - 1), cA N (cur - 1), d - 1))
  else .error (1, tkS f e p)
abbrev stopB (f : Nat → Int32) (e a : Nat) (N : tN) (p d : Nat) : Prop := d = 0 ∧ N (15 + 9 * a) ≠ 0 ∧ tkK f e p ≠ 1 ∧ tkK f e p ≠ 4 ∧ tkK f e p ≠ 5
def bdS (f : Nat → Int32) (e a : Nat) : Nat → tN → Nat → Nat → Nat → PRes
  | 0, _, _, _, _ => .error (0, 0)
  | n + 1, N, p, cur, d => if stopB f e a N p d then .ok (p, N) else match itS f e a N p cur d with
    | .error x => .error x
    | .ok (N', cur', d') => bdS f e a n N' (tkX f e p) cur' d'
section MBD
variable {σ : HpT} {G : Nat → Nat → Int32} {f : Nat → Int32} {e p n : Nat} {N0 N N' M R : tN} {kd lo hi : Int32} {cur d cur' d' a l W : Nat} {x : Nat × Nat}
theorem bi_cur (b : BI N0 N kd cur d) : cur ≤ nCl N ∧ (d ≠ 0 → ∃ p, cur = p + 1) ∧ (cur ≠ 0 → d ≠ 0) := by
  have k0 := b.2.1.2.2.2.1
  obtain ⟨h0, hc, hg, hn, hs⟩ := b.2.2.2.2.2.1
  rcases hs with ⟨b1, b2⟩ | ⟨p, b1, b2, b3, b4, b5⟩
  · refine ⟨by omega, fun z => ?_, fun z => absurd b1 z⟩
    have : cntN (fun i => decide (tO N (nCl N0 + i) = 1000)) (nCl N - nCl N0) = 0 := cntN_zero fun i hi => decide_eq_false (b2 _ (by omega) (by omega))
    omega
  · refine ⟨by omega, fun z => ⟨p, b1⟩, fun z => ?_⟩
    have := cntN_one (p := fun i => decide (tO N (nCl N0 + i) = 1000)) (n := nCl N - nCl N0) (k := p - nCl N0) (by omega) (by
      rw [show nCl N0 + (p - nCl N0) = p by omega]
      exact decide_eq_true b4)
    omega
theorem bi_it (hw : WFN N0) (ha : nAc N0 < 10) (b : BI N0 N kd cur d) (q : itS f e (nAc N0) N p cur d = .ok (N', cur', d')) : BI N0 N' kd cur' d' ∧ tkK f e p ≠ 0 := by
  have hb := bi_b hw b
  have hc := bi_cur b
  have hrm := (bi_rm hw b).1
  have h12 := b.2.1.2.2.2.2
  unfold itS at q
  by_cases z1 : tkK f e p = 1
  · rw [if_pos z1] at q
    by_cases y : nWd N = 12 * nRm N
    · rw [if_pos y] at q
      cases q
    · rw [if_neg y] at q
      cases q
      exact ⟨(bi_word hw ha b (by omega) (by omega)).1, by omega⟩
  · rw [if_neg z1] at q
    by_cases z4 : tkK f e p = 4
    · rw [if_pos z4] at q
      by_cases y : d = 4
      · rw [if_pos y] at q
        cases q
      · rw [if_neg y] at q
        cases q
        exact ⟨bi_open hw ha b (by omega) (by omega), by omega⟩
    · rw [if_neg z4] at q
      by_cases z5 : tkK f e p = 5
      · rw [if_pos z5] at q
        by_cases y : d = 0 ∨ cF N (cur - 1) = nWd N
        · rw [if_pos y] at q
          cases q
        · rw [if_neg y] at q
          cases q
          obtain ⟨r, rfl⟩ := hc.2.1 (fun u => y (Or.inl u))
          rw [Nat.add_sub_cancel] at *
          exact ⟨(bi_close hw ha b (fun u => y (Or.inr u))).1, by omega⟩
      · rw [if_neg z5] at q
        cases q
/-! the row, written by the reference -/
end MBD
