/-! THE PURE LEVEL, 52: LOSE, RECOVER: the rows -/
/-- leaf l's mate made loose if it is fast -/
def mtO (N : Nat → Int32) (l : Nat) (c : Int32) : Bool := decide (mtN (nv N 2) l ≠ l ∧ mtN (nv N 2) l < nLv N ∧ N (99 + mtN (nv N 2) l) = c)
def lsN (N : Nat → Int32) (l : Nat) : Nat → Int32 := if mtO N l 0 = true then lfN N (mtN (nv N 2) l) 1 else N
section LSE
variable {σ : HpT} {G G1 G2 : Nat → Nat → Int32} {J J2 : Nat → Nat → Int64} {b bs ps tx : Nat} {P : Nat → Option Nat} {E : tE} {I T : tI} {N M M' : Nat → Int32} {U : tU} {V : tV} {l : Nat} {x : Int32}
theorem lf_n2 (hw : WFN N) (hl : l < nLv N) : nv (lfN N l x) 2 = nv N 2 ∧ nLv (lfN N l x) = nLv N := ⟨(sm_n (lf_s (x := x) hw hl)).2.2.2.2.2, (sm_n (lf_s (x := x) hw hl)).2.2.2.2.1⟩
theorem ls_wf (hw : WFN N) : WFN (lsN N l) ∧ SM N (lsN N l) ∧ ∀ j, (j < 99 ∨ 99 + nLv N ≤ j) → lsN N l j = N j := by
  unfold lsN
  cases z : mtO N l 0
  · rw [if_neg (by decide)]
    exact ⟨hw, ⟨fun _ _ => rfl, fun _ _ _ _ => rfl, fun _ _ => rfl, fun _ _ => rfl⟩, fun _ _ => rfl⟩
  · rw [if_pos rfl]
    have q := of_decide_eq_true z
    exact ⟨lf_wf hw q.2.1 (Or.inr (Or.inl rfl)), lf_s hw q.2.1, fun j hj => lf_o (by omega)⟩
theorem c_loosenMateOf (h : BK σ b) (hw : WFN N) (r : RB G J b N) (hl : l < nLv N) : ∃ G2, fX4_loosenMateOf (some (b + 10)) (nI l) (wc σ G J) = some (wc σ G2 J) ∧ (∀ a, a < b ∨ b + 33 ≤ a → G2 a = G a) ∧ RB G2 J b (lsN N l) := by
  have h12 := nlv_12 hw.1
  have hL := bk_L h
  unfold fX4_loosenMateOf
  rw [lk_o hL, bnP_1, c_mateOf h hw.1 r (by omega), bnP_1, c_isThere h hw.1 r, bnP_1]
  unfold mtQ lsN
  by_cases q1 : mtN (nv N 2) l = l
  · have e : mtO N l 0 = false := decide_eq_false (fun e => e.1 q1)
    refine ⟨G, ?_, fun _ _ => rfl, ?_⟩
    · rw [if_pos q1, show inR nO (nI 0) (nI (nLv N) - 1) = false by
        unfold inR
        rw [decide_eq_false (show ¬ nI 0 ≤ nO by decide), Bool.false_and]]
      rfl
    · rw [e]
      exact r
  · rw [if_neg q1]
    by_cases q2 : mtN (nv N 2) l < nLv N
    · rw [if_pos q2, there_1 hw.1 q2, if_pos rfl, lk_r2 hL, bnP_1, lk_a2 hL (by omega), bnP_1, show b + 10 + 1 = b + 11 from rfl, r.1.2.2.2.2.2.2.2.2.2.2 _ q2]
      by_cases q3 : N (99 + mtN (nv N 2) l) = 0
      · have e : mtO N l 0 = true := decide_eq_true ⟨q1, q2, q3⟩
        refine ⟨up G (b + 11) (mtN (nv N 2) l) 1, ?_, fun a ha => up_a (by omega), ?_⟩
        · rw [if_pos q3, bnP_1, lk_s2 hL (by omega), bnP_1]
        · rw [e, if_pos rfl]
          exact lf_rb hw q2 r
      · have e : mtO N l 0 = false := decide_eq_false (fun e => q3 e.2.2)
        refine ⟨G, ?_, fun _ _ => rfl, ?_⟩
        · rw [if_neg q3]
        · rw [e]
          exact r
    · have e : mtO N l 0 = false := decide_eq_false (fun e => q2 e.2.1)
      refine ⟨G, ?_, fun _ _ => rfl, ?_⟩
      · rw [if_neg q2, show inR nO (nI 0) (nI (nLv N) - 1) = false by
          unfold inR
          rw [decide_eq_false (show ¬ nI 0 ≤ nO by decide), Bool.false_and]]
        rfl
      · rw [e]
        exact r
theorem c_drop (h : BK σ b) (hw : WFN N) (r : RB G J b N) (hl : l < nLv N) : ∃ G2, fX4_drop (some (b + 10)) (nI l) (wc σ G J) = some (wc σ G2 J) ∧ (∀ a, a < b ∨ b + 33 ≤ a → G2 a = G a) ∧ RB G2 J b (lsN (lfN N l 2) l) := by
  have h12 := nlv_12 hw.1
  have hL := bk_L h
  have wf := lf_wf (x := 2) hw hl (Or.inr (Or.inr rfl))
  obtain ⟨G2, e2, g2, r2⟩ := c_loosenMateOf h wf (lf_rb (x := 2) hw hl r) (l := l) (by rw [(lf_n2 hw hl).2]; exact hl)
  refine ⟨G2, ?_, fun a ha => by rw [g2 a ha, up_a (by omega)], r2⟩
  unfold fX4_drop
  rw [lk_o hL, bnP_1, c_isThere h hw.1 r, bnP_1, there_1 hw.1 hl, if_pos rfl, lk_r2 hL, bnP_1, lk_s2 hL (by omega), bnP_1, show b + 10 + 1 = b + 11 from rfl, e2, bnP_1]
end LSE
