/-! THE PURE LEVEL, 55: RECOVER -/
section RCV
variable {σ : HpT} {G G1 G2 : Nat → Nat → Int32} {J J2 : Nat → Nat → Int64} {b bs ps tx : Nat} {P : Nat → Option Nat} {E : tE} {I T : tI} {N M : Nat → Int32} {U : tU} {V : tV} {l : Nat}
/-- leaf l's mate fastened if it is loose -/
def bmN (M : Nat → Int32) (l : Nat) : Nat → Int32 := if mtO M l 1 = true then lfN M (mtN (nv M 2) l) 0 else M
theorem bm_wf (hw : WFN M) : WFN (bmN M l) ∧ SM M (bmN M l) ∧ (∀ j, (j < 99 ∨ 99 + nLv M ≤ j) → bmN M l j = M j) ∧ bmN M l (99 + l) = M (99 + l) ∧ ∀ k, (bmN M l (99 + k) = 2 ↔ M (99 + k) = 2) := by
  unfold bmN
  cases z : mtO M l 1
  · rw [if_neg (by decide)]
    exact ⟨hw, ⟨fun _ _ => rfl, fun _ _ _ _ => rfl, fun _ _ => rfl, fun _ _ => rfl⟩, fun _ _ => rfl, rfl, fun _ => Iff.rfl⟩
  · rw [if_pos rfl]
    have q := of_decide_eq_true z
    refine ⟨lf_wf hw q.2.1 (Or.inl rfl), lf_s hw q.2.1, fun j hj => lf_o (by omega), lf_o (by omega), fun k => ?_⟩
    by_cases e : k = mtN (nv M 2) l
    · rw [e, show lfN M (mtN (nv M 2) l) 0 (99 + mtN (nv M 2) l) = 0 from u1_e _ _ _, q.2.2]
      decide
    · rw [lf_o (by omega)]
theorem c_bringBack (h : BK σ b) (hw : WFN N) (r : RB G J b N) (hl : l < nLv N) : ∃ G2, fX4_bringBack (some (b + 10)) (nI l) (wc σ G J) = some (wc σ G2 J) ∧ (∀ a, a < b ∨ b + 33 ≤ a → G2 a = G a) ∧ RB G2 J b (bmN (lfN N l 0) l) := by
  have h12 := nlv_12 hw.1
  have hL := bk_L h
  have wf := lf_wf (x := 0) hw hl (Or.inl rfl)
  have r1 := lf_rb (x := 0) hw hl r
  have n2 := lf_n2 (x := 0) hw hl
  have hl2 : l < nLv (lfN N l 0) := by rw [n2.2]; exact hl
  unfold fX4_bringBack
  rw [lk_o hL, bnP_1, c_fasten h hw r hl, bnP_1, c_mateOf h wf.1 r1 (by omega), bnP_1, c_isLoose h wf r1, bnP_1]
  have h12' := nlv_12 wf.1
  generalize lfN N l 0 = M at *
  generalize hG : up G (b + 11) l 0 = G1 at *
  have g1 : ∀ a, a < b ∨ b + 33 ≤ a → G1 a = G a := fun a ha => by rw [← hG, up_a (by omega)]
  unfold mtQ bmN
  by_cases q1 : mtN (nv M 2) l = l
  · have e : mtO M l 1 = false := decide_eq_false (fun e => e.1 q1)
    refine ⟨G1, ?_, g1, ?_⟩
    · rw [if_pos q1, show thB M nO = false by
        unfold thB inR
        rw [decide_eq_false (show ¬ nI 0 ≤ nO by decide), Bool.false_and]]
      rfl
    · rw [e]
      exact r1
  · rw [if_neg q1]
    by_cases q2 : mtN (nv M 2) l < nLv M
    · have ht : thB M (nI (mtN (nv M 2) l)) = true := there_1 wf.1 q2
      rw [if_pos q2, ht, Bool.true_and]
      unfold stB
      rw [nI_clamp (by omega)]
      by_cases q3 : M (99 + mtN (nv M 2) l) = 1
      · have e : mtO M l 1 = true := decide_eq_true ⟨q1, q2, q3⟩
        refine ⟨up G1 (b + 11) (mtN (nv M 2) l) 0, ?_, fun a ha => by rw [up_a (by omega)]; exact g1 a ha, ?_⟩
        · rw [decide_eq_true q3, if_pos rfl, c_fasten h wf r1 q2, bnP_1]
        · rw [e, if_pos rfl]
          exact lf_rb wf q2 r1
      · have e : mtO M l 1 = false := decide_eq_false (fun e => q3 e.2.2)
        refine ⟨G1, ?_, g1, ?_⟩
        · rw [decide_eq_false q3]
          rfl
        · rw [e]
          exact r1
    · have e : mtO M l 1 = false := decide_eq_false (fun e => q2 e.2.1)
      refine ⟨G1, ?_, g1, ?_⟩
      · rw [if_neg q2, show thB M nO = false by
          unfold thB inR
          rw [decide_eq_false (show ¬ nI 0 ≤ nO by decide), Bool.false_and]]
        rfl
      · rw [e]
        exact r1
end RCV
