/-! THE PURE LEVEL, 51: SEW -/
section SEW
variable {σ : HpT} {G G1 G2 : Nat → Nat → Int32} {J J2 : Nat → Nat → Int64} {b bs ps tx : Nat} {P : Nat → Option Nat} {E : tE} {I T : tI} {N : Nat → Int32} {U : tU} {V : tV} {l : Nat} {x : Int32}
/-- is there leaf v, and has it state c -/
def thB (N : Nat → Int32) (v : Int32) : Bool := inR v (nI 0) (nI (nLv N) - 1)
def stB (N : Nat → Int32) (v c : Int32) : Bool := decide (N (99 + v.toNatClampNeg) = c)
theorem c_isLoose (h : BK σ b) (hw : WFN N) (r : RB G J b N) (v : Int32) : fX4_isLoose (some (b + 10)) v (wc σ G J) = some (thB N v && stB N v 1) := by
  have h12 := nlv_12 hw.1
  have hL := bk_L h
  unfold fX4_isLoose thB stB
  rw [lk_o hL, bnP_1, c_isThere h hw.1 r, bnP_1]
  cases z : inR v (nI 0) (nI (nLv N) - 1)
  · rfl
  · obtain ⟨l, rfl, hl⟩ := inL_t hw.1 z
    rw [if_pos rfl, lk_r2 hL, bnP_1, lk_a2 hL (by omega), bnP_1, show b + 10 + 1 = b + 11 from rfl, r.1.2.2.2.2.2.2.2.2.2.2 l hl, nI_clamp (by omega), Bool.true_and]
    by_cases q : N (99 + l) = 1
    · rw [if_pos q, decide_eq_true q]
    · rw [if_neg q, decide_eq_false q]
theorem c_isLostV (h : BK σ b) (hw : WFN N) (r : RB G J b N) (v : Int32) : fX4_isLost (some (b + 10)) v (wc σ G J) = some (thB N v && stB N v 2) := by
  have h12 := nlv_12 hw.1
  have hL := bk_L h
  unfold fX4_isLost thB stB
  rw [lk_o hL, bnP_1, c_isThere h hw.1 r, bnP_1]
  cases z : inR v (nI 0) (nI (nLv N) - 1)
  · rfl
  · obtain ⟨l, rfl, hl⟩ := inL_t hw.1 z
    rw [if_pos rfl, lk_r2 hL, bnP_1, lk_a2 hL (by omega), bnP_1, show b + 10 + 1 = b + 11 from rfl, r.1.2.2.2.2.2.2.2.2.2.2 l hl, nI_clamp (by omega), Bool.true_and]
    by_cases q : N (99 + l) = 2
    · rw [if_pos q, decide_eq_true q]
    · rw [if_neg q, decide_eq_false q]
theorem c_requireLeafAt (h : NK σ 0 b) (hw : WFN N) (r : RB G J b N) (v : Int32) (q : Bool) : fX9_requireLeafAt (some 0) v (bI q) (wc σ G J) = some (if thB N v = true then (if q = true then .ok () else .error 2) else .error 1) := by
  unfold fX9_requireLeafAt thB
  rw [nk_o h, bnP_1, c_requireLeaf h hw.1 r]
  cases inR v (nI 0) (nI (nLv N) - 1)
  · rfl
  · cases q <;> rfl
end SEW
