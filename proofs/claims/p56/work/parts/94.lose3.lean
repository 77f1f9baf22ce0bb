/-! THE PURE LEVEL, 54: LOSE -/
section LSE3
variable {σ : HpT} {G G1 G2 : Nat → Nat → Int32} {J J2 : Nat → Nat → Int64} {b bs ps tx : Nat} {P : Nat → Option Nat} {E : tE} {I T : tI} {N : Nat → Int32} {U : tU} {V : tV} {l : Nat}
theorem lost_n (hw : WFN N) (hl : l < nLv N) (h0 : N (99 + l) ≠ 2) : nI (ukN (lsN (lfN N l 2) l)) - nI (ukN N) = lostQ N l := by
  obtain ⟨k1, k2, k3, k4, k5⟩ := ls_lost hw hl
  rw [uk_dif hw k3 k4 hl h0 k1 (fun k _ hk => k2 k hk), nI_sub (by omega), Nat.add_sub_cancel_left]
  unfold lostQ
  rw [if_neg h0]
end LSE3
