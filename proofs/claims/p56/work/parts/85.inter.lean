/-! THE PURE LEVEL, 45: INTERLINE -/
/-- word g of the open act with one insert more -/
def intN (N : Nat → Int32) (g : Nat) (lo hi : Int32) : Nat → Int32 := fun j => if j = 132 + 13 * g + 2 * wN' N g then lo else if j = 133 + 13 * g + 2 * wN' N g then hi else if j = 131 + 13 * g then nI (wN' N g + 1) else if j = 12 + 9 * (nAc N - 1) then N j + 1 else N j
section INT
variable {σ : HpT} {G G1 G2 : Nat → Nat → Int32} {J J2 : Nat → Nat → Int64} {b bs ps tx : Nat} {P : Nat → Option Nat} {E : tE} {I T : tI} {N : Nat → Int32} {U : tU} {V : tV} {g : Nat} {lo hi : Int32}
theorem int_o {j : Nat} (h1 : j ≠ 132 + 13 * g + 2 * wN' N g) (h2 : j ≠ 133 + 13 * g + 2 * wN' N g) (h3 : j ≠ 131 + 13 * g) (h4 : j ≠ 12 + 9 * (nAc N - 1)) : intN N g lo hi j = N j := by
  unfold intN
  rw [if_neg h1, if_neg h2, if_neg h3, if_neg h4]
theorem int_s (hw : WFN N) (hg : g < nWd N) (h4 : wN' N g < 4) : SM N (intN N g lo hi) := by
  have hb := w1_b hw.1
  exact ⟨fun k hk => int_o (by omega) (by omega) (by omega) (by omega), fun a ha k hk => int_o (by omega) (by omega) (by omega) (by omega), fun g hg => int_o (by omega) (by omega) (by omega) (by omega), fun j hj => int_o (by omega) (by omega) (by omega) (by omega)⟩
theorem int_wf (hw : WFN N) (hg : g < nWd N) (h4 : wN' N g < 4) : WFN (intN N g lo hi) := by
  have hb := w1_b hw.1
  have s := int_s (lo := lo) (hi := hi) hw hg h4
  have sn := sm_n s
  have e6 : intN N g lo hi 6 = N 6 := int_o (by omega) (by omega) (by omega) (by omega)
  have h12 := nlv_12 hw.1
  refine ⟨sm_1 s hw.1 ((isN_eq e6).mpr hw.1.2.2.2.2.2.2), sm_2 s hw.2.1 (fun a ha => ?_), sm_3 s hw.1 hw.2.1 hw.2.2.1, ?_, ?_, ?_⟩
  · have e : intN N g lo hi (9 + 9 * a + 1) = N (9 + 9 * a + 1) := int_o (by omega) (by omega) (by omega) (by omega)
    have w := hw.2.1.2 a ha
    refine ⟨(isN_eq e).mpr w.1.2, fun q => ?_⟩
    rw [show nv (intN N g lo hi) (9 + 9 * a + 1) = nv N (9 + 9 * a + 1) from congrArg Int32.toNatClampNeg e]
    exact (w.2.2.2.2.1 q).2.2
  · intro k hk
    rw [sn.2.2.1] at hk
    have w := hw.2.2.2.1 k hk
    have e2 : intN N g lo hi (127 + 13 * k + 2) = N (127 + 13 * k + 2) := int_o (by omega) (by omega) (by omega) (by omega)
    rw [e2]
    refine ⟨?_, w.2⟩
    by_cases z : k = g
    · have e : intN N g lo hi (127 + 13 * k + 4) = nI (wN' N g + 1) := by
        unfold intN
        rw [if_neg (by omega), if_neg (by omega), if_pos (by omega)]
      exact (isN_of e (by omega) (by decide)).1
    · exact (isN_eq (int_o (by omega) (by omega) (by omega) (by omega))).mpr w.1
  · intro l hl
    rw [sn.2.2.2.2.1] at hl
    exact (isN_eq (int_o (by omega) (by omega) (by omega) (by omega))).mpr (hw.2.2.2.2.1 l hl)
  · intro c hc
    rw [show nCp (intN N g lo hi) = nCp N from congrArg Int32.toNatClampNeg e6] at hc
    obtain ⟨w1, w2, w3, w4⟩ := hw.2.2.2.2.2 c hc
    have e0 : intN N g lo hi (111 + 2 * c) = N (111 + 2 * c) := int_o (by omega) (by omega) (by omega) (by omega)
    rw [show oO (intN N g lo hi) c = oO N c from congrArg Int32.toNatClampNeg e0, sn.2.1]
    exact ⟨(isN_eq e0).mpr w1, w2, (isN_eq (int_o (by omega) (by omega) (by omega) (by omega))).mpr w3, by rw [int_o (by omega) (by omega) (by omega) (by omega)]; exact w4⟩
end INT
