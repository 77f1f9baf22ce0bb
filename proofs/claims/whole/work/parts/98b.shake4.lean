/-! THE PURE LEVEL, 60: SHAKE, whole -/
section SC48
variable {σ : HpT} {G G1 G2 : Nat → Nat → Int32} {J J2 : Nat → Nat → Int64} {b bs ps tx : Nat} {P : Nat → Option Nat} {E : tE} {I T : tI} {N : Nat → Int32} {U : tU} {V : tV}
/-- case 48: SHAKE -/
theorem sc48 (hC : CR σ G J b bs ps P tx E I N U V T) (hM : MR σ G E I N U V T) (hA : AW E I N U V T) (hD : DK σ) (hb : hN σ + 40 < BIG) {Lx : Nat} {xs : Nat → Int32} {v5 : Int32} (v4 : Option Nat) : STEP σ (fL_c48 Lx xs (some 0) (some 80) (some 89) v4 v5 (wc σ G J)) := by
  have lo := lo_of hC hM hA hD
  have e4 := hC.2.1.1
  unfold fL_c48 fL_shake
  have ms : ∀ S G1, MR S G1 E I N U V T → fX10_shake (some 80) (wi S G1) = if decide (E.1 ≠ 0) = true then bnP (fX10_remembers (some 80) (wi S (up G1 80 0 0))) (fun s6 => bnS (fX10_shakes (some 80) s6) (fun x7 s9 => some (x7, s9))) else some (0, wi S (up G1 80 0 (thr (decide (E.1 ≠ 0)) true true))) := by
    intro S G1 hM1
    have mk := hM1.1
    have f6 := hM1.2.1.1
    unfold fX10_shake
    rw [mk_o mk, bnP_1, m_mayLook mk (by rw [f6]; exact hA.1.1), bnS_1, f6]
    cases e0 : decide (E.1 ≠ 0)
    · rfl
    · rfl
  by_cases qE : E.1 = 0
  · refine chg_err (r := .error 0) (t := 1) (i := 1) (j := 6) hC hM hA hD (qg_rf P G) ?_ (fun J' => ?_) ⟨by decide, rfl⟩ (by decide) (by decide)
    · unfold fX9_shake
      rw [nk_o lo.1, bnP_1, c_requireBook lo.1, if_pos (by rw [e4]; exact qE), bnXA_e]
    · have := ms (wc σ G J') G hM
      rw [decide_eq_false (fun e => e qE), if_neg (by decide)] at this
      exact this
  · have hw := hA.2.1 qE
    have h12 := nlv_12 hw.1
    obtain ⟨w2, n2, -, f2⟩ := sh_wf hw (nLv N) (Nat.le_refl _)
    refine chgW (x := nI (cntN (lsB N) (nLv N))) (N' := shK N (nLv N)) false (fun g => shG N g (nLv N)) hC hM hA hD qE hb w2 (fun j hj => ?_) ?_ ?_
    · rw [f2 j (by omega)]
      exact hM.2.2.2.1.2 j hj
    · intro σ' G' J' ps' P' ii jj eR hC'
      have nk' := cr_nk hC'
      have B' := nk_B nk'
      have r' := hC'.2.2.2.1 qE
      obtain ⟨G2, e2, g2, l2⟩ := l_dropLoose (G := G') (J := J') (bk_L B') hw (rl_of r')
      refine ⟨G2, J', ?_, fun a ha => by rw [g2 a (by omega) (by omega)]; rfl, fun a _ => rfl, lv_rb hw f2 r' l2 (fun a h1 h2 => g2 a h1 h2)⟩
      unfold fX9_shake
      rw [nk_o lo.1, bnP_1, c_requireBook lo.1, if_neg (by rw [e4]; exact qE), bnXA_1, eR, bnA_ok, nk_b nk', bnP_1, bk_r9 B', bnP_1, e2, bnS_1, addC_1]
      rfl
    · intro S G1 G1' hM1 eR e81 _ _
      have mk := hM1.1
      rw [ms S G1 hM1, decide_eq_true qE, if_pos rfl, eR, bnP_1, m_shakes mk hw e81, bnS_1]
      rfl
end SC48
