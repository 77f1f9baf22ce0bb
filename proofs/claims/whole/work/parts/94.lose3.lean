/-! THE PURE LEVEL, 54: LOSE -/
section LSE3
variable {σ : HpT} {G G1 G2 : Nat → Nat → Int32} {J J2 : Nat → Nat → Int64} {b bs ps tx : Nat} {P : Nat → Option Nat} {E : tE} {I T : tI} {N : Nat → Int32} {U : tU} {V : tV} {l : Nat}
theorem lost_n (hw : WFN N) (hl : l < nLv N) (h0 : N (99 + l) ≠ 2) : nI (ukN (lsN (lfN N l 2) l)) - nI (ukN N) = lostQ N l := by
  obtain ⟨k1, k2, k3, k4, k5⟩ := ls_lost hw hl
  rw [uk_dif hw k3 k4 hl h0 k1 (fun k _ hk => k2 k hk), nI_sub (by omega), Nat.add_sub_cancel_left]
  unfold lostQ
  rw [if_neg h0]
/-- case 45: LOSE -/
theorem sc45 (hC : CR σ G J b bs ps P tx E I N U V T) (hM : MR σ G E I N U V T) (hA : AW E I N U V T) (hD : DK σ) (hb : hN σ + 40 < BIG) {Lx : Nat} {xs : Nat → Int32} {v5 v : Int32} (h1 : sld Lx xs (v5 + 1) = some v) (v4 : Option Nat) : STEP σ (fL_c45 Lx xs (some 0) (some 80) (some 89) v4 v5 (wc σ G J)) := by
  have lo := lo_of hC hM hA hD
  have e4 := hC.2.1.1
  unfold fL_c45 fL_lose
  simp only [h1, bnP_1]
  have hwr : E.1 ≠ 0 → WFN N ∧ RB G J b N := fun q => ⟨hA.2.1 q, hC.2.2.2.1 q⟩
  have ec : E.1 ≠ 0 → fX9_lose (some 0) v (wc σ G J) = if thB N v = true then (if (!stB N v 2) = true then bnA (fX9_remember (some 0) (wc σ G J)) (fun x16 s18 => bnP (gR s18 (some 0) 9 5) (fun x23 => bnP (fX1_wouldBeUnknown x23 v s18) (fun x25 => bnP (gR s18 (some 0) 9 5) (fun x27 => bnP (gR s18 x27 1 9) (fun x29 => bnP (fX4_drop x29 v s18) (fun s33 => some (.ok x25, s33, 0, 0))))))) else some (.error 2, wc σ G J, 1, 6)) else some (.error 1, wc σ G J, 1, 6) := by
    intro qE
    obtain ⟨hw, r⟩ := hwr qE
    have B := nk_B lo.1
    unfold fX9_lose
    rw [nk_o lo.1, bnP_1, c_requireBook lo.1, if_neg (by rw [e4]; exact qE), bnXA_1, nk_b lo.1, bnP_1, bk_r9 B, bnP_1, c_isLostV B hw r, bnP_1]
    have hj : (if (thB N v && stB N v 2) = true then some ((some 0 : Option Nat), v, (0 : Int32)) else some (some 0, v, 1)) = some (some 0, v, bI (!(thB N v && stB N v 2))) := by
      cases (thB N v && stB N v 2) <;> rfl
    rw [hj, bnP_1]
    dsimp only
    rw [c_requireLeafAt lo.1 hw r]
    cases thB N v
    · rfl
    · cases stB N v 2
      · rfl
      · rfl
  have ms : ∀ S G1, MR S G1 E I N U V T → fX10_lose (some 80) v (wi S G1) = if (decide (E.1 ≠ 0) && thB N v && !stB N v 2) = true then bnP (fX10_remembers (some 80) (wi S (up G1 80 0 0))) (fun s17 => bnP (fX10_unknown (some 80) s17) (fun x18 => bnP (fX10_loses (some 80) v s17) (fun s22 => bnP (fX10_unknown (some 80) s22) (fun x23 => some ((x23 - x18), s22))))) else some (0, wi S (up G1 80 0 (thr (decide (E.1 ≠ 0)) (thB N v) (!stB N v 2)))) := by
    intro S G1 hM1
    have mk := hM1.1
    have f6 := hM1.2.1.1
    have f81 := hM1.2.2.2.1.1
    unfold fX10_lose
    rw [mk_o mk, bnP_1, m_isL mk (N := N) (fun q => hA.2.1 (by rw [← f6]; exact q)) f81, bnP_1, mk_I mk, bnP_1, f6, show inR v (nI 0) (nI (nLv N) - 1) = thB N v from rfl, m_leafJ mk hA.2.1 f6 f81 v 2 0 1 false rfl rfl, bnP_1]
    dsimp only
    rw [← f6, m_may3 mk (by rw [f6]; exact hA.1.1), bnS_1, f6, thr_pq, show (stB N v 2 == false) = !stB N v 2 by cases stB N v 2 <;> rfl]
    cases e0 : decide (E.1 ≠ 0)
    · rfl
    · cases e1 : thB N v
      · rfl
      · cases e2 : stB N v 2
        · rfl
        · rfl
  refine chg3 (thB N v) (!stB N v 2) (e1 := 1) (e2 := 2) hC hM hA hD (fun S => rfl) (fun S => rfl) (fun _ _ _ S => rfl) ?_ ?_ ?_ ms ?_
  · intro qE
    unfold fX9_lose
    rw [nk_o lo.1, bnP_1, c_requireBook lo.1, if_pos (by rw [e4]; exact qE), bnXA_e]
  · intro qE z
    rw [ec qE, z, if_neg (by decide)]
  · intro qE z z2
    exact ⟨G, qg_rf P G, by rw [ec qE, z, z2, if_pos rfl, if_neg (by decide)]⟩
  · intro qE z z2
    obtain ⟨hw, r⟩ := hwr qE
    have ec := ec qE
    rw [z, if_pos rfl, z2, if_pos rfl] at ec
    have z' := z
    obtain ⟨l, rfl, hl⟩ := inL_t hw.1 z
    have h12 := nlv_12 hw.1
    have h0 : N (99 + l) ≠ 2 := by
      have q : stB N (nI l) 2 = false := by
        cases e : stB N (nI l) 2
        · rfl
        · rw [e] at z2
          cases z2
      unfold stB at q
      rw [nI_clamp (by omega)] at q
      exact of_decide_eq_false q
    obtain ⟨k1, k2, k3, k4, k5⟩ := ls_lost hw hl
    refine chg (x := lostQ N l) (N' := lsN (lfN N l 2) l) false hC hM hA hD qE hb k5 (fun j hj => ?_) ?_ ?_
    · rw [k4 j (by omega)]
      exact hM.2.2.2.1.2 j hj
    · intro σ' G' J' ps' P' ii jj eR hC'
      have nk' := cr_nk hC'
      have B' := nk_B nk'
      have r' := hC'.2.2.2.1 qE
      obtain ⟨G2, e2, g2, rb2⟩ := c_drop B' hw r' hl
      refine ⟨G2, J', ?_, fun a ha => by rw [g2 a ha]; rfl, fun a _ => rfl, rb2⟩
      rw [ec, eR, bnA_ok, nk_b nk', bnP_1, c_wouldBeUnknown B' hw r' hl, bnP_1, bnP_1, bk_r9 B', bnP_1, e2, bnP_1, addC_1]
      rfl
    · intro S G1 G1' hM1 eR e81 _ _
      have mk := hM1.1
      have e : cw G1' 81 (lsN (lfN N l 2) l) (80 + 1) = lsN (lfN N l 2) l := cw_a _ _ _
      rw [ms S G1 hM1, decide_eq_true qE, z', z2, if_pos (show (true && true && true) = true from rfl), eR, bnP_1, m_unknown mk (by rw [show G1' (80 + 1) = N from e81]; exact hw), bnP_1, m_loses mk hw e81 hl, bnP_1, m_unknown mk (by rw [e]; exact k5), bnP_1, e, show G1' (80 + 1) = N from e81, lost_n hw hl h0]
      rfl
end LSE3
