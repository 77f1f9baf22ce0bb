/-! THE PURE LEVEL, 51: SEW -/
section SEW
variable {σ : HpT} {G G1 G2 : Nat → Nat → Int32} {J J2 : Nat → Nat → Int64} {b bs ps tx : Nat} {P : Nat → Option Nat} {E : tE} {I T : tI} {N : Nat → Int32} {U : tU} {V : tV} {l : Nat} {x : Int32}
/-- is there leaf v, and has it state c -/
def thB (N : Nat → Int32) (v : Int32) : Bool := inR v (nI 0) (nI (nLv N) - 1)
def stB (N : Nat → Int32) (v c : Int32) : Bool := decide (N (99 + v.toNatClampNeg) = c)
theorem c_isLoose (h : BK σ b) (hw : WFN N) (r : RB G J b N) (v : Int32) : fX4_isLoose (some (b + 10)) v (wc σ G J) = some (thB N v && stB N v 1) := by
  have h12 := nlv_12 hw.1
  have hL := bk_L h
  unfold fX4_isLoose thB stB
  rw [lk_o hL, bnP_1, c_isThere h hw.1 r, bnP_1]
  cases z : inR v (nI 0) (nI (nLv N) - 1)
  · rfl
  · obtain ⟨l, rfl, hl⟩ := inL_t hw.1 z
    rw [if_pos rfl, lk_r2 hL, bnP_1, lk_a2 hL (by omega), bnP_1, show b + 10 + 1 = b + 11 from rfl, r.1.2.2.2.2.2.2.2.2.2.2 l hl, nI_clamp (by omega), Bool.true_and]
    by_cases q : N (99 + l) = 1
    · rw [if_pos q, decide_eq_true q]
    · rw [if_neg q, decide_eq_false q]
theorem c_isLostV (h : BK σ b) (hw : WFN N) (r : RB G J b N) (v : Int32) : fX4_isLost (some (b + 10)) v (wc σ G J) = some (thB N v && stB N v 2) := by
  have h12 := nlv_12 hw.1
  have hL := bk_L h
  unfold fX4_isLost thB stB
  rw [lk_o hL, bnP_1, c_isThere h hw.1 r, bnP_1]
  cases z : inR v (nI 0) (nI (nLv N) - 1)
  · rfl
  · obtain ⟨l, rfl, hl⟩ := inL_t hw.1 z
    rw [if_pos rfl, lk_r2 hL, bnP_1, lk_a2 hL (by omega), bnP_1, show b + 10 + 1 = b + 11 from rfl, r.1.2.2.2.2.2.2.2.2.2.2 l hl, nI_clamp (by omega), Bool.true_and]
    by_cases q : N (99 + l) = 2
    · rw [if_pos q, decide_eq_true q]
    · rw [if_neg q, decide_eq_false q]
theorem c_requireLeafAt (h : NK σ 0 b) (hw : WFN N) (r : RB G J b N) (v : Int32) (q : Bool) : fX9_requireLeafAt (some 0) v (bI q) (wc σ G J) = some (if thB N v = true then (if q = true then .ok () else .error 2) else .error 1) := by
  unfold fX9_requireLeafAt thB
  rw [nk_o h, bnP_1, c_requireLeaf h hw.1 r]
  cases inR v (nI 0) (nI (nLv N) - 1)
  · rfl
  · cases q <;> rfl
/-- a leaf's state, asked by the reference: want tells whether it must be c -/
theorem m_leafJ (h : MK σ 80) (hA : E.1 ≠ 0 → WFN N) (f6 : G 80 6 = E.1) (e : G 81 = N) (v c y n : Int32) (want : Bool) (hy : y = bI want) (hn : n = bI (!want)) : (if (decide (E.1 ≠ 0) && thB N v) = true then bnP (fX10_statusOf (some 80) v (wi σ G)) (fun x10 => (if x10 = c then some ((some 80 : Option Nat), E.1, bI (decide (E.1 ≠ 0) && thB N v), y) else some (some 80, E.1, bI (decide (E.1 ≠ 0) && thB N v), n))) else some (some 80, E.1, bI (decide (E.1 ≠ 0) && thB N v), 0)) = some (some 80, E.1, bI (decide (E.1 ≠ 0) && thB N v), bI ((decide (E.1 ≠ 0) && thB N v) && (stB N v c == want))) := by
  cases z : (decide (E.1 ≠ 0) && thB N v)
  · rfl
  · rw [Bool.and_eq_true] at z
    have hw := hA (of_decide_eq_true z.1)
    have h12 := nlv_12 hw.1
    obtain ⟨l, rfl, hl⟩ := inL_t hw.1 z.2
    rw [if_pos rfl, m_statusOf h l (by omega), bnP_1, show G (80 + 1) = N from e, hy, hn]
    unfold stB
    rw [nI_clamp (by omega)]
    by_cases q : N (99 + l) = c
    · rw [if_pos q, decide_eq_true q]
      cases want <;> rfl
    · rw [if_neg q, decide_eq_false q]
      cases want <;> rfl
/-- case 47: SEW -/
theorem sc47 (hC : CR σ G J b bs ps P tx E I N U V T) (hM : MR σ G E I N U V T) (hA : AW E I N U V T) (hD : DK σ) (hb : hN σ + 40 < BIG) {Lx : Nat} {xs : Nat → Int32} {v5 v : Int32} (h1 : sld Lx xs (v5 + 1) = some v) (v4 : Option Nat) : STEP σ (fL_c47 Lx xs (some 0) (some 80) (some 89) v4 v5 (wc σ G J)) := by
  have lo := lo_of hC hM hA hD
  have e4 := hC.2.1.1
  unfold fL_c47 fL_sew
  simp only [h1, bnP_1]
  have hwr : E.1 ≠ 0 → WFN N ∧ RB G J b N := fun q => ⟨hA.2.1 q, hC.2.2.2.1 q⟩
  have ec : E.1 ≠ 0 → fX9_sew (some 0) v (wc σ G J) = if thB N v = true then (if stB N v 1 = true then bnA (fX9_remember (some 0) (wc σ G J)) (fun x11 s13 => bnP (gR s13 (some 0) 9 5) (fun x18 => bnP (gR s13 x18 1 9) (fun x20 => bnP (fX4_fasten x20 v s13) (fun s24 => bnP (gR s24 (some 0) 9 5) (fun x25 => bnP (gR s24 x25 1 9) (fun x27 => bnP (fX4_countOf x27 1 s24) (fun x29 => some (.ok x29, s24, 0, 0)))))))) else some (.error 2, wc σ G J, 1, 6)) else some (.error 1, wc σ G J, 1, 6) := by
    intro qE
    obtain ⟨hw, r⟩ := hwr qE
    have B := nk_B lo.1
    unfold fX9_sew
    rw [nk_o lo.1, bnP_1, c_requireBook lo.1, if_neg (by rw [e4]; exact qE), bnXA_1, nk_b lo.1, bnP_1, bk_r9 B, bnP_1, c_isLoose B hw r, bnP_1, c_requireLeafAt lo.1 hw r]
    cases thB N v
    · rfl
    · cases stB N v 1
      · rfl
      · rfl
  have ms : ∀ S G1, MR S G1 E I N U V T → fX10_sew (some 80) v (wi S G1) = if (decide (E.1 ≠ 0) && thB N v && stB N v 1) = true then bnP (fX10_remembers (some 80) (wi S (up G1 80 0 0))) (fun s17 => bnP (gR s17 (some 80) 10 1) (fun x18 => bnP (sI s17 x18 (99 + v) 0) (fun s22 => bnP (fX10_withStatus (some 80) 1 s22) (fun x23 => some (x23, s22))))) else some (0, wi S (up G1 80 0 (thr (decide (E.1 ≠ 0)) (thB N v) (stB N v 1)))) := by
    intro S G1 hM1
    have mk := hM1.1
    have f6 := hM1.2.1.1
    have f81 := hM1.2.2.2.1.1
    unfold fX10_sew
    rw [mk_o mk, bnP_1, m_isL mk (N := N) (fun q => hA.2.1 (by rw [← f6]; exact q)) f81, bnP_1, mk_I mk, bnP_1, f6, show inR v (nI 0) (nI (nLv N) - 1) = thB N v from rfl, m_leafJ mk hA.2.1 f6 f81 v 1 1 0 true rfl rfl, bnP_1]
    dsimp only
    rw [← f6, m_may3 mk (by rw [f6]; exact hA.1.1), bnS_1, f6, thr_pq, show (stB N v 1 == true) = stB N v 1 by cases stB N v 1 <;> rfl]
    cases e0 : decide (E.1 ≠ 0)
    · rfl
    · cases e1 : thB N v
      · rfl
      · cases e2 : stB N v 1
        · rfl
        · rfl
  refine chg3 (thB N v) (stB N v 1) (e1 := 1) (e2 := 2) hC hM hA hD (fun S => rfl) (fun S => rfl) (fun _ _ _ S => rfl) ?_ ?_ ?_ ms ?_
  · intro qE
    unfold fX9_sew
    rw [nk_o lo.1, bnP_1, c_requireBook lo.1, if_pos (by rw [e4]; exact qE), bnXA_e]
  · intro qE z
    rw [ec qE, z, if_neg (by decide)]
  · intro qE z z2
    exact ⟨G, qg_rf P G, by rw [ec qE, z, z2, if_pos rfl, if_neg (by decide)]⟩
  · intro qE z z2
    obtain ⟨hw, r⟩ := hwr qE
    have ec := ec qE
    rw [z, if_pos rfl, z2, if_pos rfl] at ec
    have z' := z
    obtain ⟨l, rfl, hl⟩ := inL_t hw.1 z
    have h12 := nlv_12 hw.1
    have wf := lf_wf (x := 0) hw hl (Or.inl rfl)
    have sn := sm_n (lf_s (x := 0) hw hl)
    refine chg (x := nI (cntN (fun k => decide (lfN N l 0 (99 + k) = 1)) (nLv N))) (N' := lfN N l 0) false hC hM hA hD qE hb wf (fun j hj => ?_) ?_ ?_
    · rw [lf_o (by omega)]
      exact hM.2.2.2.1.2 j hj
    · intro σ' G' J' ps' P' ii jj eR hC'
      have nk' := cr_nk hC'
      have B' := nk_B nk'
      have r' := hC'.2.2.2.1 qE
      have rb2 := lf_rb (x := 0) hw hl r'
      refine ⟨up G' (b + 11) l 0, J', ?_, fun a ha => by rw [up_a (by omega)]; rfl, fun a _ => rfl, rb2⟩
      rw [ec, eR, bnA_ok, nk_b nk', bnP_1, bk_r9 B', bnP_1, c_fasten B' hw r' hl, bnP_1, nk_b nk', bnP_1, bk_r9 B', bnP_1, c_countOf B' wf.1 rb2, bnP_1, addC_1, sn.2.2.2.2.1]
      rfl
    · intro S G1 G1' hM1 eR e81 _ _
      have mk := hM1.1
      have e : cw G1' 81 (lfN N l 0) (80 + 1) = lfN N l 0 := cw_a _ _ _
      rw [ms S G1 hM1, decide_eq_true qE, z', z2, if_pos (show (true && true && true) = true from rfl), eR, bnP_1, mk_r1 mk, bnP_1, m_setLeaf mk e81 (by omega), bnP_1, m_withStatus mk (by rw [e]; exact wf.1), bnP_1, e, sn.2.2.2.2.1]
      rfl
end SEW
