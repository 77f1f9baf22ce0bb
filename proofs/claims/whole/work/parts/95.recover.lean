/-! THE PURE LEVEL, 55: RECOVER -/
section RCV
variable {σ : HpT} {G G1 G2 : Nat → Nat → Int32} {J J2 : Nat → Nat → Int64} {b bs ps tx : Nat} {P : Nat → Option Nat} {E : tE} {I T : tI} {N M : Nat → Int32} {U : tU} {V : tV} {l : Nat}
theorem sm_sym {N N' : Nat → Int32} (s : SM N N') : SM N' N := by
  have sn := sm_n s
  exact ⟨fun k hk => (s.1 k hk).symm, fun a ha k hk => (s.2.1 a (by rw [← sn.2.1]; exact ha) k hk).symm, fun g hg => (s.2.2.1 g (by rw [← sn.2.2.1]; exact hg)).symm, fun j hj => (s.2.2.2 j hj).symm⟩
/-- leaf l's mate fastened if it is loose -/
def bmN (M : Nat → Int32) (l : Nat) : Nat → Int32 := if mtO M l 1 = true then lfN M (mtN (nv M 2) l) 0 else M
theorem bm_wf (hw : WFN M) : WFN (bmN M l) ∧ SM M (bmN M l) ∧ (∀ j, (j < 99 ∨ 99 + nLv M ≤ j) → bmN M l j = M j) ∧ bmN M l (99 + l) = M (99 + l) ∧ ∀ k, (bmN M l (99 + k) = 2 ↔ M (99 + k) = 2) := by
  unfold bmN
  cases z : mtO M l 1
  · rw [if_neg (by decide)]
    exact ⟨hw, ⟨fun _ _ => rfl, fun _ _ _ _ => rfl, fun _ _ => rfl, fun _ _ => rfl⟩, fun _ _ => rfl, rfl, fun _ => Iff.rfl⟩
  · rw [if_pos rfl]
    have q := of_decide_eq_true z
    refine ⟨lf_wf hw q.2.1 (Or.inl rfl), lf_s hw q.2.1, fun j hj => lf_o (by omega), lf_o (by omega), fun k => ?_⟩
    by_cases e : k = mtN (nv M 2) l
    · rw [e, show lfN M (mtN (nv M 2) l) 0 (99 + mtN (nv M 2) l) = 0 from u1_e _ _ _, q.2.2]
      decide
    · rw [lf_o (by omega)]
theorem c_bringBack (h : BK σ b) (hw : WFN N) (r : RB G J b N) (hl : l < nLv N) : ∃ G2, fX4_bringBack (some (b + 10)) (nI l) (wc σ G J) = some (wc σ G2 J) ∧ (∀ a, a < b ∨ b + 33 ≤ a → G2 a = G a) ∧ RB G2 J b (bmN (lfN N l 0) l) := by
  have h12 := nlv_12 hw.1
  have hL := bk_L h
  have wf := lf_wf (x := 0) hw hl (Or.inl rfl)
  have r1 := lf_rb (x := 0) hw hl r
  have n2 := lf_n2 (x := 0) hw hl
  have hl2 : l < nLv (lfN N l 0) := by rw [n2.2]; exact hl
  unfold fX4_bringBack
  rw [lk_o hL, bnP_1, c_fasten h hw r hl, bnP_1, c_mateOf h wf.1 r1 (by omega), bnP_1, c_isLoose h wf r1, bnP_1]
  have h12' := nlv_12 wf.1
  generalize lfN N l 0 = M at *
  generalize hG : up G (b + 11) l 0 = G1 at *
  have g1 : ∀ a, a < b ∨ b + 33 ≤ a → G1 a = G a := fun a ha => by rw [← hG, up_a (by omega)]
  unfold mtQ bmN
  by_cases q1 : mtN (nv M 2) l = l
  · have e : mtO M l 1 = false := decide_eq_false (fun e => e.1 q1)
    refine ⟨G1, ?_, g1, ?_⟩
    · rw [if_pos q1, show thB M nO = false by
        unfold thB inR
        rw [decide_eq_false (show ¬ nI 0 ≤ nO by decide), Bool.false_and]]
      rfl
    · rw [e]
      exact r1
  · rw [if_neg q1]
    by_cases q2 : mtN (nv M 2) l < nLv M
    · have ht : thB M (nI (mtN (nv M 2) l)) = true := there_1 wf.1 q2
      rw [if_pos q2, ht, Bool.true_and]
      unfold stB
      rw [nI_clamp (by omega)]
      by_cases q3 : M (99 + mtN (nv M 2) l) = 1
      · have e : mtO M l 1 = true := decide_eq_true ⟨q1, q2, q3⟩
        refine ⟨up G1 (b + 11) (mtN (nv M 2) l) 0, ?_, fun a ha => by rw [up_a (by omega)]; exact g1 a ha, ?_⟩
        · rw [decide_eq_true q3, if_pos rfl, c_fasten h wf r1 q2, bnP_1]
        · rw [e, if_pos rfl]
          exact lf_rb wf q2 r1
      · have e : mtO M l 1 = false := decide_eq_false (fun e => q3 e.2.2)
        refine ⟨G1, ?_, g1, ?_⟩
        · rw [decide_eq_false q3]
          rfl
        · rw [e]
          exact r1
    · have e : mtO M l 1 = false := decide_eq_false (fun e => q2 e.2.1)
      refine ⟨G1, ?_, g1, ?_⟩
      · rw [if_neg q2, show thB M nO = false by
          unfold thB inR
          rw [decide_eq_false (show ¬ nI 0 ≤ nO by decide), Bool.false_and]]
        rfl
      · rw [e]
        exact r1
theorem m_recovers (h : MK σ 80) (hw : WFN N) (e : G 81 = N) (hl : l < nLv N) : fX10_recovers (some 80) (nI l) (wi σ G) = some (wi σ (cw G 81 (bmN (lfN N l 0) l))) := by
  have h12 := nlv_12 hw.1
  have e' : G (80 + 1) = N := e
  have wf := lf_wf (x := 0) hw hl (Or.inl rfl)
  have n2 := lf_n2 (x := 0) hw hl
  have h12' := nlv_12 wf.1
  have hq : mtQ N l = mtQ (lfN N l 0) l := by
    unfold mtQ
    rw [n2.1, n2.2]
  unfold fX10_recovers
  rw [mk_o h, bnP_1, m_mateOf h (by rw [e']; exact hw.1) (by omega), bnP_1, e', mk_r1 h, bnP_1, m_setLeaf h e (by omega), bnP_1, hq]
  generalize lfN N l 0 = M at *
  have c81 : cw G 81 M 81 = M := cw_a _ _ _
  unfold mtQ bmN
  by_cases q1 : mtN (nv M 2) l = l
  · have e2 : mtO M l 1 = false := decide_eq_false (fun e => e.1 q1)
    rw [if_pos q1, if_pos (show nO = -1 from rfl), e2, if_neg (by decide)]
  · rw [if_neg q1]
    by_cases q2 : mtN (nv M 2) l < nLv M
    · rw [if_pos q2, if_neg (show ¬ nI (mtN (nv M 2) l) = -1 from nI_nO (by omega)), m_statusOf h _ (by omega), bnP_1, show cw G 81 M (80 + 1) = M from c81]
      by_cases q3 : M (99 + mtN (nv M 2) l) = 1
      · have e2 : mtO M l 1 = true := decide_eq_true ⟨q1, q2, q3⟩
        rw [if_pos q3, mk_r1 h, bnP_1, m_setLeaf h c81 (by omega), bnP_1, e2, if_pos rfl, cw_cw]
      · have e2 : mtO M l 1 = false := decide_eq_false (fun e => q3 e.2.2)
        rw [if_neg q3, e2, if_neg (by decide)]
    · have e2 : mtO M l 1 = false := decide_eq_false (fun e => q2 e.2.1)
      rw [if_neg q2, if_pos (show nO = -1 from rfl), e2, if_neg (by decide)]
theorem back_n (hw : WFN N) (hl : l < nLv N) (h0 : N (99 + l) = 2) : nI (ukN N) - nI (ukN (bmN (lfN N l 0) l)) = lostQ (bmN (lfN N l 0) l) l := by
  have wf := lf_wf (x := 0) hw hl (Or.inl rfl)
  have s1 := lf_s (x := 0) hw hl
  have sn := sm_n s1
  obtain ⟨w2, s2, f2, g2, k2⟩ := bm_wf (l := l) wf
  have e0 : lfN N l 0 (99 + l) = 0 := u1_e _ _ _
  have s : SM N (bmN (lfN N l 0) l) := ⟨fun k hk => (s2.1 k hk).trans (s1.1 k hk), fun a ha k hk => (s2.2.1 a (by rw [sn.2.1]; exact ha) k hk).trans (s1.2.1 a ha k hk), fun g hg => (s2.2.2.1 g (by rw [sn.2.2.1]; exact hg)).trans (s1.2.2.1 g hg), fun j hj => (s2.2.2.2 j hj).trans (s1.2.2.2 j hj)⟩
  have sb := sm_n s
  have h2 : bmN (lfN N l 0) l (99 + l) ≠ 2 := by
    rw [g2, e0]
    decide
  rw [uk_dif w2 (sm_sym s) (fun j hj => by
    rw [sb.2.2.2.2.1] at hj
    rw [f2 j (by rw [sn.2.2.2.2.1]; exact hj), lf_o (by omega)]) (by rw [sb.2.2.2.2.1]; exact hl) h2 h0 (fun k _ hk => by
    rw [k2 k, lf_o (by omega)]), nI_sub (by omega), Nat.add_sub_cancel_left]
  unfold lostQ
  rw [if_neg h2]
/-- case 46: RECOVER -/
theorem sc46 (hC : CR σ G J b bs ps P tx E I N U V T) (hM : MR σ G E I N U V T) (hA : AW E I N U V T) (hD : DK σ) (hb : hN σ + 40 < BIG) {Lx : Nat} {xs : Nat → Int32} {v5 v : Int32} (h1 : sld Lx xs (v5 + 1) = some v) (v4 : Option Nat) : STEP σ (fL_c46 Lx xs (some 0) (some 80) (some 89) v4 v5 (wc σ G J)) := by
  have lo := lo_of hC hM hA hD
  have e4 := hC.2.1.1
  unfold fL_c46 fL_recover
  simp only [h1, bnP_1]
  have hwr : E.1 ≠ 0 → WFN N ∧ RB G J b N := fun q => ⟨hA.2.1 q, hC.2.2.2.1 q⟩
  have ec : E.1 ≠ 0 → fX9_recover (some 0) v (wc σ G J) = if thB N v = true then (if stB N v 2 = true then bnA (fX9_remember (some 0) (wc σ G J)) (fun x11 s13 => bnP (gR s13 (some 0) 9 5) (fun x18 => bnP (gR s13 x18 1 9) (fun x20 => bnP (fX4_bringBack x20 v s13) (fun s24 => bnP (gR s24 (some 0) 9 5) (fun x25 => bnP (fX1_wouldBeUnknown x25 v s24) (fun x27 => some (.ok x27, s24, 0, 0))))))) else some (.error 2, wc σ G J, 1, 6)) else some (.error 1, wc σ G J, 1, 6) := by
    intro qE
    obtain ⟨hw, r⟩ := hwr qE
    have B := nk_B lo.1
    unfold fX9_recover
    rw [nk_o lo.1, bnP_1, c_requireBook lo.1, if_neg (by rw [e4]; exact qE), bnXA_1, nk_b lo.1, bnP_1, bk_r9 B, bnP_1, c_isLostV B hw r, bnP_1, c_requireLeafAt lo.1 hw r]
    cases thB N v
    · rfl
    · cases stB N v 2
      · rfl
      · rfl
  have ms : ∀ S G1, MR S G1 E I N U V T → fX10_recover (some 80) v (wi S G1) = if (decide (E.1 ≠ 0) && thB N v && stB N v 2) = true then bnP (fX10_remembers (some 80) (wi S (up G1 80 0 0))) (fun s17 => bnP (fX10_unknown (some 80) s17) (fun x18 => bnP (fX10_recovers (some 80) v s17) (fun s22 => bnP (fX10_unknown (some 80) s22) (fun x23 => some ((x18 - x23), s22))))) else some (0, wi S (up G1 80 0 (thr (decide (E.1 ≠ 0)) (thB N v) (stB N v 2)))) := by
    intro S G1 hM1
    have mk := hM1.1
    have f6 := hM1.2.1.1
    have f81 := hM1.2.2.2.1.1
    unfold fX10_recover
    rw [mk_o mk, bnP_1, m_isL mk (N := N) (fun q => hA.2.1 (by rw [← f6]; exact q)) f81, bnP_1, mk_I mk, bnP_1, f6, show inR v (nI 0) (nI (nLv N) - 1) = thB N v from rfl, m_leafJ mk hA.2.1 f6 f81 v 2 1 0 true rfl rfl, bnP_1]
    dsimp only
    rw [← f6, m_may3 mk (by rw [f6]; exact hA.1.1), bnS_1, f6, thr_pq, show (stB N v 2 == true) = stB N v 2 by cases stB N v 2 <;> rfl]
    cases e0 : decide (E.1 ≠ 0)
    · rfl
    · cases e1 : thB N v
      · rfl
      · cases e2 : stB N v 2
        · rfl
        · rfl
  refine chg3 (thB N v) (stB N v 2) (e1 := 1) (e2 := 2) hC hM hA hD (fun S => rfl) (fun S => rfl) (fun _ _ _ S => rfl) ?_ ?_ ?_ ms ?_
  · intro qE
    unfold fX9_recover
    rw [nk_o lo.1, bnP_1, c_requireBook lo.1, if_pos (by rw [e4]; exact qE), bnXA_e]
  · intro qE z
    rw [ec qE, z, if_neg (by decide)]
  · intro qE z z2
    exact ⟨G, qg_rf P G, by rw [ec qE, z, z2, if_pos rfl, if_neg (by decide)]⟩
  · intro qE z z2
    obtain ⟨hw, r⟩ := hwr qE
    have ec := ec qE
    rw [z, if_pos rfl, z2, if_pos rfl] at ec
    have z' := z
    obtain ⟨l, rfl, hl⟩ := inL_t hw.1 z
    have h12 := nlv_12 hw.1
    have h0 : N (99 + l) = 2 := by
      have q := z2
      unfold stB at q
      rw [nI_clamp (by omega)] at q
      exact of_decide_eq_true q
    have wf := lf_wf (x := 0) hw hl (Or.inl rfl)
    have n2 := lf_n2 (x := 0) hw hl
    obtain ⟨w2, s2, f2, g2, k2⟩ := bm_wf (l := l) wf
    have hl2 : l < nLv (bmN (lfN N l 0) l) := by rw [(sm_n s2).2.2.2.2.1, n2.2]; exact hl
    refine chg (x := lostQ (bmN (lfN N l 0) l) l) (N' := bmN (lfN N l 0) l) false hC hM hA hD qE hb w2 (fun j hj => ?_) ?_ ?_
    · rw [f2 j (by omega), lf_o (by omega)]
      exact hM.2.2.2.1.2 j hj
    · intro σ' G' J' ps' P' ii jj eR hC'
      have nk' := cr_nk hC'
      have B' := nk_B nk'
      have r' := hC'.2.2.2.1 qE
      obtain ⟨G2, e2, g2, rb2⟩ := c_bringBack B' hw r' hl
      refine ⟨G2, J', ?_, fun a ha => by rw [g2 a ha]; rfl, fun a _ => rfl, rb2⟩
      rw [ec, eR, bnA_ok, nk_b nk', bnP_1, bk_r9 B', bnP_1, e2, bnP_1, nk_b nk', bnP_1, c_wouldBeUnknown B' w2 rb2 hl2, bnP_1, addC_1]
      rfl
    · intro S G1 G1' hM1 eR e81 _ _
      have mk := hM1.1
      have e : cw G1' 81 (bmN (lfN N l 0) l) (80 + 1) = bmN (lfN N l 0) l := cw_a _ _ _
      rw [ms S G1 hM1, decide_eq_true qE, z', z2, if_pos (show (true && true && true) = true from rfl), eR, bnP_1, m_unknown mk (by rw [show G1' (80 + 1) = N from e81]; exact hw), bnP_1, m_recovers mk hw e81 hl, bnP_1, m_unknown mk (by rw [e]; exact w2), bnP_1, e, show G1' (80 + 1) = N from e81, back_n hw hl h0]
      rfl
end RCV
