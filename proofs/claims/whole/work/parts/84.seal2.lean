/-! THE PURE LEVEL, 44: SEAL -/
section SLN2
variable {σ : HpT} {G G1 G2 : Nat → Nat → Int32} {J : Nat → Nat → Int64} {b bs ps tx : Nat} {P : Nat → Option Nat} {E : tE} {I T : tI} {N : Nat → Int32} {U : tU} {V : tV}
/-- the fee of sealing the open act -/
def bsF (k : Int32) : Int32 := if k = 0 then 5 else if k = 1 then 3 else 4
def feQ (N : Nat → Int32) : Int32 := bsF (N (9 + 9 * (nAc N - 1))) + stN N (aF N (nAc N - 1)) (aM N (nAc N - 1))
def sealB (N : Nat → Int32) (v w : Int32) : Bool := (inR v 0 9 && inR w 0 99) && decide (sealQ N v w = 0)
theorem sealQ_o {v w : Int32} (h : sealQ N v w = 0) : isO N := by
  unfold sealQ at h
  by_cases q : 0 < nAc N ∧ N (9 + 9 * (nAc N - 1) + 1) = 0
  · exact q
  · rw [if_neg q] at h
    cases h
theorem c_baseFee (h : BK σ b) {a : Nat} (ha : a < 10) : fX0_baseFee (some (b + 15 + a)) (wc σ G J) = some (bsF (G (b + 15 + a) 1)) := by
  unfold fX0_baseFee bsF
  rw [isK_c (h.2.2.2.2.1 a ha).1, bnP_1, bk_aI h ha, bnP_1]
  by_cases q : G (b + 15 + a) 1 = 0
  · rw [if_pos q, if_pos q]
  · rw [if_neg q, if_neg q]
    by_cases q2 : G (b + 15 + a) 1 = 1
    · rw [if_pos q2, if_pos q2]
    · rw [if_neg q2, if_neg q2]
theorem c_sealOpen (h : BK σ b) (hw : WFN N) (r : RB G J b N) (q : isO N) (v : Int32) : ∃ G2, fX1_sealOpen (some b) v (wc σ G J) = some (feQ N, wc σ G2 J) ∧ (∀ a, a < b ∨ b + 33 ≤ a → G2 a = G a) ∧ RB G2 J b (sealN N 1 v (feQ N) (feQ N)) := by
  have hbb := w1_b hw.1
  have hp := q.1
  have hr := rb_act r (a := nAc N - 1) (by omega)
  have ha : nAc N - 1 < 10 := by omega
  refine ⟨up (up (up (up G (b + 15 + (nAc N - 1)) 7 (feQ N)) (b + 15 + (nAc N - 1)) 3 v) (b + 15 + (nAc N - 1)) 2 1) b 4 (G b 4 + feQ N), ?_, fun a h1 => ?_, sl_rb hw q r (fun k _ h4 => ?_) (up_eq _ _ _ _) (fun k hk => ?_) ?_ ?_ ?_ (fun a h1 h2 => ?_)⟩
  · unfold fX1_sealOpen
    rw [bk_o h, bnP_1, c_openAct1 h hw.1 r q, bnP_1, if_neg (fun e => by cases e), c_baseFee h ha, bnP_1, c_openStanding h hw r q, bnP_1, bk_aP h ha, bnP_1, bk_aP h ha, bnP_1, bk_aP h ha, bnP_1, bk_I h, bnP_1, bk_aI h ha, bnP_1, bk_P h, bnP_1, bk_aI h ha, bnP_1, hr.2.1]
    have e1 : up (up (up G (b + 15 + (nAc N - 1)) 7 (feQ N)) (b + 15 + (nAc N - 1)) 3 v) (b + 15 + (nAc N - 1)) 2 1 (b + 15 + (nAc N - 1)) 7 = feQ N := by rw [up_k (by decide), up_k (by decide), up_eq]
    have e2 : up (up (up G (b + 15 + (nAc N - 1)) 7 (feQ N)) (b + 15 + (nAc N - 1)) 3 v) (b + 15 + (nAc N - 1)) 2 1 b 4 = G b 4 := by rw [up_a (by omega), up_a (by omega), up_a (by omega)]
    rw [show bsF (N (9 + 9 * (nAc N - 1))) + stN N (aF N (nAc N - 1)) (aM N (nAc N - 1)) = feQ N from rfl, e1, e2]
    rw [up_a (by omega), e1]
  · rw [up_a (by omega), up_a (by omega), up_a (by omega), up_a (by omega)]
  · rw [up_k h4, up_a (by omega), up_a (by omega), up_a (by omega)]
  · rw [up_a (by omega), up_k (by omega), up_k (by omega), up_k (by omega)]
  · rw [up_a (by omega), up_eq]
  · rw [up_a (by omega), up_k (by decide), up_eq]
  · rw [up_a (by omega), up_k (by decide), up_k (by decide), up_eq]
  · rw [up_a h1, up_a h2, up_a h2, up_a h2]
theorem m_seals (h : MK σ 80) (hw : WFN N) (e : G 81 = N) (q : isO N) (v : Int32) : fX10_seals (some 80) v (wi σ G) = some (feQ N, wi σ (cw G 81 (sealN N 1 v (feQ N) (feQ N)))) := by
  have hbb := w1_b hw.1
  have hp := q.1
  have e' : G (80 + 1) = N := e
  have hG : WFN (G (80 + 1)) := by rw [e']; exact hw
  have qG : isO (G (80 + 1)) := by rw [e']; exact q
  have ok := (act_ok hG.1 hG.2.1 (a := nAc N - 1) (by rw [e']; omega)).1
  unfold fX10_seals
  rw [mk_o h, bnP_1, m_openAct1 h hG.1 qG, bnP_1, show fX10_ofAct (some 80) (nI (nAc (G (80 + 1)) - 1)) 0 (wi σ G) = some (G (80 + 1) (9 + 9 * (nAc (G (80 + 1)) - 1) + 0)) from m_ofAct h _ 0 (by rw [e']; omega), bnP_1, e']
  rw [e'] at ok
  have hj : (if N (9 + 9 * (nAc N - 1) + 0) = 0 then some (5 : Int32) else (if N (9 + 9 * (nAc N - 1) + 0) = 1 then some 3 else some 4)) = some (bsF (N (9 + 9 * (nAc N - 1)))) := by
    unfold bsF
    rw [Nat.add_zero]
    by_cases q1 : N (9 + 9 * (nAc N - 1)) = 0
    · rw [if_pos q1, if_pos q1]
    · rw [if_neg q1, if_neg q1]
      by_cases q2 : N (9 + 9 * (nAc N - 1)) = 1
      · rw [if_pos q2, if_pos q2]
      · rw [if_neg q2, if_neg q2]
  rw [hj, bnP_1, m_standing h (by rw [e']; exact ok), bnP_1, e', show bsF (N (9 + 9 * (nAc N - 1))) + stN N (aF N (nAc N - 1)) (aM N (nAc N - 1)) = feQ N from rfl]
  rw [show fX10_putsAct (some 80) (nI (nAc N - 1)) 1 1 (wi σ G) = _ from m_putsAct h (nAc N - 1) 1 1 (by omega), bnP_1]
  generalize hG1 : up G (80 + 1) (9 + 9 * (nAc N - 1) + 1) 1 = G1
  rw [show fX10_putsAct (some 80) (nI (nAc N - 1)) 2 v (wi σ G1) = _ from m_putsAct h (nAc N - 1) 2 v (by omega), bnP_1]
  generalize hG2 : up G1 (80 + 1) (9 + 9 * (nAc N - 1) + 2) v = G2
  rw [show fX10_putsAct (some 80) (nI (nAc N - 1)) 4 (feQ N) (wi σ G2) = _ from m_putsAct h (nAc N - 1) 4 (feQ N) (by omega), bnP_1]
  generalize hG3 : up G2 (80 + 1) (9 + 9 * (nAc N - 1) + 4) (feQ N) = G3
  have e7 : G3 (80 + 1) 7 = N 7 := by rw [← hG3, up_k (by omega), ← hG2, up_k (by omega), ← hG1, up_k (by omega), e']
  rw [mk_r1 h, bnP_1, show aI (wi σ G3) (some (80 + 1)) 20 7 = _ from mk_a1 h (n := 7) (by decide), bnP_1, e7, show sI (wi σ G3) (some (80 + 1)) 7 (N 7 + feQ N) = _ from mk_s1 h (n := 7) (by decide), bnP_1]
  congr 3
  rw [← hG3, ← hG2, ← hG1, show (80 + 1 : Nat) = 81 from rfl, up_is G, up_cw, up_cw, up_cw, e]
  congr 1
  funext j
  unfold u1 sealN
  by_cases z7 : j = 7
  · rw [if_pos z7, if_neg (by omega), if_neg (by omega), if_neg (by omega), if_pos z7, z7]
  · rw [if_neg z7]
    by_cases z4 : j = 9 + 9 * (nAc N - 1) + 4
    · rw [if_pos z4, if_neg (by omega), if_neg (by omega), if_pos (by omega)]
    · rw [if_neg z4]
      by_cases z2 : j = 9 + 9 * (nAc N - 1) + 2
      · rw [if_pos z2, if_neg (by omega), if_pos (by omega)]
      · rw [if_neg z2]
        by_cases z1 : j = 9 + 9 * (nAc N - 1) + 1
        · rw [if_pos z1, if_pos (by omega)]
        · rw [if_neg z1, if_neg (by omega), if_neg (by omega), if_neg (by omega), if_neg z7]
/-- case 41: SEAL -/
theorem sc41 (hC : CR σ G J b bs ps P tx E I N U V T) (hM : MR σ G E I N U V T) (hA : AW E I N U V T) (hD : DK σ) (hb : hN σ + 40 < BIG) {Lx : Nat} {xs : Nat → Int32} {v5 v w : Int32} (h1 : sld Lx xs (v5 + 1) = some v) (h2 : sld Lx xs (v5 + 2) = some w) (v4 : Option Nat) : STEP σ (fL_c41 Lx xs (some 0) (some 80) (some 89) v4 v5 (wc σ G J)) := by
  have lo := lo_of hC hM hA hD
  have e4 := hC.2.1.1
  unfold fL_c41 fL_seal
  simp only [h1, h2, bnP_1]
  have hwr : E.1 ≠ 0 → WFN N ∧ RB G J b N := fun q => ⟨hA.2.1 q, hC.2.2.2.1 q⟩
  have ec : E.1 ≠ 0 → fX9_seal (some 0) v w (wc σ G J) = if sealB N v w = true then bnA (fX9_remember (some 0) (wc σ G J)) (fun x11 s13 => bnP (gR s13 (some 0) 9 5) (fun x18 => bnS (fX1_sealOpen x18 v s13) (fun x20 s22 => some (.ok x20, s22, 0, 0)))) else some (.error 2, wc σ G J, 1, 6) := by
    intro qE
    obtain ⟨hw, r⟩ := hwr qE
    unfold fX9_seal
    rw [nk_o lo.1, bnP_1, c_requireBook lo.1, if_neg (by rw [e4]; exact qE), bnXA_1, c_requireUpTo, c_requireUpTo]
    unfold sealB
    cases inR v 0 9
    · rfl
    · cases inR w 0 99
      · rfl
      · rw [if_pos rfl, bnXA_1, bnXA_1, nk_b lo.1, bnP_1, c_sealReason (nk_B lo.1) hw r, bnP_1]
        by_cases z : sealQ N v w = 0
        · rw [if_pos z, decide_eq_true z]
          rfl
        · rw [if_neg z, decide_eq_false z]
          rfl
  have ms : ∀ S G1, MR S G1 E I N U V T → fX10_seal (some 80) v w (wi S G1) = if (decide (E.1 ≠ 0) && sealB N v w) = true then bnP (fX10_remembers (some 80) (wi S (up G1 80 0 0))) (fun s26 => bnS (fX10_seals (some 80) v s26) (fun x27 s29 => some (x27, s29))) else some (0, wi S (up G1 80 0 (thr (decide (E.1 ≠ 0)) (sealB N v w) true))) := by
    intro S G1 hM1
    have mk := hM1.1
    have f6 := hM1.2.1.1
    have f81 := hM1.2.2.2.1.1
    unfold fX10_seal
    rw [mk_o mk, bnP_1, m_in, bnP_1]
    have hj1 : (if inR v 0 9 = true then bnP (fX10_in w 0 99 (wi S G1)) (fun x8 => (if x8 = true then some (1 : Int32) else some 0)) else some 0) = some (bI (inR v 0 9 && inR w 0 99)) := by
      rw [m_in, bnP_1]
      cases inR v 0 9
      · rfl
      · cases inR w 0 99 <;> rfl
    rw [hj1, bnP_1, mk_I mk, bnP_1, bnP_1]
    have hj : (if G1 80 6 = 0 then some ((some 80 : Option Nat), G1 80 6, (0 : Int32)) else (if bI (inR v 0 9 && inR w 0 99) = 0 then some (some 80, G1 80 6, 0) else bnP (fX10_whySeal (some 80) v w (wi S G1)) (fun x19 => (if x19 = 0 then some (some 80, G1 80 6, 1) else some (some 80, G1 80 6, 0))))) = some (some 80, G1 80 6, bI (decide (G1 80 6 ≠ 0) && sealB N v w)) := by
      by_cases q : G1 80 6 = 0
      · rw [if_pos q, decide_eq_false (fun e => e q)]
        rfl
      · have hw := hA.2.1 (by rw [← f6]; exact q)
        rw [if_neg q, decide_eq_true q]
        unfold sealB
        cases inR v 0 9 && inR w 0 99
        · rfl
        · rw [if_neg (show ¬ bI true = 0 by decide), m_whySeal mk (by rw [show G1 (80 + 1) = N from f81]; exact hw), bnP_1, show G1 (80 + 1) = N from f81]
          by_cases z : sealQ N v w = 0
          · rw [if_pos z, decide_eq_true z]
            rfl
          · rw [if_neg z, decide_eq_false z]
            rfl
    rw [hj, bnP_1]
    dsimp only
    rw [m_may2 mk (by rw [f6]; exact hA.1.1), bnS_1, f6, thr_pq]
    cases e0 : decide (E.1 ≠ 0)
    · rfl
    · cases e1 : sealB N v w
      · rfl
      · rfl
  refine chg2 (K := fun S G1 => bnP (fX10_remembers (some 80) (wi S (up G1 80 0 0))) (fun s26 => bnS (fX10_seals (some 80) v s26) (fun x27 s29 => some (x27, s29)))) (sealB N v w) hC hM hA hD (fun S => rfl) (fun S => rfl) ?_ ?_ ms ?_
  · intro qE
    unfold fX9_seal
    rw [nk_o lo.1, bnP_1, c_requireBook lo.1, if_pos (by rw [e4]; exact qE), bnXA_e]
  · intro qE z
    rw [ec qE, z, if_neg (by decide)]
  · intro qE z
    obtain ⟨hw, r⟩ := hwr qE
    have q : isO N := by
      unfold sealB at z
      rw [Bool.and_eq_true] at z
      exact sealQ_o (of_decide_eq_true z.2)
    have hbb := w1_b hw.1
    have hp := q.1
    refine chg (x := feQ N) (N' := sealN N 1 v (feQ N) (feQ N)) false hC hM hA hD qE hb (sl_wf hw q (Or.inl rfl)) (fun j hj => ?_) ?_ ?_
    · rw [sl_o (by omega) (by omega) (by omega) (by omega)]
      exact hM.2.2.2.1.2 j hj
    · intro σ' G' J' ps' P' ii jj eR hC'
      have nk' := cr_nk hC'
      obtain ⟨G2, e2, g2, rb2⟩ := c_sealOpen (nk_B nk') hw (hC'.2.2.2.1 qE) q v
      refine ⟨G2, J', ?_, fun a ha => by rw [g2 a ha]; rfl, fun a _ => rfl, rb2⟩
      rw [ec qE, z, if_pos rfl, eR, bnA_ok, nk_b nk', bnP_1, e2, bnS_1, addC_1]
      rfl
    · intro S G1 G1' hM1 eR e81 _ _
      have mk := hM1.1
      rw [ms S G1 hM1, decide_eq_true qE, z, if_pos (show (true && true) = true from rfl), eR, bnP_1, m_seals mk hw e81 q v, bnS_1]
      rfl
end SLN2
