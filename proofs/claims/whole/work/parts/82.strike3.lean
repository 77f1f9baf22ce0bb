/-! THE PURE LEVEL, 42: STRIKECLAUSE -/
section SK3
variable {σ : HpT} {G G1 : Nat → Nat → Int32} {J : Nat → Nat → Int64} {b bs ps tx : Nat} {P : Nat → Option Nat} {E : tE} {I T : tI} {N : Nat → Int32} {U : tU} {V : tV}
theorem askB_f {v : Int32} (e : askB N v 1 = false) : ¬ isO N ∨ (isO N ∧ (inR v (nI 0) (nI (aM N (nAc N - 1) - 1)) = false ∨ wW N (opW N v.toNatClampNeg) = 0)) := by
  by_cases q : isO N
  · refine Or.inr ⟨q, ?_⟩
    cases z : inR v (nI 0) (nI (aM N (nAc N - 1) - 1))
    · exact Or.inl rfl
    · refine Or.inr ?_
      have h : (decide (strQ N v = 0) || decide (strQ N v = 3)) = true := by
        unfold strQ
        rw [if_pos (show 0 < nAc N ∧ N (9 + 9 * (nAc N - 1) + 1) = 0 from q), if_pos z]
        cases skN N (aF N (nAc N - 1) + v.toNatClampNeg)
        · rw [if_neg (by decide)]
          decide
        · rw [if_pos rfl]
          decide
      unfold askB at e
      rw [h, Bool.true_and, decide_eq_false (show ¬ (1 : Int32) = 0 by decide), Bool.false_or] at e
      have := of_decide_eq_false e
      omega
  · exact Or.inl q
/-- words struck, without a mark -/
def stwN (N : Nat → Int32) (f n : Nat) : Nat → Int32 := fun j => if 129 + 13 * f ≤ j ∧ j < 129 + 13 * (f + n) ∧ (j - 129) % 13 = 0 then 1 else N j
theorem stw_o {f n j : Nat} (h : ¬ (129 + 13 * f ≤ j ∧ j < 129 + 13 * (f + n) ∧ (j - 129) % 13 = 0)) : stwN N f n j = N j := if_neg h
theorem stk_cnt {f n : Nat} (hw : WFN N) (hf : f + n ≤ nWd N) : cntN (fun k => skN (stkN N f 0) (f + k)) n = cntN (fun k => skN N (f + k)) n := by
  have hb := w1_b hw.1
  refine cntN_cong fun k hk => ?_
  unfold skN
  rw [stk_o (by omega) (by omega)]
theorem c_strikeAround (h : BK σ b) (hw : WFN N) (r : RB G J b N) (q : isO N) {i p : Nat} (hi : i < aM N (nAc N - 1)) (hp : wW N (opW N i) = p + 1) : ∃ G2, fX1_strikeAround (some b) (nI i) (wc σ G J) = some (nI (cntN (fun k => skN N (cF N p + k)) (cT N p - cF N p + 1)), wc σ G2 J) ∧ (∀ a, a < b ∨ b + 33 ≤ a → G2 a = G a) ∧ RB G2 J b (stkN N (cF N p) (cT N p - cF N p + 1)) := by
  have ha : nAc N - 1 < nAc N := by have := q.1; omega
  obtain ⟨p1, p2, p3, p4, p5⟩ := (act_ok hw.1 hw.2.1 ha).1
  have hle := act_le hw.1 hw.2.1 ha
  have hb := w1_b hw.1
  obtain ⟨f, e1, f0, f1, g1, g2, g3, g4⟩ := c_seekA1 h hw r q hi hp
  have r' := rb_s13 hw.1 r f
  generalize hGG : cw G (b + 13) f = GG at e1 r'
  have z0 : GG (b + 13) 0 = nI (cF N p) := by rw [← hGG, cw_a]; exact f0
  have z1 : GG (b + 13) 1 = nI (cT N p - cF N p + 1) := by rw [← hGG, cw_a]; exact f1
  have hr := rb_act r' ha
  generalize hfn : cT N p - cF N p + 1 = n at *
  have hfn2 : cF N p + n ≤ nWd N := by omega
  have r1 : RB (up GG (b + 15 + (nAc N - 1)) 4 (GG (b + 15 + (nAc N - 1)) 4 + 1)) J b (stkN N (cF N p) 0) := stk_rb hw q g3 (by omega) r' (by
    rw [up_a (by omega)]
    exact funext fun j => (if_neg (by omega)).symm) (by rw [up_is, cw_a]) (fun a _ h2 => up_a h2)
  have e2 := c_strikeFrom h (stk_wf hw (f := cF N p) (n := 0) (by omega)).1 r1 (f := cF N p) (n := n) (by rw [(sm_n (stk_s (f := cF N p) (n := 0) hw (by omega))).2.2.1]; exact hfn2)
  refine ⟨_, ?_, ?_, stk_rb hw q g3 (by omega) r' (G2 := cw (up GG (b + 15 + (nAc N - 1)) 4 (GG (b + 15 + (nAc N - 1)) 4 + 1)) (b + 7) (stfG (cF N p) n (up GG (b + 15 + (nAc N - 1)) 4 (GG (b + 15 + (nAc N - 1)) 4 + 1) (b + 7)))) ?_ ?_ ?_⟩
  · unfold fX1_strikeAround
    rw [bk_o h, bnP_1, c_openAct1 h hw.1 r q, bnP_1, if_neg (fun e => by cases e), e1, bnS_1, if_pos rfl, bk_aI h p1, bnP_1, bk_aP h p1, bnP_1, bk_r8 h, bnP_1, bk_r10 h, bnP_1, bk_cI h, bnP_1, up_a (by omega), z0, bnP_1, bk_cI h, bnP_1, up_a (by omega), z1, e2, bnS_1, stk_cnt hw hfn2]
  · intro a ha
    rw [cw_b (by omega), up_a (by omega), ← hGG, cw_b (by omega)]
  · rw [cw_a, up_a (by omega)]
  · rw [cw_b (by omega), up_is, cw_a]
  · intro a h1 h2
    rw [cw_b h1, up_a h2]
theorem m_strikesClause (h : MK σ 80) (hw : WFN N) (e : G 81 = N) (q : isO N) {i p : Nat} (hi : i < aM N (nAc N - 1)) (hp : wW N (opW N i) = p + 1) : fX10_strikesClause (some 80) (nI i) (wi σ G) = some (nI (cntN (fun k => skN N (cF N p + k)) (cT N p - cF N p + 1)), wi σ (cw G 81 (stkN N (cF N p) (cT N p - cF N p + 1)))) := by
  have ha : nAc N - 1 < nAc N := by have := q.1; omega
  have hle := act_le hw.1 hw.2.1 ha
  have hb := w1_b hw.1
  have hG : WFN (G (80 + 1)) := by rw [e]; exact hw
  have qG : isO (G (80 + 1)) := by rw [e]; exact q
  have hwx := w3_w hw.2.2.1 ha (g := opW N i) (by unfold opW; omega) (by unfold opW; omega)
  obtain ⟨-, -, hwx⟩ := hwx
  rcases hwx with ⟨z, -⟩ | ⟨p', z1, z2, z3, z4, z5, -⟩
  · omega
  · obtain rfl : p' = p := by omega
    have kb := w3_kb hw.2.1 hw.1 ha
    obtain ⟨i0, i1, i2, -⟩ := (hw.2.2.1 _ ha).1 p' z2 z3
    have j0 : N (3247 + 3 * p') = nI (cF N p') := i0.1
    have j1 : N (3247 + 3 * p' + 1) = nI (cT N p') := i1.1
    obtain ⟨c1, c2, c3, -, -⟩ := w3_cl hw.2.2.1 ha p' z2 z3
    have hco : fX10_clauseOf (some 80) (nI (opW N i)) (wi σ G) = some (coQ N (opW N i)) := by
      have := m_clauseOf (G := G) h hG (a := nAc N - 1) (g := opW N i) (by rw [e]; exact ha) (by rw [e]; unfold opW; omega) (by rw [e]; unfold opW; omega)
      rw [e] at this
      exact this
    generalize hfn : cT N p' - cF N p' + 1 = n at *
    generalize hf : cF N p' = f at *
    have key := lpS_f (f := fX10_strikesClause_l1 (some 80) (nI p')) (a := (0, nI f)) (σ := wi σ G) (r := nI (cntN (fun k => skN N (f + k)) n)) n (fun k => (nI (cntN (fun k => skN N (f + k)) k), nI (f + k))) (fun k => wi σ (cw G 81 (stwN N f k))) rfl (by
      show wi σ (cw G 81 (stwN N f 0)) = wi σ G
      rw [show stwN N f 0 = G 81 from by rw [e]; exact funext fun j => if_neg (by omega), cw_self]) (by omega) (fun k hk => by
      unfold fX10_strikesClause_l1
      dsimp only
      have hs : cntN (fun k => skN N (f + k)) (k + 1) = cntN (fun k => skN N (f + k)) k + (if skN N (f + k) = true then 1 else 0) := rfl
      have c81 : cw G 81 (stwN N f k) (80 + 1) = stwN N f k := cw_a _ _ _
      rw [show fX10_ofClause (some 80) (nI p') 1 (wi σ (cw G 81 (stwN N f k))) = _ from m_ofClause h p' 1 (by omega), bnP_1, c81, stw_o (by omega), j1, if_neg (show ¬ nI (cT N p') < nI (f + k) from nI_nlt (by omega) (by omega)), m_stands h (by omega), bnP_1, c81]
      have sk : skN (stwN N f k) (f + k) = skN N (f + k) := by
        unfold skN
        rw [stw_o (by omega)]
      rw [sk, m_one, bnP_1, show fX10_putsWord (some 80) (nI (f + k)) 2 1 (wi σ (cw G 81 (stwN N f k))) = _ from m_putsWord h (f + k) 2 1 (by omega), bnP_1, hs, nI_a1]
      have e3 : up (cw G 81 (stwN N f k)) (80 + 1) (127 + 13 * (f + k) + 2) 1 = cw G 81 (stwN N f (k + 1)) := by
        rw [show 80 + 1 = 81 from rfl, up_cw]
        congr 1
        funext j
        unfold u1 stwN
        by_cases z : j = 127 + 13 * (f + k) + 2
        · rw [if_pos z, if_pos (by omega)]
        · rw [if_neg z]
          by_cases z2 : 129 + 13 * f ≤ j ∧ j < 129 + 13 * (f + k) ∧ (j - 129) % 13 = 0
          · rw [if_pos z2, if_pos (by omega)]
          · rw [if_neg z2, if_neg (by omega)]
      rw [e3]
      cases skN N (f + k)
      · rw [if_neg (by decide), show bI false = nI 0 from rfl, nI_add]
        rfl
      · rw [if_pos rfl, show bI true = nI 1 from rfl, nI_add]
        rfl) (by
      unfold fX10_strikesClause_l1
      dsimp only
      have c81 : cw G 81 (stwN N f n) (80 + 1) = stwN N f n := cw_a _ _ _
      rw [show fX10_ofClause (some 80) (nI p') 1 (wi σ (cw G 81 (stwN N f n))) = _ from m_ofClause h p' 1 (by omega), bnP_1, c81, stw_o (by omega), j1, if_pos (show nI (cT N p') < nI (f + n) from nI_lt (by omega) (by omega))])
    unfold fX10_strikesClause
    rw [mk_o h, bnP_1, m_openWord h hG qG, bnP_1, show G (80 + 1) = N from e, hco, bnP_1]
    unfold coQ
    rw [if_neg (by omega), hp, Nat.add_sub_cancel, show fX10_ofClause (some 80) (nI p') 0 (wi σ G) = some (G (80 + 1) (3247 + 3 * p')) from m_ofClause h p' 0 (by omega), bnP_1, show G (80 + 1) = N from e, j0, key, bnS_1]
    have e3 : cw G 81 (stwN N f n) (80 + 1) 3 = nI (nAc N) := by
      rw [show cw G 81 (stwN N f n) (80 + 1) = stwN N f n from cw_a _ _ _, stw_o (by omega)]
      exact (w1_e hw.1).2.1
    have e1 : cw G 81 (stwN N f n) (80 + 1) (9 + 9 * (nAc N - 1) + 1) = 0 := by
      rw [show cw G 81 (stwN N f n) (80 + 1) = stwN N f n from cw_a _ _ _, stw_o (by omega)]
      exact q.2
    rw [m_openAct1g h e3 q.1 (by omega) e1, bnP_1, m_marks h (by omega), bnP_1]
    congr 3
    rw [show (80 + 1 : Nat) = 81 from rfl, up_cw, cw_a]
    congr 1
    funext j
    unfold stkN u1
    by_cases z : j = 9 + 9 * (nAc N - 1) + 3
    · rw [if_pos z, stw_o (by omega), if_neg (by omega), if_pos (by omega), z]
    · rw [if_neg z]
      unfold stwN
      by_cases z2 : 129 + 13 * f ≤ j ∧ j < 129 + 13 * (f + n) ∧ (j - 129) % 13 = 0
      · rw [if_pos z2, if_pos z2]
      · rw [if_neg z2, if_neg z2, if_neg (by omega)]
/-- case 39: STRIKECLAUSE -/
theorem sc39 (hC : CR σ G J b bs ps P tx E I N U V T) (hM : MR σ G E I N U V T) (hA : AW E I N U V T) (hD : DK σ) (hb : hN σ + 40 < BIG) {Lx : Nat} {xs : Nat → Int32} {v5 v : Int32} (h1 : sld Lx xs (v5 + 1) = some v) (v4 : Option Nat) : STEP σ (fL_c39 Lx xs (some 0) (some 80) (some 89) v4 v5 (wc σ G J)) := by
  have lo := lo_of hC hM hA hD
  have e6 := hM.2.1.1
  have e4 := hC.2.1.1
  unfold fL_c39 fL_strikeClause
  simp only [h1, bnP_1]
  have ms : ∀ (S : HpT) (G1 : Nat → Nat → Int32), MR S G1 E I N U V T → fX10_strikeClause (some 80) v (wi S G1) = if (decide (E.1 ≠ 0) && askB N v 1) = true then bnP (fX10_remembers (some 80) (wi S (up G1 80 0 0))) (fun s17 => bnS (fX10_strikesClause (some 80) v s17) (fun x18 s20 => some (x18, s20))) else some (0, wi S (up G1 80 0 (thr (decide (E.1 ≠ 0)) (askB N v 1) true))) := by
    intro S G1 hM1
    have mk := hM1.1
    have f6 := hM1.2.1.1
    have f81 := hM1.2.2.2.1.1
    unfold fX10_strikeClause
    rw [mk_o mk, bnP_1, mk_I mk, bnP_1, bnP_1]
    have hj : (if G1 80 6 = 0 then some ((some 80 : Option Nat), G1 80 6, (0 : Int32)) else bnP (fX10_isAsked (some 80) v 1 (wi S G1)) (fun x10 => (if x10 = true then some (some 80, G1 80 6, 1) else some (some 80, G1 80 6, 0)))) = some (some 80, G1 80 6, bI (decide (G1 80 6 ≠ 0) && askB N v 1)) := by
      by_cases q : G1 80 6 = 0
      · rw [if_pos q, decide_eq_false (fun e => e q)]
        rfl
      · rw [if_neg q, m_isAsked mk (by rw [show G1 (80 + 1) = N from f81]; exact hA.2.1 (by rw [← f6]; exact q)), bnP_1, decide_eq_true q, show G1 (80 + 1) = N from f81]
        cases askB N v 1 <;> rfl
    rw [hj, bnP_1]
    dsimp only
    rw [m_may2 mk (by rw [f6]; exact hA.1.1), bnS_1, f6, thr_pq]
    cases e0 : decide (E.1 ≠ 0)
    · rfl
    · cases e1 : askB N v 1
      · rfl
      · rfl
  by_cases qE : E.1 = 0
  · refine chg_err (r := ansE 0 2 2 false true true (0 : Int32)) (t := thr (decide (E.1 ≠ 0)) (askB N v 1) true) (i := 1) (j := 6) hC hM hA hD (qg_rf P G) ?_ (fun J' => ?_) ?_ (by decide) (by decide)
    · unfold fX9_strikeClause
      rw [nk_o lo.1, bnP_1, c_requireBook lo.1, if_pos (by rw [e4]; exact qE), bnXA_e]
      rfl
    · have := ms (wc σ G J') G hM
      rw [decide_eq_false (fun e => e qE), Bool.false_and, if_neg (by decide)] at this
      rw [decide_eq_false (fun e => e qE)]
      exact this
    · rw [decide_eq_false (fun e => e qE)]
      exact ⟨show (1 : Int32) ≠ 0 by decide, rfl⟩
  · obtain ⟨hw, r⟩ := lo.2.2.2.2.2 (by rw [e4]; exact qE)
    rw [show G (80 + 1) = N from hM.2.2.2.1.1] at hw r
    have B := nk_B lo.1
    cases z : askB N v 1 with
    | true =>
      obtain ⟨qo, i, rfl, hi, hz⟩ := askB_t hw.1 hw.2.1 z
      have hz : 0 < wW N (opW N i) := by
        rcases hz with hz | hz
        · exact absurd hz (by decide)
        · exact hz
      obtain ⟨p, hp⟩ : ∃ p, wW N (opW N i) = p + 1 := ⟨wW N (opW N i) - 1, by omega⟩
      have ha : nAc N - 1 < nAc N := by have := qo.1; omega
      have hle := act_le hw.1 hw.2.1 ha
      obtain ⟨f, ef, f0, f1, g1, g2, g3, g4⟩ := c_seekA1 B hw r qo hi hp
      have hof : cF N p + (cT N p - cF N p + 1) ≤ nWd N := by omega
      have wf := stk_wf hw hof
      have q13 : QG P G (cw G (b + 13) f) := qg_c P G (scr_13 hC) (by have := cr_b hC; omega) f
      have hC1 := cr_frame hC hA q13.1 (J' := J) (fun _ _ => rfl)
      have hM1 := mr_frame hM q13.2.1 q13.2.2
      refine chg (x := nI (cntN (fun k => skN N (cF N p + k)) (cT N p - cF N p + 1))) (N' := stkN N (cF N p) (cT N p - cF N p + 1)) false hC1 hM1 hA hD qE hb wf (fun j hj => ?_) ?_ ?_
      · rw [stk_o (by have := w1_b hw.1; omega) (by have := w1_b hw.1; omega)]
        exact hM.2.2.2.1.2 j hj
      · intro σ' G' J' ps' P' ii jj eR hC'
        have nk' := cr_nk hC'
        have B' := nk_B nk'
        have r' := hC'.2.2.2.1 qE
        obtain ⟨G2, e2, g2, rb2⟩ := c_strikeAround B' hw r' qo hi hp
        refine ⟨G2, J', ?_, fun a ha => by rw [g2 a ha]; rfl, fun a _ => rfl, rb2⟩
        unfold fX9_strikeClause
        rw [nk_o lo.1, bnP_1, c_requireBook lo.1, if_neg (by rw [e4]; exact qE), bnXA_1, nk_b lo.1, bnP_1, ef, bnS_1, if_pos rfl, eR, bnA_ok, nk_b nk', bnP_1, e2, bnS_1, addC_1]
        rfl
      · intro S G1 G1' hM1 eR e81 _ _
        have mk := hM1.1
        rw [ms S G1 hM1, decide_eq_true qE, z, if_pos (show (true && true) = true from rfl), eR, bnP_1, m_strikesClause mk hw e81 qo hi hp, bnS_1]
        rfl
    | false =>
      refine chg_err (r := ansE 0 2 2 true false true (0 : Int32)) (t := thr (decide (E.1 ≠ 0)) (askB N v 1) true) (i := 1) (j := 6) hC hM hA hD (qg_rf P G) ?_ (fun J' => ?_) ?_ (by decide) (by decide)
      · unfold fX9_strikeClause
        rw [nk_o lo.1, bnP_1, c_requireBook lo.1, if_neg (by rw [e4]; exact qE), bnXA_1, nk_b lo.1, bnP_1, c_seekA0 B hw r (askB_f z), bnS_1]
        rfl
      · have := ms (wc σ G J') G hM
        rw [z, Bool.and_false, if_neg (by decide)] at this
        rw [z]
        exact this
      · rw [z, decide_eq_true qE]
        exact ⟨show (2 : Int32) ≠ 0 by decide, rfl⟩
end SK3
