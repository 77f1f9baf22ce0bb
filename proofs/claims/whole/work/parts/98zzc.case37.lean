/-! THE PURE LEVEL, 112: case BEGIN -/
section SC37
variable {σ σ' : HpT} {G G2 : Nat → Nat → Int32} {J J2 : Nat → Nat → Int64} {b bs ps tx e : Nat} {P : Nat → Option Nat} {E : tE} {I T : tI} {N : tN} {U : tU} {V : tV}
theorem up_to (v : Int32) (S : HpT) : fX9_requireUpTo v 2 S = some (if inR v (nI 0) (nI 2) = true then .ok () else .error 2) := by
  unfold fX9_requireUpTo inR
  by_cases h1 : v < 0
  · rw [if_pos h1, show decide (nI 0 ≤ v) = false from decide_eq_false (Int32.not_le.mpr h1), Bool.false_and]
    rfl
  · rw [if_neg h1, show decide (nI 0 ≤ v) = true from decide_eq_true (Int32.not_lt.mp h1), Bool.true_and]
    by_cases h2 : v ≤ 2
    · rw [if_pos h2, show decide (v ≤ nI 2) = true from decide_eq_true h2]
      rfl
    · rw [if_neg h2, show decide (v ≤ nI 2) = false from decide_eq_false h2]
      rfl
/-- case 37: BEGIN -/
theorem sc37 (hC : CR σ G J b bs ps P tx E I N U V T) (hM : MR σ G E I N U V T) (hA : AW E I N U V T) (hD : DK σ) (hb : hN σ + 40 < BIG) {Lx : Nat} {xs : Nat → Int32} {v5 v1 v2 : Int32} (h1 : sld Lx xs (v5 + 1) = some v1) (h2 : sld Lx xs (v5 + 2) = some v2) (v4 : Option Nat) : STEP σ (fL_c37 Lx xs (some 0) (some 80) (some 89) v4 v5 (wc σ G J)) := by
  have ck := hC.1.1
  have hn := ck.1.1
  have h600 := hA.1.2.1
  have lo := lo_of hC hM hA hD
  have e4 := hC.2.1.1
  unfold fL_c37 fL_begin
  simp only [h1, h2, bnP_1]
  have em : ∀ J', (decide (E.1 ≠ 0) && inR v2 (nI 0) (nI I.1) && cbQ N v1) = false → fX10_begin (some 80) v1 v2 (wc σ G J') = some (0, wc σ (up G 80 0 (thr (decide (E.1 ≠ 0)) (inR v2 (nI 0) (nI I.1)) (cbQ N v1 && decide (E.1 ≠ 0)))) J') := fun J' z => by
    have m' : MR (wc σ G J') G E I N U V T := hM
    exact m_begin0 m' hA v1 v2 z
  by_cases qE : E.1 = 0
  · have z : (decide (E.1 ≠ 0) && inR v2 (nI 0) (nI I.1) && cbQ N v1) = false := by rw [decide_eq_false (fun q => q qE), Bool.false_and, Bool.false_and]
    refine chg_err (r := .error 0) (t := thr (decide (E.1 ≠ 0)) (inR v2 (nI 0) (nI I.1)) (cbQ N v1 && decide (E.1 ≠ 0))) (i := 1) (j := 6) hC hM hA hD (qg_rf P G) ?_ (fun J' => em J' z) ?_ (by decide) (by decide)
    · unfold fX9_begin
      rw [nk_o lo.1, bnP_1, c_requireBook lo.1, if_pos (by rw [e4]; exact qE), bnXA_e]
    · rw [decide_eq_false (fun q => q qE)]
      exact ⟨show (1 : Int32) ≠ 0 by decide, rfl⟩
  · have hw := hA.2.1 qE
    have r := hC.2.2.2.1 qE
    have B := nk_B lo.1
    have hbd := w1_b hw.1
    have eb : fX9_requireBook (some 0) (wc σ G J) = some (.ok ()) := by rw [c_requireBook lo.1, if_neg (by rw [e4]; exact qE)]
    cases qI : inR v2 (nI 0) (nI I.1)
    · have z : (decide (E.1 ≠ 0) && inR v2 (nI 0) (nI I.1) && cbQ N v1) = false := by rw [qI, Bool.and_false, Bool.false_and]
      refine chg_err (r := .error 1) (t := thr (decide (E.1 ≠ 0)) (inR v2 (nI 0) (nI I.1)) (cbQ N v1 && decide (E.1 ≠ 0))) (i := 1) (j := 6) hC hM hA hD (qg_rf P G) ?_ (fun J' => em J' z) ?_ (by decide) (by decide)
      · unfold fX9_begin
        rw [nk_o lo.1, bnP_1, eb, bnXA_1, c_requireBytes hC hA, qI, if_neg (by decide), bnXA_e]
      · rw [decide_eq_true qE, qI]
        exact ⟨show (2 : Int32) ≠ 0 by decide, rfl⟩
    · have eq0 : fX9_requireBytes (some 0) v2 (wc σ G J) = some (.ok ()) := by rw [c_requireBytes hC hA, qI, if_pos rfl]
      cases qc : cbQ N v1
      · have z : (decide (E.1 ≠ 0) && inR v2 (nI 0) (nI I.1) && cbQ N v1) = false := by rw [qc, Bool.and_false]
        refine chg_err (r := .error 2) (t := thr (decide (E.1 ≠ 0)) (inR v2 (nI 0) (nI I.1)) (cbQ N v1 && decide (E.1 ≠ 0))) (i := 1) (j := 6) hC hM hA hD (qg_rf P G) ?_ (fun J' => em J' z) ?_ (by decide) (by decide)
        · unfold fX9_begin
          rw [nk_o lo.1, bnP_1, eb, bnXA_1, eq0, bnXA_1, up_to]
          unfold cbQ at qc
          cases q0 : inR v1 (nI 0) (nI 2)
          · rw [if_neg (by decide), bnXA_e]
          · rw [if_pos rfl, bnXA_1, nk_b lo.1, bnP_1]
            rw [q0, Bool.true_and] at qc
            by_cases q : isO N
            · rw [c_openAct1 B hw.1 r q, bnP_1, if_neg (fun e => by cases e)]
            · have hq : isOb N = false := by
                cases y : isOb N
                · rfl
                · exact absurd (isOb_t y) q
              rw [hq] at qc
              have h10 : ¬ nAc N < 10 := fun y => by
                rw [decide_eq_true y] at qc
                cases qc
              rw [c_openAct0 B hw.1 r q, bnP_1, if_pos rfl, bnP_1, bk_I B, bnP_1, rb_n r hw.1, if_neg (show ¬ nI (nAc N) < 10 from nI_nlt (b := 10) (by omega) (by omega))]
        · rw [decide_eq_true qE, qI, qc]
          exact ⟨show (3 : Int32) ≠ 0 by decide, rfl⟩
      · obtain ⟨e, rfl, he⟩ := in_I (by omega) qI
        have qc' := qc
        unfold cbQ at qc'
        rw [Bool.and_eq_true, Bool.and_eq_true] at qc'
        obtain ⟨q0, q1, q2⟩ := qc'
        have ha : nAc N < 10 := of_decide_eq_true q2
        have hno : ¬ isO N := fun y => by
          rw [isOb_1 y] at q1
          cases q1
        obtain ⟨k, hk1, hk2⟩ := in_I (by decide) q0
        obtain ⟨G2, J2, d1, d2, d3, d4⟩ := c_alone hC hA qE (by omega) he ha v1
        obtain ⟨hC1, hX1⟩ := cr_rd hC hA d2 d3
        have head : fX9_begin (some 0) v1 (nI e) (wc σ G J) = (if (begQ I.2 e N v1).isSome = true then bnA (fX9_remember (some 0) (wc (rdH σ b) G2 J2)) (fun x24 s26 => bnP (pI s26 (some 0) 9 1 0) (fun s33 => bnP (gR s33 (some 0) 9 5) (fun x34 => bnP (gR s33 (some 0) 9 7) (fun x36 => bnP (gI s33 x36 5 2) (fun x38 => bnP (fX1_beginAct x34 v1 x38 s33) (fun s42 => bnP (gR s42 (some 0) 9 5) (fun x43 => bnP (gI s42 x43 1 2) (fun x45 => some (.ok x45, s42, 0, 0))))))))) else some (.error 2, wc (rdH σ b) G2 J2, 1, 6)) := by
          unfold fX9_begin
          rw [nk_o lo.1, bnP_1, eb, bnXA_1, eq0, bnXA_1, up_to, q0, if_pos rfl, bnXA_1, nk_b lo.1, bnP_1, c_openAct0 B hw.1 r hno, bnP_1, if_pos rfl, bnP_1, bk_I B, bnP_1, rb_n r hw.1, if_pos (show nI (nAc N) < 10 from nI_lt (b := 10) ha (by decide)), gR_c ck.1.2.1 ck.2.1.1, bnP_1, gR_c ck.1.2.1 ck.1.2.2.2.2, bnP_1, bnP_1, d1, bnS_1]
        cases qb : begQ I.2 e N v1 with
        | none =>
          rw [qb, show (none : Option tN).isSome = false from rfl, if_neg (by decide)] at head
          have m2 : MR (wc (rdH σ b) G2 J2) G2 E I N U V T := exm_mr hX1 hM
          have hl := m_begin1 (σ := wc (rdH σ b) G2 J2) m2 hA (show hN σ ≤ BIG by omega) qE he qc
          rw [qb] at hl
          obtain ⟨G3, y1, y2, y3, y4⟩ := hl
          have hy := lq_er (σ1 := rdH σ b) (G1 := G2) (G2 := G3) (J1 := J2) (m := 80) (d := 89) (i := 1) (j := 6) (n := 2) (C := fX9_begin (some 0) v1 (nI e) (wc σ G J)) (M := fun s5 => fX10_begin (some 80) v1 (nI e) s5) (g := fun n3 s2 => if n3 = 0 then some (.ok 1, s2, 0, 0) else if n3 = 1 then some (.ok 2, s2, 0, 0) else if n3 = 2 then some (.ok 3, s2, 0, 0) else none) (x := 0) (exm_mk hX1 hM.1) head y1 (by rw [y2]; decide) (by rw [y2]; rfl)
          have c := exm_cap hX1 hn ck.2.2.2.2.2.1.2.2.2 ck.2.2.2.2.2.2.2.1
          refine ⟨rdH σ b, G3, J2, 1, 6, hy, ⟨b, bs, ps, P, tx, E, I, N, U, V, T, cr_m hC1 hA (fun a ha => y4 a (by omega)) (fun _ _ => rfl), y3, hA, exm_dk hX1 hn hD⟩, ?_, ?_, ?_⟩
          · have := hX1.1.2
            omega
          · omega
          · omega
        | some N' =>
          rw [qb, show (some N' : Option tN).isSome = true from rfl, if_pos rfl] at head
          obtain ⟨bc, bi, bw⟩ := d4 N' qb
          have wf := bi_wf hw ha bi bw hno hk1 (by omega)
          obtain ⟨σ', G3, J3, ps', P', i, j, eR, hC3, hX3, hi, hj, fr⟩ := c_rememberF hC1 hA qE (show hN σ + 40 < BIG by omega)
          have hA1 := aw_push hA qE
          have c1 := cr_cl true hC3 hA1
          have hbb := cr_b hC
          have nk3 := cr_nk hC3
          have B3 := nk_B nk3
          have ck3 := hC3.1.1
          have r3 : RB (up G3 0 1 0) J3 b N := c1.2.2.2.1 qE
          have bc3 : BC (up G3 0 1 0) J3 b N N' := by
            obtain ⟨w1, w2⟩ := bc
            refine ⟨by rw [up_a (by decide), (fr 68 (by omega)).1]; exact w1, fun g g1 g2 => ?_⟩
            rw [up_a (by omega), up_a (by omega), up_a (by omega), up_a (by omega), (fr (b + 4) (by omega)).2.1, (fr (b + 5) (by omega)).1, (fr (b + 6) (by omega)).1, (fr (b + 7) (by omega)).1, (fr (b + 8) (by omega)).1]
            exact w2 g g1 g2
          obtain ⟨G5, b1, b2, b3⟩ := c_beginAct (J := J3) B3 hw r3 ha bi bc3 bw wf
          have ec : fX9_begin (some 0) v1 (nI e) (wc σ G J) = some (.ok (N' 3), wc σ' G5 J3, i + 0, j + 0) := by
            rw [head, eR, bnA_ok, cr_P hC3, bnP_1, gR_c ck3.1.2.1 hC3.1.2.1, bnP_1, gR_c ck3.1.2.1 ck3.2.1.1, bnP_1, gI_c (σ := σ') (show hK σ' 68 = 5 from ck3.2.2.1.1) (by have := ck3.1.1; omega), bnP_1, bc3.1, b1, bnP_1, gR_c ck3.1.2.1 hC3.1.2.1, bnP_1, bk_I B3, bnP_1, b3.1.2.2.1, addC_1]
          have hX : EXM σ σ' G G5 J J3 := by
            refine ⟨⟨hX3.1.1, hX3.1.2⟩, fun a ha => ⟨(hX3.2.1 a ha).1, (hX3.2.1 a ha).2.1, fun a0 a1 a2 a3 a4 k => ((hX3.2.1 a ha).2.2 a0 a1 a2 a3 a4 k).trans ((hX1.2.1 a ha).2.2 a0 a1 a2 a3 a4 k)⟩, fun a h1 h2 => ?_⟩
            have := hX3.2.2 a h1 h2
            have h3 := hX1.2.2 a h1 h2
            refine ⟨?_, this.2.trans h3.2⟩
            rw [b2 a (by omega), up_a (by omega), this.1, h3.1]
          have m2 : MR (wc σ' G5 (upJ J3 89 0 (N' 3).toInt64)) G5 E I N U V T := exm_mr hX hM
          have hl := m_begin1 (σ := wc σ' G5 (upJ J3 89 0 (N' 3).toInt64)) m2 hA (show hN σ' ≤ BIG by have := hX.1.2; omega) qE he qc
          rw [qb] at hl
          obtain ⟨G6, y1, y2, y3, y4⟩ := hl
          have hd : hK σ' 89 = 21 ∧ 89 < hN σ' ∧ hZ σ' 89 = 1 := by
            have := (exm_dk hX hn hD).1
            exact ⟨this.1, by have := hX.1.1; omega, this.2⟩
          have hy := lq_ok (σ1 := σ') (G1 := G5) (G2 := G6) (J1 := J3) (m := 80) (d := 89) (i := i + 0) (j := j + 0) (C := fX9_begin (some 0) v1 (nI e) (wc σ G J)) (M := fun s5 => fX10_begin (some 80) v1 (nI e) s5) (g := fun n3 s2 => if n3 = 0 then some (.ok 1, s2, 0, 0) else if n3 = 1 then some (.ok 2, s2, 0, 0) else if n3 = 2 then some (.ok 3, s2, 0, 0) else none) (y := N' 3) hd (exm_mk hX hM.1) ec y1 y2
          have hA2 : AW E (0, I.2) N (pushU U N) V T := aw_in hA1 (Nat.zero_le _)
          have hA3 : AW E (0, I.2) N' (pushU U N) V T := aw_now hA2 fun _ => wf
          have c2 : CR σ' G5 J3 b bs ps' P' tx E (0, I.2) N' (pushU U N) V T := cr_book (N' := N') c1 hA2 b2 (fun _ _ => rfl) (fun _ => b3)
          have c := exm_cap hX hn ck.2.2.2.2.2.1.2.2.2 ck.2.2.2.2.2.2.2.1
          refine ⟨σ', G6, upJ J3 89 0 (N' 3).toInt64, i + 0, j + 0, hy, ⟨b, bs, ps', P', tx, E, (0, I.2), N', pushU U N, V, T, cr_m c2 hA3 (fun a ha => y4 a (by omega)) (fun a ha => upJ_a ha), y3, hA3, exm_dk hX hn hD⟩, ?_, ?_, ?_⟩
          · have := hX.1.2
            omega
          · omega
          · omega
end SC37
