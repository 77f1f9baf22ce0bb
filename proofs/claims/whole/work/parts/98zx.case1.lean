/-! THE PURE LEVEL, 108: case LOAD -/
theorem lq_ok {σ1 : HpT} {G1 G2 : Nat → Nat → Int32} {J1 : Nat → Nat → Int64} {m d i j : Nat} {C : AT Int32} {M : HpT → Option (Int32 × HpT)} {g : Nat → HpT → AT Int32} {y : Int32}
    (hd : hK σ1 d = 21 ∧ d < hN σ1 ∧ hZ σ1 d = 1) (hm : MK σ1 m) (hC : C = some (.ok y, wc σ1 G1 J1, i, j)) (hM : M (wc σ1 G1 (upJ J1 d 0 y.toInt64)) = some (y, wc σ1 G2 (upJ J1 d 0 y.toInt64))) (hc : G2 m 0 = 0) :
    bnO (bnC C (fun x1 s2 => bnP (sJ s2 (some d) 0 x1.toInt64) (fun s11 => some (.ok 0, s11, 0, 0))) g) (fun x3 s5 => bnS (M s5) (fun x12 s14 => bnP (fX10_thrown (some m) s14) (fun x15 => (if x15 = x3 then (if x3 = 0 then bnP (aJ s14 (some d) 0) (fun x17 => (if (lg_cmp x17 ((x12).toInt64)) = 0 then some (.ok (), s14, 0, 0) else none)) else some (.ok (), s14, 0, 0)) else none)))) = some ((.ok () : Except Nat Unit), wc σ1 G2 (upJ J1 d 0 y.toInt64), i, j) := by
  have th : ∀ J', fX10_thrown (some m) (wc σ1 G2 J') = some (G2 m 0) := fun J' => m_thrown (σ := wc σ1 G2 J') (G := G2) hm
  have sj : ∀ J' y, sJ (wc σ1 G1 J') (some d) 0 y = some (wc σ1 G1 (upJ J' d 0 y)) := fun J' y => sJ_c (n := 0) hd.1 hd.2.1 hd.2.2 (by decide) (by decide)
  have aj : ∀ J', aJ (wc σ1 G2 J') (some d) 0 = some (J' d 0) := fun J' => aJ_c (n := 0) hd.1 hd.2.1 hd.2.2 (by decide) (by decide)
  have e1 : bnC C (fun x1 s2 => bnP (sJ s2 (some d) 0 x1.toInt64) (fun s11 => some ((.ok 0 : Except Nat Int32), s11, 0, 0))) g = some (.ok 0, wc σ1 G1 (upJ J1 d 0 y.toInt64), i, j) := by
    rw [hC]
    exact bnC_1 (i := i) (j := j) (i2 := 0) (j2 := 0) (by rw [sj, bnP_1])
  rw [e1]
  refine bnO_1 (i := i) (j := j) (i2 := 0) (j2 := 0) ?_
  rw [hM, bnS_1, th, bnP_1, hc, if_pos rfl, if_pos rfl, aj, bnP_1, upJ_eq, if_pos ((lg_cmp_eq _ _).mpr rfl)]
theorem lq_er {σ1 : HpT} {G1 G2 : Nat → Nat → Int32} {J1 : Nat → Nat → Int64} {m d i j n : Nat} {C : AT Int32} {M : HpT → Option (Int32 × HpT)} {g : Nat → HpT → AT Int32} {x : Int32}
    (hm : MK σ1 m) (hC : C = some (.error n, wc σ1 G1 J1, i, j)) (hM : M (wc σ1 G1 J1) = some (x, wc σ1 G2 J1)) (hc : G2 m 0 ≠ 0) (hg : g n (wc σ1 G1 J1) = some (.ok (G2 m 0), wc σ1 G1 J1, 0, 0)) :
    bnO (bnC C (fun x1 s2 => bnP (sJ s2 (some d) 0 x1.toInt64) (fun s11 => some (.ok 0, s11, 0, 0))) g) (fun x3 s5 => bnS (M s5) (fun x12 s14 => bnP (fX10_thrown (some m) s14) (fun x15 => (if x15 = x3 then (if x3 = 0 then bnP (aJ s14 (some d) 0) (fun x17 => (if (lg_cmp x17 ((x12).toInt64)) = 0 then some (.ok (), s14, 0, 0) else none)) else some (.ok (), s14, 0, 0)) else none)))) = some ((.ok () : Except Nat Unit), wc σ1 G2 J1, i, j) := by
  have th : ∀ J', fX10_thrown (some m) (wc σ1 G2 J') = some (G2 m 0) := fun J' => m_thrown (σ := wc σ1 G2 J') (G := G2) hm
  have e1 : bnC C (fun x1 s2 => bnP (sJ s2 (some d) 0 x1.toInt64) (fun s11 => some ((.ok 0 : Except Nat Int32), s11, 0, 0))) g = some (.ok (G2 m 0), wc σ1 G1 J1, i, j) := by
    rw [hC]
    exact bnC_e (i := i) (j := j) (i2 := 0) (j2 := 0) hg
  rw [e1]
  refine bnO_1 (i := i) (j := j) (i2 := 0) (j2 := 0) ?_
  rw [hM, bnS_1, th, bnP_1, if_pos rfl, if_neg hc]
section SC1
variable {σ σ' : HpT} {G : Nat → Nat → Int32} {J : Nat → Nat → Int64} {b bs ps tx e : Nat} {P : Nat → Option Nat} {E : tE} {I T : tI} {N : tN} {U : tU} {V : tV}
theorem in_I {v : Int32} {n : Nat} (hn : n < 2 ^ 31) (z : inR v (nI 0) (nI n) = true) : ∃ e, v = nI e ∧ e ≤ n := by
  unfold inR at z
  rw [Bool.and_eq_true] at z
  have h1 : ¬ v < 0 := Int32.not_lt.mpr (of_decide_eq_true z.1)
  obtain ⟨i, hi, rfl⟩ := nI_of h1
  have h2 := of_decide_eq_true z.2
  rw [nI_leI hi hn] at h2
  exact ⟨i, rfl, h2⟩
/-- case 1: LOAD -/
theorem sc1 (hC : CR σ G J b bs ps P tx E I N U V T) (hM : MR σ G E I N U V T) (hA : AW E I N U V T) (hD : DK σ) (hb : hN σ + 40 < BIG) {Lx : Nat} {xs : Nat → Int32} {v5 v : Int32} (h1 : sld Lx xs (v5 + 1) = some v) (v4 : Option Nat) : STEP σ (fL_c1 Lx xs (some 0) (some 80) (some 89) v4 v5 (wc σ G J)) := by
  have ck := hC.1.1
  have hn := ck.1.1
  have h600 := hA.1.2.1
  unfold fL_c1 fL_load
  simp only [h1, bnP_1]
  cases z : inR v (nI 0) (nI I.1)
  · refine chg_err (r := .error 1) (t := 1) (i := 1) (j := 6) hC hM hA hD (qg_rf P G) ?_ (fun J' => ?_) ⟨by decide, rfl⟩ (by decide) (by decide)
    · unfold fX9_load
      rw [cr_o hC, bnP_1, c_requireBytes hC hA, z, if_neg (by decide), bnXA_e]
    · show fX10_load (some 80) v (wi (wc σ G J') G) = _
      have mk' : MK (wc σ G J') 80 := hM.1
      have e9 : G 80 9 = nI I.1 := hM.2.2.1.1
      unfold fX10_load
      rw [mk_o mk', bnP_1, mk_I mk', bnP_1, e9, m_in, bnP_1, show inR v 0 (nI I.1) = false from z, show (1 : Int32) = bI true from rfl, m_may mk', bnS_1]
      rfl
  · obtain ⟨e, rfl, he⟩ := in_I (by omega) z
    have hc := c_load hC hA (by omega) he
    cases q : ldS I.2 e with
    | error x =>
      rw [q] at hc
      obtain ⟨σ', G2, J2, ec, hC2, hX⟩ := hc
      have m2 : MR (wc σ' G2 J2) G2 E I N U V T := exm_mr hX hM
      have hS2 : hN σ' ≤ BIG := by have := hX.1.2; omega
      have hl := m_load (σ := wc σ' G2 J2) m2 hS2 h600 he
      rw [q] at hl
      obtain ⟨G3, e3, z3, m3, o3⟩ := hl
      have hy := lq_er (σ1 := σ') (G1 := G2) (G2 := G3) (J1 := J2) (m := 80) (d := 89) (i := 1) (j := 6) (n := 2) (C := fX9_load (some 0) (nI e) (wc σ G J)) (M := fun s5 => fX10_load (some 80) (nI e) s5) (g := fun n3 s2 => if n3 = 1 then some (.ok 1, s2, 0, 0) else if n3 = 2 then some (.ok 2, s2, 0, 0) else none) (x := 0) (exm_mk hX hM.1) ec e3 (by rw [z3]; decide) (by rw [z3]; rfl)
      have hA2 : AW (E.1, nI x.1, nI x.2) (0, I.2) N U V T := ⟨⟨hA.1.1, Nat.zero_le _, hA.1.2.2.1, hA.1.2.2.2.1, hA.1.2.2.2.2⟩, hA.2.1, hA.2.2.1, hA.2.2.2⟩
      have c := exm_cap hX hn ck.2.2.2.2.2.1.2.2.2 ck.2.2.2.2.2.2.2.1
      refine ⟨σ', G3, J2, 1, 6, hy, ⟨b, bs, ps, P, tx, (E.1, nI x.1, nI x.2), (0, I.2), N, U, V, T, ?_, m3, hA2, exm_dk hX hn hD⟩, ?_, ?_, ?_⟩
      · exact cr_m hC2 hA2 (fun a ha => o3 a (by omega)) (fun a _ => rfl)
      · have := hX.1.2
        omega
      · omega
      · omega
    | ok r =>
      rw [q] at hc
      obtain ⟨σ', G2, J2, ec, hC2, hX⟩ := hc
      have m2 : MR (wc σ' G2 (upJ J2 89 0 (r.2 3).toInt64)) G2 E I N U V T := exm_mr hX hM
      have hS2 : hN σ' ≤ BIG := by have := hX.1.2; omega
      have hl := m_load (σ := wc σ' G2 (upJ J2 89 0 (r.2 3).toInt64)) m2 hS2 h600 he
      rw [q] at hl
      obtain ⟨G3, e3, z3, m3, o3⟩ := hl
      have hd : hK σ' 89 = 21 ∧ 89 < hN σ' ∧ hZ σ' 89 = 1 := by
        have := (exm_dk hX hn hD).1
        exact ⟨this.1, by have := hX.1.1; omega, this.2⟩
      have mk1 : MK σ' 80 := exm_mk hX hM.1
      have hy := lq_ok (σ1 := σ') (G1 := G2) (G2 := G3) (J1 := J2) (m := 80) (d := 89) (i := 0) (j := 0) (C := fX9_load (some 0) (nI e) (wc σ G J)) (M := fun s5 => fX10_load (some 80) (nI e) s5) (g := fun n3 s2 => if n3 = 1 then some (.ok 1, s2, 0, 0) else if n3 = 2 then some (.ok 2, s2, 0, 0) else none) (y := r.2 3) hd mk1 ec e3 z3
      have wf := (ld_z mk1 hS2 (by omega) q).2
      have hA2 : AW (1, 0, nO) (0, I.2) r.2 (0, U.2) (fun _ => false, V.2) T := ⟨⟨Or.inr rfl, Nat.zero_le _, fun e => absurd e (by decide), Nat.zero_le _, hA.1.2.2.2.2⟩, fun _ => wf, fun k hk => absurd hk (Nat.not_lt_zero _), fun k _ h => by cases h⟩
      have c := exm_cap hX hn ck.2.2.2.2.2.1.2.2.2 ck.2.2.2.2.2.2.2.1
      refine ⟨σ', G3, upJ J2 89 0 (r.2 3).toInt64, 0, 0, hy, ⟨bs, b, 0, swP P 1, tx, (1, 0, nO), (0, I.2), r.2, (0, U.2), (fun _ => false, V.2), T, ?_, m3, hA2, exm_dk hX hn hD⟩, ?_, ?_, ?_⟩
      · exact cr_m hC2 hA2 (fun a ha => o3 a (by omega)) (fun a ha => upJ_a ha)
      · have := hX.1.2
        omega
      · omega
      · omega
end SC1
