/-! THE PURE LEVEL, 65: case SAVE -/
section SAV3
variable {σ : HpT} {G : Nat → Nat → Int32} {J : Nat → Nat → Int64} {b bs ps tx : Nat} {P : Nat → Option Nat} {E : tE} {I T : tI} {N : Nat → Int32} {U : tU} {V : tV}
theorem slot_t {v : Int32} (h : inR v 0 1 = true) : ∃ k, v = nI k ∧ k < 2 := by
  unfold inR at h
  rw [Bool.and_eq_true] at h
  have h0 : ¬ v < 0 := Int32.not_lt.mpr (of_decide_eq_true h.1)
  obtain ⟨i, hi, rfl⟩ := nI_of h0
  refine ⟨i, rfl, ?_⟩
  rcases Nat.lt_or_ge i 2 with z | z
  · exact z
  · exact absurd (of_decide_eq_true h.2) (nI_ge (a := 1) (by omega) hi)
/-- case 51: SAVE -/
theorem sc51 (hC : CR σ G J b bs ps P tx E I N U V T) (hM : MR σ G E I N U V T) (hA : AW E I N U V T) (hD : DK σ) (hb : hN σ + 40 < BIG) {Lx : Nat} {xs : Nat → Int32} {v5 v : Int32} (h1 : sld Lx xs (v5 + 1) = some v) (v4 : Option Nat) : STEP σ (fL_c51 Lx xs (some 0) (some 80) (some 89) v4 v5 (wc σ G J)) := by
  have lo := lo_of hC hM hA hD
  have e4 := hC.2.1.1
  have hn := hC.1.1.1.1
  unfold fL_c51 fL_save
  simp only [h1, bnP_1]
  by_cases qE : E.1 = 0
  · refine chg_err (r := .error 0) (t := 1) (i := 1) (j := 6) hC hM hA hD (qg_rf P G) ?_ (fun J' => ?_) ⟨by decide, rfl⟩ (by decide) (by decide)
    · unfold fX9_save
      rw [nk_o lo.1, bnP_1, c_requireBook lo.1, if_pos (by rw [e4]; exact qE), bnXA_e]
    · have hM' : MR (wc σ G J') G E I N U V T := hM
      have := m_save0 hM' hA v (by rw [decide_eq_false (fun e => e qE), Bool.false_and])
      rw [decide_eq_false (fun e => e qE)] at this
      exact this
  · cases z : inR v 0 1 with
    | false =>
      refine chg_err (r := .error 1) (t := 2) (i := 1) (j := 6) hC hM hA hD (qg_rf P G) ?_ (fun J' => ?_) ⟨by decide, rfl⟩ (by decide) (by decide)
      · unfold fX9_save
        rw [nk_o lo.1, bnP_1, c_requireBook lo.1, if_neg (by rw [e4]; exact qE), bnXA_1, c_requireSlot, z]
        rfl
      · have hM' : MR (wc σ G J') G E I N U V T := hM
        have := m_save0 hM' hA v (by rw [z, Bool.and_false])
        rw [decide_eq_true qE, z] at this
        exact this
    | true =>
      obtain ⟨k, rfl, hk⟩ := slot_t z
      obtain ⟨σ', G2, J2, P', i, j, ec, hC2, hX, hi, hj⟩ := c_save hC hA qE hb hk
      have m2 : MR σ' G2 E I N U V T := exm_mr hX hM
      have m3 := mr_save m2 hk
      have hd : hK σ' 89 = 21 ∧ 89 < hN σ' ∧ hZ σ' 89 = 1 := by
        have := (exm_dk hX hn hD).1
        exact ⟨this.1, by have := hX.1.1; omega, this.2⟩
      obtain ⟨y, hy⟩ := lq_gen (σ1 := σ') (G1 := G2) (G2 := up (cw (up G2 80 0 0) 84 (savF N k (G2 84))) 85 k 1) (J1 := J2) (m := 80) (d := 89) (i := i) (j := j) (C := fX9_save (some 0) (nI k) (wc σ G J)) (M := fun s5 => fX10_save (some 80) (nI k) s5) (g := fun n3 s2 => if n3 = 0 then some (.ok 1, s2, 0, 0) else if n3 = 1 then some (.ok 2, s2, 0, 0) else none) (r := .ok (N 3)) (x := N 3) hd m2.1 ec (fun J' => by
        have m2' : MR (wc σ' G2 J') G2 E I N U V T := m2
        exact m_save1 m2' hA qE hk) ⟨rfl, by rw [up_a (by decide), cw_b (by decide), up_eq]⟩
      have hA2 : AW E I N U (savV V k N) T := ⟨hA.1, hA.2.1, hA.2.2.1, fun n hn e => by
        show WFN (if n = k then N else V.2 n)
        by_cases q : n = k
        · rw [if_pos q]
          exact hA.2.1 qE
        · rw [if_neg q]
          refine hA.2.2.2 n hn ?_
          have e2 : (if n = k then true else V.1 n) = true := e
          rw [if_neg q] at e2
          exact e2⟩
      have c := exm_cap hX hn hC.1.1.2.2.2.2.2.1.2.2.2 hC.1.1.2.2.2.2.2.2.2.1
      refine ⟨σ', _, upJ J2 89 0 y, i, j, hy, ⟨b, bs, ps, P', tx, E, I, N, U, savV V k N, T, ?_, m3, hA2, exm_dk hX hn hD⟩, ?_, ?_, ?_⟩
      · exact cr_m hC2 hA2 (fun a ha => by rw [up_a (by omega), cw_b (by omega), up_a (by omega)]) (fun a ha => upJ_a ha)
      · have := hX.1.2
        omega
      · omega
      · omega
end SAV3
