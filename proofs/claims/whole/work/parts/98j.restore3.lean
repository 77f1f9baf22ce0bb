/-! THE PURE LEVEL, 68: case RESTORE -/
section RST3
variable {σ : HpT} {G : Nat → Nat → Int32} {J : Nat → Nat → Int64} {b bs ps tx k : Nat} {P : Nat → Option Nat} {E : tE} {I T : tI} {N : Nat → Int32} {U : tU} {V : tV}
theorem mr_restore (hM : MR σ G E I N U V T) (hk : k < 2) (hv : V.1 k = true) : MR σ (up (cw (up G 80 0 0) 81 (V.2 k)) 80 7 0) E I (V.2 k) (0, U.2) V T := by
  obtain ⟨mk, ⟨e1, e2, e3⟩, ⟨i1, i2⟩, -, -, hV, ⟨t1, t2⟩⟩ := hM
  have o : ∀ j, j ≠ 0 → j ≠ 7 → up (cw (up G 80 0 0) 81 (V.2 k)) 80 7 0 80 j = G 80 j := fun j h0 h7 => by rw [up_k h7, cw_b (by decide), up_k h0]
  have g : ∀ a, a ≠ 80 → a ≠ 81 → up (cw (up G 80 0 0) 81 (V.2 k)) 80 7 0 a = G a := fun a h1 h2 => by rw [up_a h1, cw_b h2, up_a h1]
  refine ⟨mk, ⟨by rw [o 6 (by decide) (by decide)]; exact e1, by rw [o 10 (by decide) (by decide)]; exact e2, by rw [o 11 (by decide) (by decide)]; exact e3⟩, ⟨by rw [o 9 (by decide) (by decide)]; exact i1, by rw [g 86 (by decide) (by decide)]; exact i2⟩, ⟨by rw [up_a (by decide), cw_a], ?_⟩, ⟨up_eq _ _ _ _, fun n hn => absurd hn (Nat.not_lt_zero n)⟩, by rw [g 85 (by decide) (by decide), g 84 (by decide) (by decide)]; exact hV, ⟨by rw [o 23 (by decide) (by decide)]; exact t1, by rw [g 88 (by decide) (by decide)]; exact t2⟩⟩
  rw [(hV k hk).2 hv]
  exact rwN_z _ _
/-- case 52: RESTORE -/
theorem sc52 (hC : CR σ G J b bs ps P tx E I N U V T) (hM : MR σ G E I N U V T) (hA : AW E I N U V T) (hD : DK σ) (hb : hN σ + 40 < BIG) {Lx : Nat} {xs : Nat → Int32} {v5 v : Int32} (h1 : sld Lx xs (v5 + 1) = some v) (v4 : Option Nat) : STEP σ (fL_c52 Lx xs (some 0) (some 80) (some 89) v4 v5 (wc σ G J)) := by
  have nk := cr_nk hC
  have ck := hC.1.1
  have hn := ck.1.1
  unfold fL_c52 fL_restore
  simp only [h1, bnP_1]
  cases z : inR v 0 1 with
  | false =>
    refine chg_err (r := .error 1) (t := 1) (i := 1) (j := 6) hC hM hA hD (qg_rf P G) ?_ (fun J' => ?_) ⟨by decide, rfl⟩ (by decide) (by decide)
    · unfold fX9_restore
      rw [nk_o nk, bnP_1, c_requireSlot, z]
      rfl
    · show fX10_restore (some 80) v (wi (wc σ G J') G) = _
      have mk' : MK (wc σ G J') 80 := hM.1
      unfold fX10_restore fX10_isSlot
      rw [mk_o mk', bnP_1, m_in, bnP_1, bnP_1, z, if_neg (by decide), bnP_1]
      dsimp only
      rw [show (0 : Int32) = bI false from rfl, m_mayTwo mk', bnS_1]
      rfl
  | true =>
    obtain ⟨k, rfl, hk⟩ := slot_t z
    cases hv : V.1 k with
    | false =>
      refine chg_err (r := .error 0) (t := 2) (i := 1) (j := 6) hC hM hA hD (qg_rf P G) ?_ (fun J' => ?_) ⟨by decide, rfl⟩ (by decide) (by decide)
      · have v1 := (hC.2.2.2.2.2.1 k hk).1
        rw [hv] at v1
        unfold fX9_restore
        rw [nk_o nk, bnP_1, c_requireSlot, z, if_pos rfl, bnXA_1, gR_c ck.1.2.1 ck.2.1.2.2.2.1, bnP_1, aI_c (z := 2) ck.2.2.2.1.2.2.2.2.1 (by omega) ck.2.2.2.1.2.2.2.2.2 hk (by decide), bnP_1, v1, if_pos (show bI false = 0 by decide)]
      · show fX10_restore (some 80) (nI k) (wi (wc σ G J') G) = _
        have mk' : MK (wc σ G J') 80 := hM.1
        have v1 := (hM.2.2.2.2.2.1 k hk).1
        rw [hv] at v1
        unfold fX10_restore fX10_isSlot
        rw [mk_o mk', bnP_1, m_in, bnP_1, bnP_1, z, if_pos rfl, mk_r5 mk', bnP_1, mk_a5 mk' hk, bnP_1, show G (80 + 5) k = bI false from v1, if_pos (show bI false = 0 by decide), bnP_1]
        dsimp only
        rw [show (0 : Int32) = bI false from rfl, m_mayTwo mk', bnS_1]
        rfl
    | true =>
      obtain ⟨σ', G2, J2, P', i, j, ec, hC2, hX, hi, hj⟩ := c_restore hC hA hb hk hv
      have m2 : MR σ' G2 E I N U V T := exm_mr hX hM
      have m3 := mr_restore m2 hk hv
      have hd : hK σ' 89 = 21 ∧ 89 < hN σ' ∧ hZ σ' 89 = 1 := by
        have := (exm_dk hX hn hD).1
        exact ⟨this.1, by have := hX.1.1; omega, this.2⟩
      obtain ⟨y, hy⟩ := lq_gen (σ1 := σ') (G1 := G2) (G2 := up (cw (up G2 80 0 0) 81 (V.2 k)) 80 7 0) (J1 := J2) (m := 80) (d := 89) (i := i) (j := j) (C := fX9_restore (some 0) (nI k) (wc σ G J)) (M := fun s5 => fX10_restore (some 80) (nI k) s5) (g := fun n3 s2 => if n3 = 1 then some (.ok 1, s2, 0, 0) else if n3 = 0 then some (.ok 2, s2, 0, 0) else none) (r := .ok (V.2 k 3)) (x := V.2 k 3) hd m2.1 ec (fun J' => by
        have m2' : MR (wc σ' G2 J') G2 E I N U V T := m2
        exact m_restore1 m2' hk hv) ⟨rfl, by rw [up_k (by decide), cw_b (by decide), up_eq]⟩
      have hA2 : AW E I (V.2 k) (0, U.2) V T := ⟨⟨hA.1.1, hA.1.2.1, fun _ => rfl, Nat.zero_le 8, hA.1.2.2.2.2⟩, fun _ => hA.2.2.2 k hk hv, fun n hn => absurd hn (Nat.not_lt_zero n), hA.2.2.2⟩
      have c := exm_cap hX hn hC.1.1.2.2.2.2.2.1.2.2.2 hC.1.1.2.2.2.2.2.2.2.1
      refine ⟨σ', _, upJ J2 89 0 y, i, j, hy, ⟨b, bs, 0, P', tx, E, I, V.2 k, (0, U.2), V, T, ?_, m3, hA2, exm_dk hX hn hD⟩, ?_, ?_, ?_⟩
      · exact cr_m hC2 hA2 (fun a ha => by rw [up_a (by omega), cw_b (by omega), up_a (by omega)]) (fun a ha => upJ_a ha)
      · have := hX.1.2
        omega
      · omega
      · omega
end RST3
