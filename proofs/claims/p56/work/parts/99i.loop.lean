/-! p56, pure: a round; all rounds -/
section P56I
variable {σ : HpT} {G G' : Nat → Nat → Int32} {J J' : Nat → Nat → Int64} {N N' : tN} {V : tV} {w z y a i k l c q n : Nat} {I : tI}
theorem cell_some {S : HpT} (hS : hN S ≤ BIG) (hn : n < 2 ^ 31) : ∃ v, fL_cell (some (BIG + 204)) (nI n) S = some v := by
  have k1 : hK S (BIG + 204) = 20 := by
    unfold hK
    rw [if_neg (show ¬ BIG + 204 < S.1 from by have e : hN S = S.1 := rfl; omega)]
    decide
  have el : aL S (some (BIG + 204)) 20 = some (Int32.ofNat (hZ S (BIG + 204))) := if_pos k1
  unfold fL_cell
  rw [el, bnP_1]
  by_cases y : Int32.ofNat (hZ S (BIG + 204)) ≤ nI n
  · rw [if_pos y]
    exact ⟨_, rfl⟩
  · rw [if_neg y]
    have hlt := Int32.lt_iff_toInt_lt.mp (Int32.not_le.mp y)
    rw [nI_toInt hn, Int32.toInt_ofNat', Int.bmod_def, show Int32.size = 4294967296 from rfl] at hlt
    have hin : inbB (nI n) (hZ S (BIG + 204)) = true := by
      unfold inbB
      rw [nI_toInt hn, decide_eq_true (show (0 : Int) ≤ (n : Int) by omega), decide_eq_true (show (n : Int) < (hZ S (BIG + 204) : Int) by
        split at hlt <;> omega)]
      rfl
    have ea : aI S (some (BIG + 204)) 20 (nI n) = some (hI S (BIG + 204) (nI n).toNatClampNeg) := if_pos ⟨k1, hin⟩
    rw [ea, bnP_1]
    exact ⟨_, rfl⟩
theorem rem_7 (x : Int32) {d : Nat} (h0 : 0 < d) (hd : d < 2 ^ 31) : ∃ l, (x &&& 7) - (x &&& 7) / nI d * nI d = nI l ∧ l < d := by
  obtain ⟨j, hj, e⟩ := pk_andE x (m := 7) 3 (by decide)
  rw [e, pk_rem (by omega) h0 hd]
  exact ⟨_, rfl, Nat.mod_lt _ h0⟩
theorem rem_3 (x : Int32) : ∃ l, (x &&& 3) - (x &&& 3) / 3 * 3 = nI l ∧ l < 3 := by
  obtain ⟨j, hj, e⟩ := pk_andE x (m := 3) 2 (by decide)
  rw [e, show nI j - nI j / 3 * 3 = nI (j % 3) from pk_rem (d := 3) (by omega) (by decide) (by decide)]
  exact ⟨_, rfl, Nat.mod_lt _ (by decide)⟩
theorem rd_step (h : LST σ G J N V w z I) (hI : I.1 = 0) (hq : QN q N) (hq18 : q < 18) (hb : hN σ + 300 < BIG) : ∃ σ' G' J' N' V' I' i j, fL_law_l1 (some 0) (some 80) (some w) (some z) (nI q) (wc σ G J) = some (.ok (.inl (nI (q + 1))), wc σ' G' J', i, j) ∧ LST σ' G' J' N' V' w z I' ∧ I'.1 = 0 ∧ QN (q + 1) N' ∧ hN σ' ≤ hN σ + 210 ∧ i ≤ 210 ∧ j ≤ 15000 := by
  have hw := hq.1
  have n2 := hq.2.1
  have hbN := w1_b hw.1
  have h12 := nlv_12 hw.1
  have h1lt : 1 < nAc N := by omega
  have hm := w2_b hw.2.1 h1lt
  have hle := act_le hw.1 hw.2.1 h1lt
  obtain ⟨-, -, hne⟩ := ls_ar h
  have hlv : 0 < nLv N := by
    have := lv_all hw.1
    rcases Nat.eq_zero_or_pos (nLv N) with e | e
    · rw [e, Nat.zero_mul] at this
      omega
    · exact e
  obtain ⟨v, ev⟩ := cell_some (S := wc σ G J) (n := 10 + q) (by show hN σ ≤ BIG; omega) (by omega)
  obtain ⟨i, ei, hi⟩ : ∃ i, (if opN N = 0 then some (0 : Int32) else bnP (exO (fX9_act (some 0) (opN N) 4 (wc σ G J))) (fun x93 => bnP (nz x93) (fun _ => some (((Int32.toUInt32 v >>> (Int32.toUInt32 5 &&& Int32.toUInt32 31)).toInt32 &&& 7) - ((Int32.toUInt32 v >>> (Int32.toUInt32 5 &&& Int32.toUInt32 31)).toInt32 &&& 7) / x93 * x93)))) = some (nI i) ∧ (isO N → i < aM N 1) := by
    rcases opN_2 hq with ⟨qo, eo⟩ | ⟨qo, eo⟩
    · obtain ⟨i, e, hi⟩ := rem_7 ((Int32.toUInt32 v >>> (Int32.toUInt32 5 &&& Int32.toUInt32 31)).toInt32) (d := aM N 1) (by omega) (by omega)
      refine ⟨i, ?_, fun _ => hi⟩
      rw [eo, if_neg (show ¬ nI 2 = 0 by decide), show fX9_act (some 0) (nI 2) 4 (wc σ G J) = _ from lq_act h (a := 1) h1lt 4 (by decide), exO_1, bnP_1, show actW N 1 4 = nI (aM N 1) from rfl, show nz (nI (aM N 1)) = some () from if_neg (nI_ne0 (by omega) (by omega)), bnP_1, e]
    · refine ⟨0, ?_, fun q => absurd q qo⟩
      rw [eo, if_pos (show nI 0 = 0 from rfl)]
      rfl
  obtain ⟨l, el, hl⟩ := rem_7 ((Int32.toUInt32 v >>> (Int32.toUInt32 8 &&& Int32.toUInt32 31)).toInt32) hlv (by omega)
  obtain ⟨a, ea, ha⟩ := rem_7 ((Int32.toUInt32 v >>> (Int32.toUInt32 11 &&& Int32.toUInt32 31)).toInt32) (d := 2) (by decide) (by decide)
  obtain ⟨gr, eg, hgr⟩ := rem_3 ((Int32.toUInt32 v >>> (Int32.toUInt32 14 &&& Int32.toUInt32 31)).toInt32)
  obtain ⟨k, hk, ek⟩ := pk_andE v (m := 1) 1 (by decide)
  have hk : k < 2 := hk
  have e1a : (1 : Int32) + nI a = nI (a + 1) := by rw [ix_a 1 a (a + 1) (by omega) 1 rfl]
  have s1 := ls_sees h (y := w) (Or.inl rfl)
  generalize hJ1 : cwJ J w (SEE N (fiL (J w) 100)) = J1 at s1
  have L1 : LST σ G J1 N V w z I := by rw [← hJ1]; exact ls_j h (Or.inl rfl) _
  have sn1 : SN J1 w N := by rw [← hJ1]; exact sn_see n2 _
  have w1' : J1 w = SEE N (fiL (J w) 100) := by rw [← hJ1, cwJ_a]
  obtain ⟨σ2, G2, J2, i2, j2, e2, L2, w2, z2, n2', c2, d2⟩ := ls_save L1 (by omega) hk
  have sn2 : SN J2 w N := by
    unfold SN
    rw [w2]
    exact sn1
  have g0 := gap0 hw n2 hq.2.2.1
  obtain ⟨σ3, G3, J3, N3, I3, i3, j3, e3, L3, hI3, q3, w3, z3, n3, c3, d3⟩ := cs_disp L2 hI hq hq18 sn2 (by omega) hi hl ha hgr ((Int32.toUInt32 v >>> (Int32.toUInt32 1 &&& Int32.toUInt32 31)).toInt32 &&& 15)
  have g3 := gap0 q3.1 q3.2.1 q3.2.2.1
  have e3N : N 3 = nI 2 := by rw [(w1_e hw.1).2.1, n2]
  have wv : (savV V k N).1 k = true := if_pos rfl
  have wn : (savV V k N).2 k = N := if_pos rfl
  unfold fL_law_l1
  rw [if_neg (show ¬ (18 : Int32) ≤ nI q from nI_ge (b := 18) hq18 (by decide)), ix_a 10 q (10 + q) rfl 10 rfl, ev, bnP_1, show fX9_count (some 0) 14 (wc σ G J) = _ from lq_count h 14 (by decide), exO_1, bnP_1, show cntQ N 14 = opN N from rfl, ei, bnP_1, show fX9_count (some 0) 5 (wc σ G J) = _ from lq_count h 5 (by decide), exO_1, bnP_1, show cntQ N 5 = nI (nLv N) from rfl, show nz (nI (nLv N)) = some () from if_neg (nI_ne0 hlv (by omega)), bnP_1, show fX9_count (some 0) 3 (wc σ G J) = _ from lq_count h 3 (by decide), exO_1, bnP_1, show cntQ N 3 = N 3 from rfl, e3N, show nz (nI 2) = some () from if_neg (by decide), bnP_1, s1, bnP_1, ek, e2, bnO_ok, show aJ (wc σ2 G2 J2) (some w) 3 = _ from aj_w L2 (n := 3) (by decide), bnP_1, sn2.1, if_pos ((lg_cmp_eq _ _).mpr rfl), bnP_1, lq_gap L2, exO_1, bnP_1, g0, if_pos rfl, bnP_1, lq_known L2, bnP_1, if_pos rfl, bnP_1, el, ea, eg, e1a, e3, bnO_ok, lq_gap L3, exO_1, bnP_1, g3, if_pos rfl, bnP_1, lq_known L3, bnP_1, if_pos rfl, bnP_1]
  by_cases y : ((Int32.toUInt32 v >>> (Int32.toUInt32 25 &&& Int32.toUInt32 31)).toInt32 &&& 3) = 0
  · obtain ⟨⟨σ4, G4, J4, i4, j4, e4, L4, w4, z4, n4, c4, d4⟩, hu⟩ := ls_restore L3 (by omega) hk wv
    have hu := hu _ _ _ e4
    rw [wn] at e4 L4
    have s5 := ls_sees L4 (y := z) (Or.inr rfl)
    generalize hJ5 : cwJ J4 z (SEE N (fiL (J4 z) 100)) = J5 at s5
    have L5 : LST σ4 G4 J5 N (savV V k N) w z I3 := by rw [← hJ5]; exact ls_j L4 (Or.inr rfl) _
    have ee : E100 (J5 w) (J5 z) := by
      rw [← hJ5, cwJ_a, cwJ_b hne, w4, w3, w2, w1']
      exact e_see hw.1 (e_fi _ _)
    rw [if_pos y, e4, bnO_ok, show aJ (wc σ4 G4 J4) (some w) 3 = _ from aj_w L4 (n := 3) (by decide), bnP_1, w4, w3, sn2.1, if_pos ((lg_cmp_eq _ _).mpr rfl), bnP_1, hu, bnP_1, if_pos rfl, bnP_1, s5, bnP_1, ls_eq L5 (by omega) ee, bnP_1, if_pos rfl, nI_a1]
    exact ⟨σ4, G4, J5, N, savV V k N, I3, _, _, rfl, L5, hI3, qn_up hq, by omega, by omega, by omega⟩
  · rw [if_neg y, nI_a1]
    exact ⟨σ3, G3, J3, N3, savV V k N, I3, _, _, rfl, L3, hI3, q3, by omega, by omega, by omega⟩
theorem rd_all : ∀ (m F q : Nat) (σ : HpT) (G : Nat → Nat → Int32) (J : Nat → Nat → Int64) (N : tN) (V : tV) (I : tI), q + m = 18 → m < F → LST σ G J N V w z I → I.1 = 0 → QN q N → hN σ + 210 * m + 300 < BIG → ∃ σ' G' J' N' V' I' i j, lpA (fL_law_l1 (some 0) (some 80) (some w) (some z)) F (nI q) (wc σ G J) = some (.ok (), wc σ' G' J', i, j) ∧ LST σ' G' J' N' V' w z I' ∧ QN 18 N' ∧ i ≤ 210 * m ∧ j ≤ 15000 * m := by
  intro m
  induction m with
  | zero =>
    intro F q σ G J N V I hm hF h hI hq hb
    obtain ⟨F, rfl⟩ : ∃ F', F = F' + 1 := ⟨F - 1, by omega⟩
    obtain rfl : q = 18 := by omega
    refine ⟨σ, G, J, N, V, I, 0, 0, lpA_e F ?_, h, hq, by omega, by omega⟩
    unfold fL_law_l1
    rw [if_pos (show (18 : Int32) ≤ nI 18 by decide)]
  | succ m ih =>
    intro F q σ G J N V I hm hF h hI hq hb
    obtain ⟨F, rfl⟩ : ∃ F', F = F' + 1 := ⟨F - 1, by omega⟩
    obtain ⟨σ1, G1, J1, N1, V1, I1, i1, j1, e1, L1, hI1, q1, n1, c1, d1⟩ := rd_step h hI hq (by omega) (by omega)
    obtain ⟨σ2, G2, J2, N2, V2, I2, i2, j2, e2, L2, q2, c2, d2⟩ := ih F (q + 1) σ1 G1 J1 N1 V1 I1 (by omega) (by omega) L1 hI1 q1 (by omega)
    refine ⟨σ2, G2, J2, N2, V2, I2, i1 + i2, j1 + j2, ?_, L2, q2, by omega, by omega⟩
    rw [lpA_ok F e1, e2]
    rfl
end P56I
