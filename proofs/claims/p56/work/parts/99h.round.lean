/-! p56, pure: interlining, a round, all rounds -/
section P56H
variable {σ : HpT} {G G' : Nat → Nat → Int32} {J J' : Nat → Nat → Int64} {N N' : tN} {V : tV} {w z y a i k l c q n : Nat} {I : tI}
theorem ls_inter (h : LST σ G J N V w z I) (hb : hN σ + 40 < BIG) (qo : isO N) (hi : i < aM N (nAc N - 1)) (h4 : wN' N (opW N i) < 4) (hn : n ≤ I.1) (hz : iwB (G 1) n = true) : ∃ lo hi', OPR (fX9_interline (some 0) (nI i) (nI n) (wc σ G J)) (stN (intN N (opW N i) lo hi') (aF N (nAc N - 1)) (aM N (nAc N - 1))) σ J (intN N (opW N i) lo hi') V w z (0, I.2) := by
  have hw := ls_w h
  have hbb := w1_b hw.1
  have ha : nAc N - 1 < nAc N := by have := qo.1; omega
  have hle := act_le hw.1 hw.2.1 ha
  have hm := w2_b hw.2.1 ha
  have hg : opW N i < nWd N := by unfold opW; omega
  have wd := iw_wd (f := G 1) (n := n) hz
  obtain ⟨lo, hlo⟩ : ∃ lo, lo = nI (enL5 (lf (G 1)) n).1 := ⟨_, rfl⟩
  obtain ⟨hi', hhi⟩ : ∃ lo, lo = nI (enL5 (lf (G 1)) n).2 := ⟨_, rfl⟩
  rw [← hlo, ← hhi] at wd
  have wf := int_wf (lo := lo) (hi := hi') hw hg h4
  have s := int_s (lo := lo) (hi := hi') hw hg h4
  have sn := sm_n s
  have ea := sm_a s ha
  have q2 : isO (intN N (opW N i) lo hi') := by
    refine ⟨by rw [sn.2.1]; exact qo.1, ?_⟩
    rw [sn.2.1, int_o (by omega) (by omega) (by omega) (by omega)]
    exact qo.2
  obtain ⟨b0, bs, ps, P, tx, E, U, T, hC, hA, hE, -⟩ := id h
  have qE : E.1 ≠ 0 := by rw [hE]; decide
  have h600 := hA.1.2.1
  have nk0 := cr_nk hC
  have e40 : ¬ G 0 4 = 0 := by rw [hC.2.1.1]; exact qE
  have hci : ciB N (nI i) = true := by
    unfold ciB askB
    rw [strQ_1 hw qo hi, nI_clamp (by omega), decide_eq_true h4]
    cases skN N (opW N i) <;> rfl
  have ec : fX9_interline (some 0) (nI i) (nI n) (wc σ G J) = bnA (fX9_remember (some 0) (wc σ G J)) (fun x11 s13 => bnP (pI s13 (some 0) 9 1 0) (fun s20 => bnP (gR s20 (some 0) 9 5) (fun x21 => bnP (fX1_insertWord x21 (nI i) (i64W (G 1) n) s20) (fun s25 => bnP (gR s25 (some 0) 9 5) (fun x26 => bnP (fX1_openStanding x26 s25) (fun x28 => some (.ok x28, s25, 0, 0))))))) := by
    unfold fX9_interline
    rw [nk_o nk0, bnP_1, c_requireBook nk0, if_neg e40, bnXA_1, c_requireBytes hC hA, inR_y (Nat.zero_le n) hn (by omega), if_pos rfl, bnXA_1, c_inputWord hC G J (by omega), bnP_1, if_neg (fun q => wd_ne0 wd ((lg_cmp_eq _ _).mp q)), nk_b nk0, bnP_1, c_canInsert (nk_B nk0) hw (hC.2.2.2.1 qE), hci, bnP_1]
    rfl
  refine ⟨lo, hi', ?_⟩
  refine chgL true h hb wf fun b σ' G' J' ii jj nk r e4 eR nk' r' hP hb0 => ?_
  have r1 : RB (up G' 0 1 0) J' b N := rb_cong hw.1 (fun a h1 _ _ _ _ _ => up_a (by omega)) (fun _ _ _ => rfl) r'
  obtain ⟨G2, J2, e2, g2, j2, rb2⟩ := c_insertWord (nk_B nk') hw r1 qo hi h4 wd
  refine ⟨G2, J2, ?_, fun a ha => by rw [g2 a ha]; rfl, j2, rb2⟩
  rw [ec, eR, bnA_ok, hP, bnP_1, nk_b nk', bnP_1, e2, bnP_1, nk_b nk', bnP_1, c_openStanding (nk_B nk') wf rb2 q2, bnP_1, addC_1, sn.2.1, ea.1, ea.2.1]
  rfl
/-- the word in: what is told -/
def inC (k : Nat) : Int32 := if k = 0 then nI 105 else if k = 1 then nI 110 else 32
theorem in_8 : by8 inC := fun k => by
  unfold inC
  split
  · exact ⟨105, by decide, rfl⟩
  · split
    · exact ⟨110, by decide, rfl⟩
    · exact ⟨32, by decide, rfl⟩
theorem in_w {f : Nat → Int32} (h0 : f 0 = nI 105) (h1 : f 1 = nI 110) : iwB f 2 = true := by
  unfold iwB
  rw [Bool.and_eq_true]
  refine ⟨none_iff.mpr fun k hk => ?_, by decide⟩
  have hk2 : k = 0 ∨ k = 1 := by omega
  rcases hk2 with rfl | rfl
  · rw [h0]
    decide
  · rw [h1]
    decide
theorem cs_inter (h : LST σ G J N V w z I) (hI : I.1 = 0) (hq : QN q N) (s : SN J w N) (hb : hN σ + 200 < BIG) (hi : isO N → i < aM N 1) (v12 v13 v14 : Int32) : CSR (fL_inter (some 0) (some 80) (some w) (opN N) (nI i) v12 v13 v14 (wc σ G J)) σ J q V w z := by
  have hw := hq.1
  have n2 := hq.2.1
  have hbN := w1_b hw.1
  have h1lt : 1 < nAc N := by omega
  have hle := act_le hw.1 hw.2.1 h1lt
  unfold fL_inter
  rcases opN_2 hq with ⟨qo, eo⟩ | ⟨qo, eo⟩
  · have hi := hi qo
    have eW : opW N i = aF N 1 + i := by
      unfold opW
      rw [n2]
    have hg : aF N 1 + i < nWd N := by omega
    obtain ⟨x1, x2⟩ := (hw.2.2.2.1 (aF N 1 + i) hg).1
    have x2 : wN' N (aF N 1 + i) < 5 := x2
    rw [eo, if_neg (show ¬ nI 2 ≤ 0 by decide), show fX9_word (some 0) (nI 2) (nI i) 3 (wc σ G J) = _ from lq_word h (a := 1) h1lt hi 3 (by decide), exO_1, bnP_1, show wrdW N 1 (aF N 1 + i) 3 = nI (wN' N (aF N 1 + i)) from x1]
    by_cases y : 4 ≤ wN' N (aF N 1 + i)
    · rw [if_pos (show (4 : Int32) ≤ nI (wN' N (aF N 1 + i)) from nI_le (a := 4) y (by omega))]
      exact cs_id h hI hq
    · rw [if_neg (show ¬ (4 : Int32) ≤ nI (wN' N (aF N 1 + i)) from nI_ge (b := 4) (by omega) (by decide))]
      obtain ⟨b0, bs, ps, P, tx, E, U, T, hC, hA, hE, mm, aw, az, hne⟩ := id h
      obtain ⟨i1, i2⟩ := I
      have hI : i1 = 0 := hI
      subst hI
      have st : ∀ G2, hN (wc σ G2 J) ≤ BIG := fun G2 => by show hN σ ≤ BIG; omega
      have ln : (byS 46).length = 2 := by decide
      obtain ⟨G1, f, e, e1, hC1, hA1, he, hf, g5, g6, fr⟩ := c_told (x := BIG + 46) (n := 2) (c := inC) (G0 := G) in_8 (by decide) (fun k hk => by
        unfold inC
        rw [if_neg (by omega), if_neg (by omega)]) (fun G2 _ => by
        rw [st_len (st G2) (j := 46) (by decide), ln]) (fun G2 _ k hk => by
        have hk2 : k = 0 ∨ k = 1 := by omega
        rcases hk2 with rfl | rfl
        · exact st_chr (st G2) (j := 46) (d := 105) (by decide) (by decide) (by decide) (by decide)
        · exact st_chr (st G2) (j := 46) (d := 110) (by decide) (by decide) (by decide) (by decide)) (show PI σ G J b0 bs ps tx P E N U V T inC 0 G from ⟨i2, G 80, hC, hA, ⟨mm.1, mm.2.1⟩, fun j hj => absurd hj (Nat.not_lt_zero _), ⟨fun _ _ => rfl, mm.2.2.1, mm.2.2.2⟩, fun _ _ _ _ => rfl⟩)
      have L1 : LST σ G1 J N V w z (e, f) := ⟨b0, bs, ps, P, tx, E, U, T, hC1, hA1, hE, ⟨mm.1, mm.2.1, g5, g6⟩, aw, az, hne⟩
      have g1 : ∀ k, k < e → G1 1 k = inC k := fun k hk => (hC1.2.2.1.2 k hk).trans (hf k hk)
      obtain ⟨lo, hi', σ2, G2, J2, i2', j2, e2, L2, w2, z2, n2', c2, d2⟩ := ls_inter L1 (by omega) qo (i := i) (n := 2) (by rw [n2]; exact hi) (by rw [eW]; omega) he (in_w (g1 0 (by omega)) (g1 1 (by omega)))
      have h4 : wN' N (opW N i) < 4 := by rw [eW]; omega
      have hg' : opW N i < nWd N := by rw [eW]; exact hg
      have wf := int_wf (lo := lo) (hi := hi') hw hg' h4
      have si := int_s (lo := lo) (hi := hi') hw hg' h4
      have sn := sm_n si
      have sa := sm_a si h1lt
      have o : ∀ j, j ≠ 21 → j < 127 → intN N (opW N i) lo hi' j = N j := fun j h1 h2 => int_o (by omega) (by omega) (by omega) (by omega)
      have m : intN N (opW N i) lo hi' 21 = N 21 + 1 := by
        unfold intN
        rw [if_neg (by omega), if_neg (by omega), if_neg (by omega), if_pos (by omega)]
      have qn : QN (q + 1) (intN N (opW N i) lo hi') := qn_mk hq wf (fun j hj => o j (by omega) (by omega)) (Or.inl (o 19 (by decide) (by decide))) (Or.inr m)
      have et : (stN (intN N (opW N i) lo hi') 0 (nWd N)).toInt64 = (stN N 0 (nWd N)).toInt64 + 1 := by
        rw [st_int hw hg' h4 (Nat.zero_le _) (by omega)]
        obtain ⟨s1, y1, y2⟩ := stn_n hw (f := 0) (n := nWd N) (by omega)
        rw [y1, nI_a1, j_1 (by omega)]
      rw [e1, bnS_1, e2, bnO_ok, show fX9_act (some 0) (nI 2) 5 (wc σ2 G2 J2) = _ from lq_act L2 (a := 1) (by rw [sn.2.1]; omega) 5 (by decide), exO_1, bnP_1, show actW (intN N (opW N i) lo hi') 1 5 = stN (intN N (opW N i) lo hi') (aF (intN N (opW N i) lo hi') 1) (aM (intN N (opW N i) lo hi') 1) from rfl, sa.1, sa.2.1, if_pos (show stN (intN N (opW N i) lo hi') (aF N (nAc N - 1)) (aM N (nAc N - 1)) = _ by rw [n2]), bnP_1, show fX9_count (some 0) 11 (wc σ2 G2 J2) = _ from lq_count L2 11 (by decide), exO_1, bnP_1, show aJ (wc σ2 G2 J2) (some w) 11 = _ from aj_w L2 (n := 11) (by decide), bnP_1, w2, s.2.2.1, show cntQ (intN N (opW N i) lo hi') 11 = stN (intN N (opW N i) lo hi') 0 (nWd (intN N (opW N i) lo hi')) from rfl, sn.2.2.1, if_pos ((lg_cmp_eq _ _).mpr et)]
      exact ⟨σ2, G2, J2, _, _, _, _, rfl, L2, rfl, qn, w2, z2, by omega, by omega, by omega⟩
  · rw [eo, if_pos (show nI 0 ≤ 0 by decide)]
    exact cs_id h hI hq
theorem cs_disp (h : LST σ G J N V w z I) (hI : I.1 = 0) (hq : QN q N) (hq18 : q < 18) (s : SN J w N) (hb : hN σ + 200 < BIG) (hi : isO N → i < aM N 1) (hl : l < nLv N) {a gr : Nat} (ha : a < 2) (hgr : gr < 3) (v : Int32) : CSR (fL_disp (some 0) (some 80) (some w) (opN N) (nI i) (nI l) (nI (a + 1)) (nI gr) v (wc σ G J)) σ J q V w z := by
  unfold fL_disp
  repeat' split
  all_goals first
    | exact cs_clause h hI hq s hb hi _ _ _
    | exact cs_inter h hI hq s hb hi _ _ _
    | exact cs_strike h hI hq hq18 s hb _ _ _ _
    | exact cs_seal h hI hq hq18 s hb _ _ _ _
    | exact cs_copy h hI hq s hq18 hb ha hgr _ _ _
    | exact cs_lose h hI hq s hb hl _ _ _ _
    | exact cs_find h hI hq hb hl _ _ _ _
    | exact cs_shake h hI hq hb _ _ _ _ _
    | exact cs_cancel h hI hq s hb _ _ _ _
end P56H
