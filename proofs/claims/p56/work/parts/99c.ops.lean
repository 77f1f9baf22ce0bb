/-! p56, pure: the changes -/
/-- a call goes well: its answer, the row and the slots behind it -/
def OPR {α : Type} (o : AT α) (x : α) (σ : HpT) (J : Nat → Nat → Int64) (N' : tN) (V' : tV) (w z : Nat) (I' : tI) : Prop :=
  ∃ σ' G' J' i j, o = some (.ok x, wc σ' G' J', i, j) ∧ LST σ' G' J' N' V' w z I' ∧ J' w = J w ∧ J' z = J z ∧ hN σ' ≤ hN σ + 33 ∧ i ≤ 33 ∧ j ≤ 2354
theorem inG_a {cl : Bool} {G : Nat → Nat → Int32} {a k c : Nat} (h : c ≠ a) : inG cl G a k c = G c := by
  unfold inG
  cases cl
  · rw [if_neg (by decide)]
  · rw [if_pos rfl, up_a h]
theorem inI_le {I : tI} (cl : Bool) (h : I.1 ≤ 600) : (inI cl I).1 ≤ 600 := by
  unfold inI
  cases cl
  · rw [if_neg (by decide)]
    exact h
  · rw [if_pos rfl]
    exact Nat.zero_le _
section P56C
variable {σ : HpT} {G G' : Nat → Nat → Int32} {J J' : Nat → Nat → Int64} {N N' : tN} {V : tV} {w z a i k l c : Nat} {I : tI} {b bs ps tx : Nat} {P : Nat → Option Nat} {E : tE} {T : tI} {U : tU}
theorem ls_c (h : LST σ G J N V w z I) (V' : tV) {σ' : HpT} {G' : Nat → Nat → Int32} {J' : Nat → Nat → Int64} {b bs ps tx : Nat} {P : Nat → Option Nat} {E : tE} {T : tI} {U : tU} {i j : Nat} {α : Type} {o : AT α} {x : α} (e : o = some (.ok x, wc σ' G' J', i, j)) (hC : CR σ' G' J' b bs ps P tx E I N' U V' T) (hA : AW E I N' U V' T) (hE : E.1 = 1) (hX : EXM σ σ' G G' J J') (hW : WX σ J J') (hi : i ≤ 33) (hj : j ≤ 2354) : OPR o x σ J N' V' w z I := by
  obtain ⟨b0, bs0, ps0, P0, tx0, E0, U0, T0, hC0, -, -, mm, aw, az, hne⟩ := h
  have hn := hC0.1.1.1.1
  have ar : ∀ a, AR σ a → AR σ' a ∧ J' a = J a := fun a q => by
    have k1 := hX.2.1 a q.2.2.2
    exact ⟨⟨by rw [k1.1]; exact q.1, by rw [k1.2.1]; exact q.2.1, q.2.2.1, by have := hX.1.1; have := q.2.2.2; omega⟩, hW a q.2.2.2 q.1 q.2.1⟩
  refine ⟨σ', G', J', i, j, e, ⟨b, bs, ps, P, tx, E, U, T, hC, hA, hE, ⟨?_, ?_, ?_, ?_⟩, (ar w aw).1, (ar z az).1, hne⟩, (ar w aw).2, (ar z az).2, hX.1.2, hi, hj⟩
  · rw [(hX.2.1 80 (by omega)).1]
    exact mm.1
  · rw [(hX.2.1 80 (by omega)).2.1]
    exact mm.2.1
  · rw [(hX.2.2 80 (by decide) (by decide)).1]
    exact mm.2.2.1
  · rw [(hX.2.2 80 (by decide) (by decide)).1]
    exact mm.2.2.2
theorem ls_save (h : LST σ G J N V w z I) (hb : hN σ + 40 < BIG) (hk : k < 2) : OPR (fX9_save (some 0) (nI k) (wc σ G J)) (N 3) σ J N (savV V k N) w z I := by
  have hw := ls_w h
  obtain ⟨b, bs, ps, P, tx, E, U, T, hC, hA, hE, -⟩ := id h
  have qE : E.1 ≠ 0 := by rw [hE]; decide
  obtain ⟨σ', G', J', P', i, j, e, hC', hX, hi, hj, hW⟩ := c_save hC hA qE hb hk
  refine ls_c h (savV V k N) e hC' ⟨hA.1, hA.2.1, hA.2.2.1, fun n hn q => ?_⟩ hE hX hW hi hj
  show WFN (if n = k then N else V.2 n)
  by_cases y : n = k
  · rw [if_pos y]
    exact hw
  · rw [if_neg y]
    refine hA.2.2.2 n hn ?_
    have q' : (if n = k then true else V.1 n) = true := q
    rw [if_neg y] at q'
    exact q'
theorem ls_restore (h : LST σ G J N V w z I) (hb : hN σ + 40 < BIG) (hk : k < 2) (hv : V.1 k = true) : OPR (fX9_restore (some 0) (nI k) (wc σ G J)) (V.2 k 3) σ J (V.2 k) V w z I ∧ ∀ S i j, fX9_restore (some 0) (nI k) (wc σ G J) = some (.ok (V.2 k 3), S, i, j) → fX9_undoable (some 0) S = some 0 := by
  obtain ⟨b, bs, ps, P, tx, E, U, T, hC, hA, hE, -⟩ := id h
  obtain ⟨σ', G', J', P', i, j, e, hC', hX, hi, hj, hW⟩ := c_restore hC hA hb hk hv
  refine ⟨ls_c h V e hC' ⟨⟨hA.1.1, hA.1.2.1, fun _ => rfl, Nat.zero_le _, hA.1.2.2.2.2⟩, fun _ => hA.2.2.2 k hk hv, fun n hn => absurd hn (Nat.not_lt_zero _), hA.2.2.2⟩ hE hX hW hi hj, fun S i2 j2 e2 => ?_⟩
  rw [e] at e2
  cases e2
  unfold fX9_undoable
  rw [cr_o hC', bnP_1, cr_I hC', bnP_1, hC'.2.2.2.2.1.1]
  rfl
/-- a change of the Book in use -/
theorem chgL {C : AT Int32} {x : Int32} (cl : Bool) (h : LST σ G J N V w z I) (hb : hN σ + 40 < BIG) (hw : WFN N')
    (h1 : ∀ b σ' G' J' i j, NK σ 0 b → RB G J b N → G 0 4 ≠ 0 → fX9_remember (some 0) (wc σ G J) = some (.ok (), wc σ' G' J', i, j) → NK σ' 0 b → RB G' J' b N → (∀ X Y k y, pI (wc σ' X Y) (some 0) 9 k y = some (wc σ' (up X 0 k y) Y)) → (b = 2 ∨ b = 35 ∨ 91 ≤ b) → ∃ G2 J2, C = some (.ok x, wc σ' G2 J2, i, j) ∧ (∀ a, a < b ∨ b + 33 ≤ a → G2 a = inG cl G' 0 1 a) ∧ (∀ a, a < b ∨ b + 33 ≤ a → J2 a = J' a) ∧ RB G2 J2 b N') : OPR C x σ J N' V w z (inI cl I) := by
  obtain ⟨b, bs, ps, P, tx, E, U, T, hC, hA, hE, mm, aw, az, hne⟩ := h
  have qE : E.1 ≠ 0 := by rw [hE]; decide
  obtain ⟨σ', G', J', ps', P', i, j, e1, hC', hX, hi, hj, hWX⟩ := c_remember hC hA qE hb
  have hbb := cr_b hC
  obtain ⟨G2, J2, eC, fG, fJ, rb⟩ := h1 b σ' G' J' i j (cr_nk hC) (hC.2.2.2.1 qE) (by rw [hC.2.1.1]; exact qE) e1 (cr_nk hC') (hC'.2.2.2.1 qE) (fun X Y k y => cr_P hC' X Y k y) hbb
  have hbk := (hC'.1.2.2.2.2.2.1 0 b (by decide) hC'.1.2.2.2.1).1
  have hn := hC.1.1.1.1
  have ar : ∀ a, AR σ a → AR σ' a ∧ J2 a = J a := fun a q => by
    have k1 := hX.2.1 a q.2.2.2
    have q1 : hK σ' a = 21 := by rw [k1.1]; exact q.1
    have q2 : hZ σ' a = 100 := by rw [k1.2.1]; exact q.2.1
    exact ⟨⟨q1, q2, q.2.2.1, by have := hX.1.1; have := q.2.2.2; omega⟩, (fJ a (bk_out hbk q1 q2)).trans (hWX a q.2.2.2 q.1 q.2.1)⟩
  have g80 : G2 80 = G 80 := by
    rw [fG 80 (by omega), inG_a (by decide), (hX.2.2 80 (by decide) (by decide)).1]
  have hA1 := aw_push hA qE
  have c1 := cr_cl cl hC' hA1
  have hA2 : AW E (inI cl I) N (pushU U N) V T := aw_in hA1 (inI_le cl hA.1.2.1)
  refine ⟨σ', G2, J2, i, j, eC, ⟨b, bs, ps', P', tx, E, pushU U N, T, cr_book c1 hA2 fG fJ (fun _ => rb), aw_now hA2 (fun _ => hw), hE, ⟨?_, ?_, ?_, ?_⟩, (ar w aw).1, (ar z az).1, hne⟩, (ar w aw).2, (ar z az).2, hX.1.2, hi, hj⟩
  · rw [(hX.2.1 80 (by omega)).1]
    exact mm.1
  · rw [(hX.2.1 80 (by omega)).2.1]
    exact mm.2.1
  · rw [g80]
    exact mm.2.2.1
  · rw [g80]
    exact mm.2.2.2
theorem inI_f (I : tI) : inI false I = I := rfl
theorem ls_strike (h : LST σ G J N V w z I) (hb : hN σ + 40 < BIG) {v : Int32} (y : strQ N v = 0) : OPR (fX9_strike (some 0) v (wc σ G J)) (stN (stkN N (opW N v.toNatClampNeg) 1) (aF N (nAc N - 1)) (aM N (nAc N - 1))) σ J (stkN N (opW N v.toNatClampNeg) 1) V w z I := by
  have hw := ls_w h
  obtain ⟨qo, i, rfl, hi, hs⟩ := strQ_t hw.1 hw.2.1 (Or.inl y)
  have ha : nAc N - 1 < nAc N := by have := qo.1; omega
  have hle := act_le hw.1 hw.2.1 ha
  have hof : opW N i + 1 ≤ nWd N := by unfold opW; omega
  have hbb := w1_b hw.1
  rw [nI_clamp (by omega)]
  have st := stk_st (f := opW N i) (n := 1) hw qo hof
  have wf := stk_wf (f := opW N i) (n := 1) hw hof
  refine chgL false h hb wf fun b σ' G' J' ii jj nk r e4 eR nk' r' _ hbb2 => ?_
  have B' := nk_B nk'
  have hG2 : RB (up (cw G' (b + 7) (stfG (opW N i) 1 (G' (b + 7)))) (b + 15 + (nAc N - 1)) 4 (G' (b + 15 + (nAc N - 1)) 4 + 1)) J' b (stkN N (opW N i) 1) := by
    refine stk_rb hw qo (by unfold opW; omega) (by unfold opW; omega) r' ?_ ?_ (fun a h1 h2 => ?_)
    · rw [up_a (by omega), cw_a]
    · rw [up_is, cw_a, cw_b (by omega)]
    · rw [up_a h2, cw_b h1]
  refine ⟨_, J', ?_, fun a ha => ?_, fun a _ => rfl, hG2⟩
  · unfold fX9_strike
    rw [nk_o nk, bnP_1, c_requireBook nk, if_neg e4, bnXA_1, nk_b nk, bnP_1, c_strikeReason (nk_B nk) hw r, bnP_1, if_pos y, eR, bnA_ok, nk_b nk', bnP_1, c_strikeWord B' hw r' qo hi, bnP_1, nk_b nk', bnP_1, c_openStanding B' wf hG2 st.1, bnP_1, addC_1, st.2.1, st.2.2.1, st.2.2.2]
    rfl
  · rw [up_a (by omega), cw_b (by omega)]
    rfl
theorem ls_clause (h : LST σ G J N V w z I) (hb : hN σ + 40 < BIG) (qo : isO N) (hi : i < aM N (nAc N - 1)) {p : Nat} (hp : wW N (opW N i) = p + 1) (hf : cF N p + (cT N p - cF N p + 1) ≤ nWd N) : OPR (fX9_strikeClause (some 0) (nI i) (wc σ G J)) (nI (cntN (fun k => skN N (cF N p + k)) (cT N p - cF N p + 1))) σ J (stkN N (cF N p) (cT N p - cF N p + 1)) V w z I := by
  have hw := ls_w h
  have wf := stk_wf (f := cF N p) (n := cT N p - cF N p + 1) hw hf
  obtain ⟨b0, nk0, hwr0, e40⟩ := ls_q h
  obtain ⟨f, ef, -⟩ := c_seekA1 (nk_B nk0) hw (hwr0 e40).2 qo hi hp
  have h0 : LST σ (cw G (b0 + 13) f) J N V w z I := ls_s h nk0 (fun a _ _ _ h13 _ => cw_b h13)
  have hbb0 : b0 = 2 ∨ b0 = 35 ∨ 91 ≤ b0 := by
    obtain ⟨b', bs, ps, P, tx, E, U, T, hC, -⟩ := id h
    have e1 := hC.1.2.1
    rw [nk0.2.2.1] at e1
    cases e1
    exact cr_b hC
  refine chgL false h0 hb wf fun b σ' G' J' ii jj nk r e4 eR nk' r' _ hbb2 => ?_
  obtain ⟨G2, e2, g2, rb2⟩ := c_strikeAround (nk_B nk') hw r' qo hi hp
  refine ⟨G2, J', ?_, fun a ha => by rw [g2 a ha]; rfl, fun a _ => rfl, rb2⟩
  unfold fX9_strikeClause
  rw [nk_o nk0, bnP_1, c_requireBook nk0, if_neg e40, bnXA_1, nk_b nk0, bnP_1, ef, bnS_1, if_pos rfl, eR, bnA_ok, nk_b nk', bnP_1, e2, bnS_1, addC_1]
  rfl
theorem ls_seal (h : LST σ G J N V w z I) (hb : hN σ + 40 < BIG) {v u : Int32} (hv : inR v 0 9 = true) (hu : inR u 0 99 = true) (y : sealQ N v u = 0) : OPR (fX9_seal (some 0) v u (wc σ G J)) (feQ N) σ J (sealN N 1 v (feQ N) (feQ N)) V w z I := by
  have hw := ls_w h
  have qo := sealQ_o y
  have wf := sl_wf (p := v) (fe := feQ N) (d := feQ N) hw qo (Or.inl rfl : (1 : Int32) = 1 ∨ (1 : Int32) = 2)
  refine chgL false h hb wf fun b σ' G' J' ii jj nk r e4 eR nk' r' _ hbb2 => ?_
  obtain ⟨G2, e2, g2, rb2⟩ := c_sealOpen (nk_B nk') hw r' qo v
  refine ⟨G2, J', ?_, fun a ha => by rw [g2 a ha]; rfl, fun a _ => rfl, rb2⟩
  unfold fX9_seal
  rw [nk_o nk, bnP_1, c_requireBook nk, if_neg e4, bnXA_1, c_requireUpTo, hv, if_pos rfl, bnXA_1, c_requireUpTo, hu, if_pos rfl, bnXA_1, nk_b nk, bnP_1, c_sealReason (nk_B nk) hw r, bnP_1, if_pos y, eR, bnA_ok, nk_b nk', bnP_1, e2, bnS_1, addC_1]
  rfl
theorem ls_cancel (h : LST σ G J N V w z I) (hb : hN σ + 40 < BIG) (qo : isO N) : OPR (fX9_cancel (some 0) (wc σ G J)) (N 3) σ J (sealN N 2 (N (11 + 9 * (nAc N - 1))) (N (13 + 9 * (nAc N - 1))) 0) V w z I := by
  have hw := ls_w h
  have hbN := w1_b hw.1
  have wf := sl_wf (p := N (11 + 9 * (nAc N - 1))) (fe := N (13 + 9 * (nAc N - 1))) (d := 0) hw qo (Or.inr rfl : (2 : Int32) = 1 ∨ (2 : Int32) = 2)
  refine chgL false h hb wf fun b σ' G' J' ii jj nk r e4 eR nk' r' _ hbb2 => ?_
  have B' := nk_B nk'
  have hr := rb_act r' (a := nAc N - 1) (by have := qo.1; omega)
  refine ⟨up G' (b + 15 + (nAc N - 1)) 2 2, J', ?_, fun a ha => ?_, fun a _ => rfl, sl_rb hw qo r' (fun k _ _ => by rw [up_a (by omega)]) (by rw [up_a (by omega), Int32.add_zero]) (fun k hk => up_k (by omega)) (up_eq _ _ _ _) ?_ ?_ (fun a _ h => up_a h)⟩
  · unfold fX9_cancel fX1_cancelOpen
    rw [nk_o nk, bnP_1, c_requireBook nk, if_neg e4, bnXA_1, nk_b nk, bnP_1, c_openAct1 (nk_B nk) hw.1 r qo, bnP_1, if_neg (fun e => by cases e), eR, bnA_ok, nk_b nk', bnP_1, bk_o B', bnP_1, c_openAct1 B' hw.1 r' qo, bnP_1, if_neg (fun e => by cases e), bk_aP B' (by omega), bnP_1, bnP_1, nk_b nk', bnP_1, bk_I B', bnP_1, up_a (by omega), r'.1.2.2.1, addC_1]
    rfl
  · rw [up_a (by omega)]
    rfl
  · rw [up_k (by decide), hr.2.2.2.1]
    congr 1
    omega
  · rw [up_k (by decide), hr.2.2.2.2.2.2.2]
    congr 1
    omega
theorem ls_copy (h : LST σ G J N V w z I) (hb : hN σ + 40 < BIG) (ha : a < nAc N) {gr : Nat} (hgr : gr < 3) (y : wcQ N a gr = 0) : OPR (fX9_addCopy (some 0) (nI (a + 1)) (nI gr) (wc σ G J)) (nI (nCp N)) σ J (adN N a gr) V w z I := by
  have hw := ls_w h
  have h8 := wcQ_8 hw y
  have wf := ad_wf hw h8 ha hgr (wcQ_0 y)
  obtain ⟨b0, nk0, hwr0, e40⟩ := ls_q h
  obtain ⟨f, hf⟩ := c_copyReason (nk_B nk0) hw (hwr0 e40).2 ha hgr
  have h0 : LST σ (cw G (b0 + 14) f) J N V w z I := ls_s h nk0 (fun a _ _ _ _ h14 => cw_b h14)
  refine chgL false h0 hb wf fun b σ' G' J' ii jj nk r e4 eR nk' r' _ hbb2 => ?_
  have B' := nk_B nk'
  obtain ⟨G2, e2, f2, r2⟩ := c_makeCopy B' hw r' h8 ha hgr
  refine ⟨G2, J', ?_, fun c hc => by rw [f2 c hc]; rfl, fun _ _ => rfl, r2⟩
  unfold fX9_addCopy
  rw [nk_o nk0, bnP_1, c_requireBook nk0, if_neg e40, bnXA_1, c_requireAct1 nk0 hw.1 (hwr0 e40).2 ha, bnXA_1, c_requireUpTo, show inR (nI gr) 0 2 = true from inR_y (lo := 0) (hi := 2) (Nat.zero_le _) (by omega) (by decide), if_pos rfl, bnXA_1, nk_b nk0, bnP_1, hf, bnS_1, if_pos y, eR, bnA_ok, nk_b nk', bnP_1, e2, bnP_1, nk_b nk', bnP_1, bk_I B', bnP_1, r2.1.2.2.2.1, show adN N a gr 6 = nI (nCp N + 1) from rfl, nI_pred, addC_1]
  rfl
theorem th_1 (hw : WFN N) (hl : l < nLv N) : thB N (nI l) = true := there_1 hw.1 hl
theorem st_n {x : Int32} (hl : l < 2 ^ 31) : stB N (nI l) x = decide (N (99 + l) = x) := by
  unfold stB
  rw [nI_clamp hl]
theorem ls_lose (h : LST σ G J N V w z I) (hb : hN σ + 40 < BIG) (hl : l < nLv N) (h2 : N (99 + l) ≠ 2) : OPR (fX9_lose (some 0) (nI l) (wc σ G J)) (lostQ N l) σ J (lsN (lfN N l 2) l) V w z I := by
  have hw := ls_w h
  have h12 := nlv_12 hw.1
  obtain ⟨k1, k2, k3, k4, k5⟩ := ls_lost hw hl
  refine chgL false h hb k5 fun b σ' G' J' ii jj nk r e4 eR nk' r' _ hbb2 => ?_
  have B' := nk_B nk'
  obtain ⟨G2, e2, g2, rb2⟩ := c_drop B' hw r' hl
  refine ⟨G2, J', ?_, fun a ha => by rw [g2 a ha]; rfl, fun a _ => rfl, rb2⟩
  have hj : (if (thB N (nI l) && stB N (nI l) 2) = true then some ((some 0 : Option Nat), nI l, (0 : Int32)) else some (some 0, nI l, 1)) = some (some 0, nI l, bI true) := by
    rw [st_n (by omega), decide_eq_false h2, Bool.and_false]
    rfl
  unfold fX9_lose
  rw [nk_o nk, bnP_1, c_requireBook nk, if_neg e4, bnXA_1, nk_b nk, bnP_1, bk_r9 (nk_B nk), bnP_1, c_isLostV (nk_B nk) hw r, bnP_1, hj, bnP_1]
  dsimp only
  rw [c_requireLeafAt nk hw r, th_1 hw hl, if_pos rfl, if_pos rfl, bnXA_1, eR, bnA_ok, nk_b nk', bnP_1, c_wouldBeUnknown B' hw r' hl, bnP_1, bnP_1, bk_r9 B', bnP_1, e2, bnP_1, addC_1]
  rfl
theorem ls_recover (h : LST σ G J N V w z I) (hb : hN σ + 40 < BIG) (hl : l < nLv N) (h2 : N (99 + l) = 2) : OPR (fX9_recover (some 0) (nI l) (wc σ G J)) (lostQ (bmN (lfN N l 0) l) l) σ J (bmN (lfN N l 0) l) V w z I := by
  have hw := ls_w h
  have h12 := nlv_12 hw.1
  have wf := lf_wf (x := 0) hw hl (Or.inl rfl)
  have n2 := lf_n2 (x := 0) hw hl
  obtain ⟨w2, s2, f2, g2, k2⟩ := bm_wf (l := l) wf
  have hl2 : l < nLv (bmN (lfN N l 0) l) := by rw [(sm_n s2).2.2.2.2.1, n2.2]; exact hl
  refine chgL false h hb w2 fun b σ' G' J' ii jj nk r e4 eR nk' r' _ hbb2 => ?_
  have B' := nk_B nk'
  obtain ⟨G2, e2, g2, rb2⟩ := c_bringBack B' hw r' hl
  refine ⟨G2, J', ?_, fun a ha => by rw [g2 a ha]; rfl, fun a _ => rfl, rb2⟩
  unfold fX9_recover
  rw [nk_o nk, bnP_1, c_requireBook nk, if_neg e4, bnXA_1, nk_b nk, bnP_1, bk_r9 (nk_B nk), bnP_1, c_isLostV (nk_B nk) hw r, bnP_1, th_1 hw hl, st_n (by omega), decide_eq_true h2, c_requireLeafAt nk hw r, th_1 hw hl, if_pos rfl, if_pos (show (true && true) = true from rfl), bnXA_1, eR, bnA_ok, nk_b nk', bnP_1, bk_r9 B', bnP_1, e2, bnP_1, nk_b nk', bnP_1, c_wouldBeUnknown B' w2 rb2 hl2, bnP_1, addC_1]
  rfl
theorem ls_shake (h : LST σ G J N V w z I) (hb : hN σ + 40 < BIG) : OPR (fX9_shake (some 0) (wc σ G J)) (nI (cntN (lsB N) (nLv N))) σ J (shK N (nLv N)) V w z I := by
  have hw := ls_w h
  have h12 := nlv_12 hw.1
  obtain ⟨w2, n2, -, f2⟩ := sh_wf hw (nLv N) (Nat.le_refl _)
  refine chgL false h hb w2 fun b σ' G' J' ii jj nk r e4 eR nk' r' _ hbb2 => ?_
  have B' := nk_B nk'
  obtain ⟨G2, e2, g2, l2⟩ := l_dropLoose (G := G') (J := J') (bk_L B') hw (rl_of r')
  refine ⟨G2, J', ?_, fun a ha => by rw [g2 a (by omega) (by omega)]; rfl, fun a _ => rfl, lv_rb hw f2 r' l2 (fun a h1 h2 => g2 a h1 h2)⟩
  unfold fX9_shake
  rw [nk_o nk, bnP_1, c_requireBook nk, if_neg e4, bnXA_1, eR, bnA_ok, nk_b nk', bnP_1, bk_r9 B', bnP_1, e2, bnS_1, addC_1]
  rfl
/-- a question that writes a scratch cell -/
theorem ls_ask {α : Type} {o : AT α} {x : α} {f : Nat → Int32} {b d ii jj : Nat} (h : LST σ G J N V w z I) (nk : NK σ 0 b) (hd : d = 13 ∨ d = 14) (e : o = some (.ok x, wc σ (cw G (b + d) f) J, ii, jj)) (hi : ii ≤ 1) (hj : jj ≤ 6) : OPR o x σ J N V w z I := by
  refine ⟨σ, _, J, ii, jj, e, ls_s h nk (fun a _ _ _ h13 h14 => cw_b (by omega)), rfl, rfl, by omega, by omega, by omega⟩
theorem ls_si (h : LST σ G J N V w z I) {v cl : Int32} (y : askB N v cl = true) : OPR (fX9_standingIf (some 0) v cl (wc σ G J)) (siQ N v.toNatClampNeg cl) σ J N V w z I := by
  obtain ⟨b, nk, hwr, e⟩ := ls_q h
  obtain ⟨i, j, f, e1, hi, hj⟩ := cq_standingIf nk hwr v cl
  rw [decide_eq_true e, y] at e1
  exact ls_ask h nk (Or.inl rfl) e1 hi hj
theorem ls_cwd (h : LST σ G J N V w z I) (ha : a < nAc N) {gr : Nat} (hgr : gr < 3) : OPR (fX9_copyWords (some 0) (nI (a + 1)) (nI gr) (wc σ G J)) (wbA N a gr) σ J N V w z I := by
  have hb := w1_b (ls_w h).1
  obtain ⟨b, nk, hwr, e⟩ := ls_q h
  obtain ⟨i, j, f, e1, hi, hj⟩ := cq_copyWords nk hwr (nI (a + 1)) (nI gr)
  rw [decide_eq_true e, (w1_e (ls_w h).1).2.1, inR_y (by omega) (by omega) (by omega), inR_y (Nat.zero_le _) (by omega) (by decide), nI_clamp (by omega), nI_clamp (by omega), Nat.add_sub_cancel] at e1
  exact ls_ask h nk (Or.inr rfl) e1 hi hj
theorem ls_wnc (h : LST σ G J N V w z I) (ha : a < nAc N) {gr : Nat} (hgr : gr < 3) : OPR (fX9_whyNotCopy (some 0) (nI (a + 1)) (nI gr) (wc σ G J)) (wcQ N a gr) σ J N V w z I := by
  have hb := w1_b (ls_w h).1
  obtain ⟨b, nk, hwr, e⟩ := ls_q h
  obtain ⟨i, j, f, e1, hi, hj⟩ := cq_whyNotCopy nk hwr (nI (a + 1)) (nI gr)
  rw [decide_eq_true e, (w1_e (ls_w h).1).2.1, inR_y (by omega) (by omega) (by omega), inR_y (Nat.zero_le _) (by omega) (by decide), nI_clamp (by omega), nI_clamp (by omega), Nat.add_sub_cancel] at e1
  exact ls_ask h nk (Or.inr rfl) e1 hi hj
/-- how many shakes: q -/
theorem ls_shk (h : LST σ G J N V w z I) {q : Nat} (hq : q ≤ 12) (h0 : fallC N q = 0) (hp : ∀ k, k < q → 0 < fallC N k) : OPR (fX9_shakenOut (some 0) (wc σ G J)) (nI q) σ J N V w z I := by
  have hw := ls_w h
  obtain ⟨b, bs, ps, P, tx, E, U, T, hC, hA, hE, -⟩ := id h
  have qE : E.1 ≠ 0 := by rw [hE]; decide
  have nk := cr_nk hC
  have B := nk_B nk
  have r := hC.2.2.2.1 qE
  have e4 : ¬ G 0 4 = 0 := by rw [hC.2.1.1]; exact qE
  have h7 := hC.1.1.2.2.2.2.1
  have hbb := cr_b hC
  obtain ⟨Ga, ea, fa, la⟩ := l_take (J := J) (bk_L B) h7 (by omega) hw (rl_of r)
  obtain ⟨Gc, ec, fc⟩ := c_shakenLoop (J := J) hC.1.1.1.2.1 hC.1.1.2.1.2.2.2.2.1 h7 hw la hq h0 hp
  have fc2 : ∀ a, a ≠ 74 → a ≠ 75 → a ≠ 76 → Gc a = G a := fun a h1 h2 h3 => (fc a h1 h2 h3).trans (fa a h1 h2)
  refine ⟨σ, Gc, J, 0, 0, ?_, ls_s h nk (fun a h1 h2 h3 _ _ => fc2 a h1 h2 h3), rfl, rfl, by omega, by omega, by omega⟩
  unfold fX9_shakenOut
  rw [nk_o nk, bnP_1, c_requireBook nk, if_neg e4, bnXA_1, show gR (wc σ G J) (some 0) 9 13 = some (some 74) from gR_c hC.1.1.1.2.1 hC.1.1.2.1.2.2.2.2.1, bnP_1, nk_b nk, bnP_1, bk_r9 B, bnP_1, ea, bnP_1, ec, bnS_1]
end P56C
