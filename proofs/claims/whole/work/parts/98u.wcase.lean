/-! THE PURE LEVEL, 79: the reference's writers; cases WRITEACT, WRITESTANDING, WRITELEAF, WRITECOPY, TEXTBYTE -/
section MWR
variable {σ : HpT} {G : Nat → Nat → Int32} {T : tI} {a c l g : Nat}
theorem mt_0 : up G 80 23 0 = mtG G (0, G 88) := by
  unfold mtG
  rw [show cw G 88 ((0, G 88) : tI).2 = G from cw_self G 88]
  rfl
theorem m_actLoop (h : MK σ 80) (hw : WFN (G 81)) (w5 : W5 (G 81)) (ha : a < nAc (G 81)) (h0 : T.1 = 0) : lpS (fX10_writeAct_l1 (some 80) (nI (a + 1))) FUEL (nI (aF (G 81) a)) (wi σ (mtG G T)) = some ((), wi σ (mtG G (atT (G 81) a T (aM (G 81) a)))) := by
  have ok := (act_ok hw.1 hw.2.1 ha).1
  have hl := act_le hw.1 hw.2.1 ha
  have hb := w1_b hw.1
  have e8 : ∀ T, mtG G T (80 + 1) = G 81 := fun T => mt_81
  refine lpS_f (aM (G 81) a) (fun k => nI (aF (G 81) a + k)) (fun k => wi σ (mtG G (atT (G 81) a T k))) rfl rfl (by omega) (fun k hk => ?_) ?_
  · have hg : aF (G 81) a + k < nWd (G 81) := by omega
    have hT := atT_1 (T := T) hw ha k (by omega)
    have h4 := cv_4 hw ha (g := aF (G 81) a + k) (by omega) (by omega)
    have hi : wN' (G 81) (aF (G 81) a + k) < 5 := (hw.2.2.2.1 (aF (G 81) a + k) hg).1.2
    have s1 := tS_1 (atT (G 81) a T k) 40 (cntV (cF (G 81)) (aK (G 81) a) (aC (G 81) a) (aF (G 81) a + k))
    have s2 := wdT_1 (N := G 81) (mk := true) (g := aF (G 81) a + k) (T := tS (atT (G 81) a T k) 40 (cntV (cF (G 81)) (aK (G 81) a) (aC (G 81) a) (aF (G 81) a + k)))
    have s3 := inT_1 (N := G 81) (mm := 94) (g := aF (G 81) a + k) (T := wdT (G 81) true (aF (G 81) a + k) (tS (atT (G 81) a T k) 40 (cntV (cF (G 81)) (aK (G 81) a) (aC (G 81) a) (aF (G 81) a + k)))) (wN' (G 81) (aF (G 81) a + k))
    unfold fX10_writeAct_l1
    rw [nI_pred, m_lastOf h (by rw [e8]; exact ok), bnP_1, if_neg (nI_nlt (by omega) (by omega)), m_opening h hw ha (by omega) (by omega) (by omega), bnP_1, nI_a1, show (1 : Int32) = bI true from rfl, m_word h hw w5 true hg (by omega), bnP_1, show (94 : Int32) = nI 94 from rfl, m_inner h hw w5 (by decide) hg (by omega), bnP_1, m_closing h hw ha (by omega) (by omega) (by omega), bnP_1]
    rfl
  · unfold fX10_writeAct_l1
    rw [nI_pred, m_lastOf h (by rw [e8]; exact ok), bnP_1, if_pos (nI_lt (by have := ok.2.2.2.1; omega) (by omega))]
theorem m_standLoop (h : MK σ 80) (hw : WFN (G 81)) (w5 : W5 (G 81)) (ha : a < nAc (G 81)) (h0 : T.1 = 0) : lpS (fX10_writeStanding_l1 (some 80) (nI (a + 1))) FUEL (nI (aF (G 81) a)) (wi σ (mtG G T)) = some ((), wi σ (mtG G (stT' (G 81) a T (aM (G 81) a)))) := by
  have ok := (act_ok hw.1 hw.2.1 ha).1
  have hl := act_le hw.1 hw.2.1 ha
  have hb := w1_b hw.1
  have e8 : ∀ T, mtG G T (80 + 1) = G 81 := fun T => mt_81
  refine lpS_f (aM (G 81) a) (fun k => nI (aF (G 81) a + k)) (fun k => wi σ (mtG G (stT' (G 81) a T k))) rfl rfl (by omega) (fun k hk => ?_) ?_
  · have hg : aF (G 81) a + k < nWd (G 81) := by omega
    have hT := stT_1 (T := T) hw ha k (by omega)
    have s2 := wdT_1 (N := G 81) (mk := false) (g := aF (G 81) a + k) (T := stT' (G 81) a T k)
    have e1 : (if skN (G 81) (aF (G 81) a + k) = true then bnP (fX10_writesWord (some 80) (nI (aF (G 81) a + k)) 0 (wi σ (mtG G (stT' (G 81) a T k)))) (fun s30 => some ((), s30)) else some ((), wi σ (mtG G (stT' (G 81) a T k)))) = some ((), wi σ (mtG G (if skN (G 81) (aF (G 81) a + k) = true then wdT (G 81) false (aF (G 81) a + k) (stT' (G 81) a T k) else stT' (G 81) a T k))) := by
      cases z : skN (G 81) (aF (G 81) a + k)
      · rw [if_neg (by decide), if_neg (by decide)]
      · rw [if_pos rfl, if_pos rfl, show (0 : Int32) = bI false from rfl, m_word h hw w5 false hg (by omega), bnP_1]
    have s4 : (if skN (G 81) (aF (G 81) a + k) = true then wdT (G 81) false (aF (G 81) a + k) (stT' (G 81) a T k) else stT' (G 81) a T k).1 ≤ (stT' (G 81) a T k).1 + 10 := by
      split
      · omega
      · omega
    unfold fX10_writeStanding_l1
    rw [nI_pred, m_lastOf h (by rw [e8]; exact ok), bnP_1, if_neg (nI_nlt (by omega) (by omega)), m_stands h (by omega), bnP_1, e8, e1, bnS_1, show (0 : Int32) = nI 0 from rfl, m_inner h hw w5 (by decide) hg (by omega), bnP_1, nI_a1]
    rfl
  · unfold fX10_writeStanding_l1
    rw [nI_pred, m_lastOf h (by rw [e8]; exact ok), bnP_1, if_pos (nI_lt (by have := ok.2.2.2.1; omega) (by omega))]
theorem m_written (h : MK σ 80) (h2 : T.1 < 20000) : fX10_written (some 80) (wi σ (mtG G T)) = some (nI (endT T).1, wi σ (mtG G (endT T))) := by
  unfold fX10_written endT
  rw [mk_o h, bnP_1, mk_I h, bnP_1, mt_n]
  by_cases z : T.1 = 0
  · rw [if_pos z, if_pos (show nI T.1 = 0 by rw [z]; rfl), show (46 : Int32) = nI 46 from rfl, m_byte h h2 (by decide), bnP_1, bnS_1, mk_I h, bnP_1, mt_n]
  · rw [if_neg z, if_neg (show ¬ nI T.1 = 0 from fun q => z ((nI_eq (b := 0) (by omega) (by decide)).mp q)), bnS_1, mk_I h, bnP_1, mt_n]
theorem ab_at {N : Nat → Int32} (hw : WFN N) (ha : a < nAc N) (h1 : aF N a ≤ g) (h2 : g < aF N a + aM N a) : abN N g = if aF N a = g then a + 1 else 0 := by
  unfold abN
  have u : ∀ k, k < nAc N → aF N k = g → k = a := fun k hk e => act_uniq hw.1 hw.2.1 hk ha (by omega) (by have := (w2_b hw.2.1 hk).2.2.2.2; omega) h1 h2
  cases z : fuN (fun a => decide (aF N a = g)) (nAc N) with
  | none => rw [if_neg (of_decide_eq_false (fuN_none z a ha))]
  | some k =>
    obtain ⟨z1, z2, -⟩ := fuN_some z
    have e := of_decide_eq_true z2
    obtain rfl := u k z1 e
    rw [if_pos e]
theorem m_number (h : MK σ 80) {m : Nat} (hm : m ≤ 99) (h2 : T.1 + 2 ≤ 20000) : fX10_writesNumber (some 80) (nI m) (wi σ (mtG G T)) = some (wi σ (mtG G (tNm T m))) := by
  unfold fX10_writesNumber tNm
  rw [mk_o h, bnP_1]
  have r : nI m - nI m / 10 * 10 = nI (m % 10) := pk_rem (d := 10) (by omega) (by decide) (by decide)
  have q : nI m / 10 = nI (m / 10) := pk_div (d := 10) (by omega) (by decide) (by decide)
  by_cases z : m ≤ 9
  · rw [if_pos z, if_pos (show nI m ≤ 9 from nI_le (b := 9) z (by decide)), bnS_1, r, show 48 + nI (m % 10) = nI (48 + m % 10) from nI_add 48 _, m_byte h (by omega) (by omega), bnP_1, Nat.mod_eq_of_lt (show m < 10 by omega)]
  · rw [if_neg z, if_neg (show ¬ nI m ≤ 9 from nI_ge (a := 9) (by omega) (by omega)), q, show 48 + nI (m / 10) = nI (48 + m / 10) from nI_add 48 _, m_byte h (by omega) (by omega), bnP_1, bnS_1, ← q, r, show 48 + nI (m % 10) = nI (48 + m % 10) from nI_add 48 _, m_byte h (show T.1 + 1 < 20000 by omega) (by omega), bnP_1]
theorem m_leafLoop (h : MK σ 80) (hw : WFN (G 81)) (w5 : W5 (G 81)) (hl : l < nLv (G 81)) (h0 : T.1 = 0) : lpS (fX10_writeLeaf_l1 (some 80) (nI l)) FUEL (nI (l * nRm (G 81))) (wi σ (mtG G T)) = some ((), wi σ (mtG G (lfT (G 81) l T (pOn (G 81) l)))) := by
  have hb := w1_b hw.1
  have hp := pOn_b hw.1 hl
  have e8 : ∀ T, mtG G T (80 + 1) = G 81 := fun T => mt_81
  have hp20 : pOn (G 81) l ≤ 240 := by omega
  have elast : ∀ T, fX10_lastOn (some 80) (nI l) (wi σ (mtG G T)) = some (nI (l * nRm (G 81) + pOn (G 81) l - 1)) := fun T => by
    have := m_lastOn (G := mtG G T) h (by rw [e8]; exact hw.1) (l := l) (by rw [e8]; exact hl)
    rw [e8] at this
    exact this
  refine lpS_f (pOn (G 81) l) (fun k => nI (l * nRm (G 81) + k)) (fun k => wi σ (mtG G (lfT (G 81) l T k))) rfl rfl (by omega) (fun k hk => ?_) ?_
  · have hg : l * nRm (G 81) + k < nWd (G 81) := by omega
    have hT := lfT_1 (N := G 81) (T := T) l k
    have s1 := tB_1 (lfT (G 81) l T k)
    have hab := abN_le (N := G 81) (g := l * nRm (G 81) + k) hw.1
    have s2 := tNm_1 (tB (lfT (G 81) l T k)) (abN (G 81) (l * nRm (G 81) + k))
    obtain ⟨w, hwd⟩ := (w5 (l * nRm (G 81) + k) hg).1
    obtain ⟨a, ha, a1, a2, -⟩ := act_at hw.1 hw.2.1 hg
    have ok := (act_ok hw.1 hw.2.1 ha).1
    have eab := ab_at hw ha a1 a2
    have eact : fX10_actOf (some 80) (nI (l * nRm (G 81) + k)) (wi σ (mtG G (tB (lfT (G 81) l T k)))) = some (nI a) := m_actOfW h (by rw [e8]; exact hw.1) (by rw [e8]; exact hw.2.1) (by rw [e8]; exact ha) (by rw [e8]; exact a1) (by rw [e8]; exact a2)
    have eo : fX10_ofAct (some 80) (nI a) 5 (wi σ (mtG G (tB (lfT (G 81) l T k)))) = some (nI (aF (G 81) a)) := by
      have := m_ofAct (G := mtG G (tB (lfT (G 81) l T k))) h a 5 (by omega)
      rw [e8, ok.2.1] at this
      exact this
    have hnum : aF (G 81) a = l * nRm (G 81) + k → abN (G 81) (l * nRm (G 81) + k) = a + 1 := fun q => by rw [eab, if_pos q]
    have e1 : (if nI (aF (G 81) a) = nI (l * nRm (G 81) + k) then bnP (fX10_writesNumber (some 80) (nI a + 1) (wi σ (mtG G (tB (lfT (G 81) l T k))))) (fun s15 => bnP (fX10_writesByte (some 80) 58 s15) (fun s18 => some ((), s18))) else some ((), wi σ (mtG G (tB (lfT (G 81) l T k))))) = some ((), wi σ (mtG G (if abN (G 81) (l * nRm (G 81) + k) = 0 then tB (lfT (G 81) l T k) else tA (tNm (tB (lfT (G 81) l T k)) (abN (G 81) (l * nRm (G 81) + k))) 58))) := by
      by_cases q : aF (G 81) a = l * nRm (G 81) + k
      · rw [if_pos (congrArg nI q), hnum q, if_neg (by omega), nI_a1, m_number h (by omega) (by omega), bnP_1, show (58 : Int32) = nI 58 from rfl, m_byte h (by have := tNm_1 (tB (lfT (G 81) l T k)) (a + 1); omega) (by decide), bnP_1]
      · rw [if_neg (fun e => q ((nI_eq (by omega) (by omega)).mp e)), eab, if_neg q, if_pos rfl]
    have s4 : (if abN (G 81) (l * nRm (G 81) + k) = 0 then tB (lfT (G 81) l T k) else tA (tNm (tB (lfT (G 81) l T k)) (abN (G 81) (l * nRm (G 81) + k))) 58).1 ≤ (lfT (G 81) l T k).1 + 4 := by
      split
      · omega
      · show (tNm (tB (lfT (G 81) l T k)) (abN (G 81) (l * nRm (G 81) + k))).1 + 1 ≤ _
        omega
    have i1 : 127 + 13 * nI (l * nRm (G 81) + k) = nI (127 + 13 * (l * nRm (G 81) + k)) := by
      rw [show (13 : Int32) * nI (l * nRm (G 81) + k) = nI (13 * (l * nRm (G 81) + k)) from by rw [Int32.mul_comm, show (13 : Int32) = nI 13 from rfl, pk_mul, Nat.mul_comm], show (127 : Int32) = nI 127 from rfl, nI_add]
    unfold fX10_writeLeaf_l1 fX10_writesOnLeaf
    rw [elast, bnP_1, if_neg (nI_nlt (by omega) (by omega)), mk_o h, bnP_1, m_blank h (by omega), bnP_1, eact, bnP_1, eo, bnP_1, e1, bnS_1, i1, m_letters h (by omega) hwd (by omega), bnP_1, bnP_1, nI_a1]
    rfl
  · unfold fX10_writeLeaf_l1
    rw [elast, bnP_1, if_pos (nI_lt (by omega) (by omega))]
theorem m_copyLoop (h : MK σ 80) (hw : WFN (G 81)) (w5 : W5 (G 81)) (hc : c < nCp (G 81)) (h0 : T.1 = 0) : lpS (fX10_writeCopy_l1 (some 80) (nI c) (nI (oO (G 81) c))) FUEL (nI (aF (G 81) (oO (G 81) c))) (wi σ (mtG G T)) = some ((), wi σ (mtG G (cyT (G 81) c T (aM (G 81) (oO (G 81) c))))) := by
  have w4 := w4_c hw.2.2.2 hc
  have ha := w4.1.1
  have ok := (act_ok hw.1 hw.2.1 ha).1
  have hl := act_le hw.1 hw.2.1 ha
  have hb := w1_b hw.1
  have e8 : ∀ T, mtG G T (80 + 1) = G 81 := fun T => mt_81
  refine lpS_f (aM (G 81) (oO (G 81) c)) (fun k => nI (aF (G 81) (oO (G 81) c) + k)) (fun k => wi σ (mtG G (cyT (G 81) c T k))) rfl rfl (by omega) (fun k hk => ?_) ?_
  · have hg : aF (G 81) (oO (G 81) c) + k < nWd (G 81) := by omega
    have hT := cyT_1 (T := T) hw hc k (by omega)
    have s2 := cyS_1 (N := G 81) (c := c) (g := aF (G 81) (oO (G 81) c) + k) (T := cyT (G 81) c T k)
    have e1 : (if hwN (G 81) c (aF (G 81) (oO (G 81) c) + k) = true then bnP (fX10_writesWord (some 80) (nI (aF (G 81) (oO (G 81) c) + k)) 0 (wi σ (mtG G (cyT (G 81) c T k)))) (fun s32 => some ((), s32)) else some ((), wi σ (mtG G (cyT (G 81) c T k)))) = some ((), wi σ (mtG G (cyS (G 81) c (aF (G 81) (oO (G 81) c) + k) (cyT (G 81) c T k)))) := by
      unfold cyS
      cases z : hwN (G 81) c (aF (G 81) (oO (G 81) c) + k)
      · rw [if_neg (by decide), if_neg (by decide)]
      · rw [if_pos rfl, if_pos rfl, show (0 : Int32) = bI false from rfl, m_word h hw w5 false hg (by omega), bnP_1]
    unfold fX10_writeCopy_l1
    rw [m_lastOf h (by rw [e8]; exact ok), bnP_1, if_neg (nI_nlt (by omega) (by omega)), m_hasWord h (by rw [e8]; exact hw) (by rw [e8]; exact hc) (by rw [e8]; exact hg), bnP_1, e8, e1, bnS_1, show fX10_ofCopy (some 80) (nI c) 1 (wi σ (mtG G (cyS (G 81) c (aF (G 81) (oO (G 81) c) + k) (cyT (G 81) c T k)))) = _ from m_ofCopy h c 1 (by omega), bnP_1, e8, w4.2.2, nI_a1]
    show _ = some (_, wi σ (mtG G (if oG (G 81) c = 0 then inT (G 81) 0 (aF (G 81) (oO (G 81) c) + k) (cyS (G 81) c (aF (G 81) (oO (G 81) c) + k) (cyT (G 81) c T k)) (wN' (G 81) (aF (G 81) (oO (G 81) c) + k)) else cyS (G 81) c (aF (G 81) (oO (G 81) c) + k) (cyT (G 81) c T k))))
    by_cases z : oG (G 81) c = 0
    · rw [if_pos z, if_pos (show nI (oG (G 81) c) = 0 by rw [z]; rfl), show (0 : Int32) = nI 0 from rfl, m_inner h hw w5 (by decide) hg (by omega), bnP_1]
      rfl
    · rw [if_neg z, if_neg (show ¬ nI (oG (G 81) c) = 0 from fun q => z ((nI_eq (b := 0) (by omega) (by decide)).mp q))]
      rfl
  · unfold fX10_writeCopy_l1
    rw [m_lastOf h (by rw [e8]; exact ok), bnP_1, if_pos (nI_lt (by have := ok.2.2.2.1; omega) (by omega))]
end MWR
section SCW
variable {σ : HpT} {G : Nat → Nat → Int32} {J : Nat → Nat → Int64} {b bs ps tx : Nat} {P : Nat → Option Nat} {E : tE} {I T : tI} {N : Nat → Int32} {U : tU} {V : tV}
theorem ms_isA (hA : AW E I N U V T) {S : HpT} {G1 : Nat → Nat → Int32} (hM1 : MR S G1 E I N U V T) (v : Int32) : fX10_mayAct (some 80) v (wi S G1) = some (decide (E.1 ≠ 0) && inR v (nI 1) (N 3), wi S (up G1 80 0 (thr (decide (E.1 ≠ 0)) (inR v (nI 1) (N 3)) true))) := by
  have mk := hM1.1
  have f6 := hM1.2.1.1
  have f81 := hM1.2.2.2.1.1
  have ei : isA G1 80 v = (decide (E.1 ≠ 0) && inR v (nI 1) (N 3)) := by
    unfold isA
    rw [f6, show G1 (80 + 1) = N from f81]
  rw [m_mayAct mk (by rw [f6]; exact hA.1.1), ei, f6, thr_pq]
/-- case 32: WRITEACT -/
theorem sc32 (hC : CR σ G J b bs ps P tx E I N U V T) (hM : MR σ G E I N U V T) (hA : AW E I N U V T) (hD : DK σ) (hb : hN σ + 40100 < BIG) {Lx : Nat} {xs : Nat → Int32} {v5 v : Int32} (h1 : sld Lx xs (v5 + 1) = some v) (v4 : Option Nat) : STEP σ (fL_c32 Lx xs (some 0) (some 80) (some 89) v4 v5 (wc σ G J)) := by
  have lo := lo_of hC hM hA hD
  have e4 := hC.2.1.1
  unfold fL_c32 fL_writeAct
  simp only [h1, bnP_1]
  have hwr : E.1 ≠ 0 → WFN N ∧ RB G J b N := fun q => ⟨hA.2.1 q, hC.2.2.2.1 q⟩
  have ms : ∀ S G1, MR S G1 E I N U V T → fX10_writeAct (some 80) v (wi S G1) = if (decide (E.1 ≠ 0) && inR v (nI 1) (N 3) && true) = true then bnP (pI (wi S (up G1 80 0 0)) (some 80) 10 23 0) (fun s6 => bnP (fX10_ofAct (some 80) (v - 1) 5 s6) (fun x7 => bnS (lpS (fX10_writeAct_l1 (some 80) v) FUEL x7 s6) (fun r10 s33 => bnP (gI s33 (some 80) 10 23) (fun x34 => some (x34, s33))))) else some (0, wi S (up G1 80 0 (thr (decide (E.1 ≠ 0)) (inR v (nI 1) (N 3)) true))) := by
    intro S G1 hM1
    unfold fX10_writeAct
    rw [mk_o hM1.1, bnP_1, ms_isA hA hM1, bnS_1, Bool.and_true]
    cases e0 : decide (E.1 ≠ 0)
    · rfl
    · cases e1 : inR v (nI 1) (N 3)
      · rfl
      · rfl
  refine chg3 (inR v (nI 1) (N 3)) true (e1 := 1) (e2 := 2) hC hM hA hD (fun S => rfl) (fun S => rfl) (fun _ _ h => by cases h) ?_ ?_ (fun _ _ h => by cases h) ms ?_
  · intro qE
    unfold fX9_writeAct
    rw [nk_o lo.1, bnP_1, c_requireBook lo.1, if_pos (by rw [e4]; exact qE), bnXA_e]
  · intro qE z
    obtain ⟨hw, r⟩ := hwr qE
    unfold fX9_writeAct
    rw [nk_o lo.1, bnP_1, c_requireBook lo.1, if_neg (by rw [e4]; exact qE), bnXA_1, c_requireAct0 lo.1 hw.1 r z, bnXA_e]
  · intro qE z _
    obtain ⟨hw, r⟩ := hwr qE
    have z' := z
    obtain ⟨a, rfl, ha⟩ := inA_t hw.1 z
    have e0 := env_of hC hA qE
    refine txt_step (T' := atT N a (0, G 88) (aM N a)) hC hM hA hD ?_ ?_
    · unfold fX9_writeAct
      rw [nk_o lo.1, bnP_1, c_requireBook lo.1, if_neg (by rw [e4]; exact qE), bnXA_1, c_requireAct1 lo.1 hw.1 r ha, bnXA_1, nk_b lo.1, bnP_1, bk_r8 (nk_B lo.1), bnP_1, er_pen e0, bnP_1]
      refine top_bind (t_start (tx_of hC hA hb) (G 88)) fun S1 tx1 i1 j1 h1 => ?_
      rw [(er_act (en_S e0 h1) ha).1, bnP_1]
      refine top_bind (t_actLoop e0 ha h1 rfl) fun S2 tx2 i2 j2 h2 => ?_
      rw [er_pen (en_S e0 h2), bnP_1, gR_S h2.1.1 h2.1.2.1, bnP_1, t_len h2, bnP_1]
      exact top_ret h2
    · intro S G1 hM1 e88
      have mk := hM1.1
      have f81 := hM1.2.2.2.1.1
      have ok := (act_ok hw.1 hw.2.1 ha).1
      have g81 : up G1 80 0 0 81 = N := by rw [up_a (by decide)]; exact f81
      have g88 : up G1 80 0 0 88 = G 88 := by rw [up_a (by decide)]; exact e88
      have lp := m_actLoop (G := up G1 80 0 0) (T := (0, G 88)) (a := a) mk (by rw [g81]; exact hw) (by rw [g81]; exact rb_w5 r) (by rw [g81]; exact ha) rfl
      rw [g81] at lp
      have eo : fX10_ofAct (some 80) (nI a) 5 (wi S (mtG (up G1 80 0 0) (0, G 88))) = some (nI (aF N a)) := by
        have := m_ofAct (G := mtG (up G1 80 0 0) (0, G 88)) mk a 5 (by have := ok.1; omega)
        rw [mt_81, g81, ok.2.1] at this
        exact this
      rw [ms S G1 hM1, decide_eq_true qE, z', if_pos (show (true && true && true) = true from rfl), mk_P mk, bnP_1, mt_0, g88, nI_pred, eo, bnP_1, lp, bnS_1, mk_I mk, bnP_1, mt_n]
/-- case 33: WRITESTANDING -/
theorem sc33 (hC : CR σ G J b bs ps P tx E I N U V T) (hM : MR σ G E I N U V T) (hA : AW E I N U V T) (hD : DK σ) (hb : hN σ + 40100 < BIG) {Lx : Nat} {xs : Nat → Int32} {v5 v : Int32} (h1 : sld Lx xs (v5 + 1) = some v) (v4 : Option Nat) : STEP σ (fL_c33 Lx xs (some 0) (some 80) (some 89) v4 v5 (wc σ G J)) := by
  have lo := lo_of hC hM hA hD
  have e4 := hC.2.1.1
  unfold fL_c33 fL_writeStanding
  simp only [h1, bnP_1]
  have hwr : E.1 ≠ 0 → WFN N ∧ RB G J b N := fun q => ⟨hA.2.1 q, hC.2.2.2.1 q⟩
  have ms : ∀ S G1, MR S G1 E I N U V T → fX10_writeStanding (some 80) v (wi S G1) = if (decide (E.1 ≠ 0) && inR v (nI 1) (N 3) && true) = true then bnP (pI (wi S (up G1 80 0 0)) (some 80) 10 23 0) (fun s6 => bnP (fX10_ofAct (some 80) (v - 1) 5 s6) (fun x7 => bnS (lpS (fX10_writeStanding_l1 (some 80) v) FUEL x7 s6) (fun r10 s35 => bnS (fX10_written (some 80) s35) (fun x36 s38 => some (x36, s38))))) else some (0, wi S (up G1 80 0 (thr (decide (E.1 ≠ 0)) (inR v (nI 1) (N 3)) true))) := by
    intro S G1 hM1
    unfold fX10_writeStanding
    rw [mk_o hM1.1, bnP_1, ms_isA hA hM1, bnS_1, Bool.and_true]
    cases e0 : decide (E.1 ≠ 0)
    · rfl
    · cases e1 : inR v (nI 1) (N 3)
      · rfl
      · rfl
  refine chg3 (inR v (nI 1) (N 3)) true (e1 := 1) (e2 := 2) hC hM hA hD (fun S => rfl) (fun S => rfl) (fun _ _ h => by cases h) ?_ ?_ (fun _ _ h => by cases h) ms ?_
  · intro qE
    unfold fX9_writeStanding
    rw [nk_o lo.1, bnP_1, c_requireBook lo.1, if_pos (by rw [e4]; exact qE), bnXA_e]
  · intro qE z
    obtain ⟨hw, r⟩ := hwr qE
    unfold fX9_writeStanding
    rw [nk_o lo.1, bnP_1, c_requireBook lo.1, if_neg (by rw [e4]; exact qE), bnXA_1, c_requireAct0 lo.1 hw.1 r z, bnXA_e]
  · intro qE z _
    obtain ⟨hw, r⟩ := hwr qE
    have z' := z
    obtain ⟨a, rfl, ha⟩ := inA_t hw.1 z
    have e0 := env_of hC hA qE
    have hbb := w1_b hw.1
    have hl := act_le hw.1 hw.2.1 ha
    have hT := stT_1 (T := (0, G 88)) hw ha (aM N a) (Nat.le_refl _)
    have hT0 : (stT' N a (0, G 88) (aM N a)).1 ≤ 0 + 50 * aM N a := hT
    refine txt_step (T' := endT (stT' N a (0, G 88) (aM N a))) hC hM hA hD ?_ ?_
    · unfold fX9_writeStanding
      rw [nk_o lo.1, bnP_1, c_requireBook lo.1, if_neg (by rw [e4]; exact qE), bnXA_1, c_requireAct1 lo.1 hw.1 r ha, bnXA_1, nk_b lo.1, bnP_1, bk_r8 (nk_B lo.1), bnP_1, er_pen e0, bnP_1]
      refine top_bind (t_start (tx_of hC hA hb) (G 88)) fun S1 tx1 i1 j1 h1 => ?_
      rw [(er_act (en_S e0 h1) ha).1, bnP_1]
      refine top_bind (t_standLoop e0 ha h1 rfl) fun S2 tx2 i2 j2 h2 => ?_
      exact top_bind (t_end e0 h2 (by omega)) fun S3 tx3 i3 j3 h3 => top_ret h3
    · intro S G1 hM1 e88
      have mk := hM1.1
      have f81 := hM1.2.2.2.1.1
      have ok := (act_ok hw.1 hw.2.1 ha).1
      have g81 : up G1 80 0 0 81 = N := by rw [up_a (by decide)]; exact f81
      have g88 : up G1 80 0 0 88 = G 88 := by rw [up_a (by decide)]; exact e88
      have lp := m_standLoop (G := up G1 80 0 0) (T := (0, G 88)) (a := a) mk (by rw [g81]; exact hw) (by rw [g81]; exact rb_w5 r) (by rw [g81]; exact ha) rfl
      rw [g81] at lp
      have eo : fX10_ofAct (some 80) (nI a) 5 (wi S (mtG (up G1 80 0 0) (0, G 88))) = some (nI (aF N a)) := by
        have := m_ofAct (G := mtG (up G1 80 0 0) (0, G 88)) mk a 5 (by have := ok.1; omega)
        rw [mt_81, g81, ok.2.1] at this
        exact this
      rw [ms S G1 hM1, decide_eq_true qE, z', if_pos (show (true && true && true) = true from rfl), mk_P mk, bnP_1, mt_0, g88, nI_pred, eo, bnP_1, lp, bnS_1, m_written mk (by omega), bnS_1]
/-- case 34: WRITELEAF -/
theorem sc34 (hC : CR σ G J b bs ps P tx E I N U V T) (hM : MR σ G E I N U V T) (hA : AW E I N U V T) (hD : DK σ) (hb : hN σ + 40100 < BIG) {Lx : Nat} {xs : Nat → Int32} {v5 v : Int32} (h1 : sld Lx xs (v5 + 1) = some v) (v4 : Option Nat) : STEP σ (fL_c34 Lx xs (some 0) (some 80) (some 89) v4 v5 (wc σ G J)) := by
  have lo := lo_of hC hM hA hD
  have e4 := hC.2.1.1
  unfold fL_c34 fL_writeLeaf
  simp only [h1, bnP_1]
  have hwr : E.1 ≠ 0 → WFN N ∧ RB G J b N := fun q => ⟨hA.2.1 q, hC.2.2.2.1 q⟩
  have ms : ∀ S G1, MR S G1 E I N U V T → fX10_writeLeaf (some 80) v (wi S G1) = if (decide (E.1 ≠ 0) && thB N v && true) = true then bnP (pI (wi S (up G1 80 0 0)) (some 80) 10 23 0) (fun s6 => bnP (fX10_statusOf (some 80) v s6) (fun x7 => bnS ((if x7 = 2 then bnP (fX10_writesByte (some 80) 63 s6) (fun s34 => some ((), s34)) else bnP (fX10_firstOn (some 80) v s6) (fun x14 => bnS (lpS (fX10_writeLeaf_l1 (some 80) v) FUEL x14 s6) (fun r17 s31 => some ((), s31))))) (fun (j9 : Unit) s35 => bnP (gI s35 (some 80) 10 23) (fun x36 => some (x36, s35))))) else some (0, wi S (up G1 80 0 (thr (decide (E.1 ≠ 0)) (thB N v) true))) := by
    intro S G1 hM1
    have mk := hM1.1
    have f6 := hM1.2.1.1
    have f81 := hM1.2.2.2.1.1
    have ei : isL G1 80 v = (decide (E.1 ≠ 0) && thB N v) := by
      unfold isL thB
      rw [f6, show G1 (80 + 1) = N from f81]
    unfold fX10_writeLeaf
    rw [mk_o mk, bnP_1, m_mayLeafG mk (fun q => by rw [show G1 (80 + 1) = N from f81]; exact hA.2.1 (by rw [← f6]; exact q)) (by rw [f6]; exact hA.1.1), bnS_1, ei, f6, thr_pq, Bool.and_true]
    cases e0 : decide (E.1 ≠ 0)
    · rfl
    · cases e1 : thB N v
      · rfl
      · rfl
  refine chg3 (thB N v) true (e1 := 1) (e2 := 2) hC hM hA hD (fun S => rfl) (fun S => rfl) (fun _ _ h => by cases h) ?_ ?_ (fun _ _ h => by cases h) ms ?_
  · intro qE
    unfold fX9_writeLeaf
    rw [nk_o lo.1, bnP_1, c_requireBook lo.1, if_pos (by rw [e4]; exact qE), bnXA_e]
  · intro qE z
    obtain ⟨hw, r⟩ := hwr qE
    unfold fX9_writeLeaf
    unfold thB at z
    rw [nk_o lo.1, bnP_1, c_requireBook lo.1, if_neg (by rw [e4]; exact qE), bnXA_1, c_requireLeaf lo.1 hw.1 r, z, if_neg (by decide), bnXA_e]
  · intro qE z _
    obtain ⟨hw, r⟩ := hwr qE
    have z' := z
    unfold thB at z
    have z2 := z
    obtain ⟨l, rfl, hl⟩ := inL_t hw.1 z
    have e0 := env_of hC hA qE
    have hbb := w1_b hw.1
    have h12 := nlv_12 hw.1
    refine txt_step (T' := if N (99 + l) = 2 then tA (0, G 88) 63 else lfT N l (0, G 88) (pOn N l)) hC hM hA hD ?_ ?_
    · unfold fX9_writeLeaf
      rw [nk_o lo.1, bnP_1, c_requireBook lo.1, if_neg (by rw [e4]; exact qE), bnXA_1, c_requireLeaf lo.1 hw.1 r, z2, if_pos rfl, bnXA_1, er_pen e0, bnP_1]
      refine top_bind (t_start (tx_of hC hA hb) (G 88)) fun S1 tx1 i1 j1 h1 => ?_
      have e1 := en_S e0 h1
      have el : fX4_isLost (some (b + 10)) (nI l) S1 = some (decide (N (99 + l) = 2)) := c_isLost (σ := S1) (G := S1.2.2.2.1) (J := S1.2.2.2.2.1) (er_B e1) hw.1 e1.2.2.2.2 hl
      rw [er_book e1, bnP_1, show gR S1 (some b) 1 9 = some (some (b + 10)) from bk_r9 (σ := S1) (G := S1.2.2.2.1) (J := S1.2.2.2.2.1) (er_B e1), bnP_1, el, bnP_1]
      by_cases y : N (99 + l) = 2
      · rw [decide_eq_true y, if_pos rfl, if_pos y, er_pen e1, bnP_1]
        refine top_bind (T1 := tA (0, G 88) 63) (v := ()) (t_signs h1 (d := 63) (n := 1) (by decide) (by decide) (show 0 + 2 * 1 ≤ 20000 by decide)) fun S2 tx2 i2 j2 h2 => ?_
        rw [er_pen (en_S e0 h2), bnP_1, gR_S h2.1.1 h2.1.2.1, bnP_1, t_len h2, bnP_1]
        exact top_ret h2
      · have eb : gI S1 (some b) 1 0 = some (nI (nRm N)) := by
          have q := bk_I (σ := S1) (G := S1.2.2.2.1) (J := S1.2.2.2.2.1) (er_B e1) 0
          rw [e1.2.2.2.2.1.1, (w1_e hw.1).1] at q
          exact q
        rw [decide_eq_false y, if_neg (by decide), if_neg y, bnP_1, eb, bnP_1, pk_mul]
        refine top_bind (t_leafLoop e0 hl h1 rfl) fun S2 tx2 i2 j2 h2 => ?_
        rw [er_pen (en_S e0 h2), bnP_1, gR_S h2.1.1 h2.1.2.1, bnP_1, t_len h2, bnP_1]
        exact top_ret h2
    · intro S G1 hM1 e88
      have mk := hM1.1
      have f81 := hM1.2.2.2.1.1
      have g81 : up G1 80 0 0 81 = N := by rw [up_a (by decide)]; exact f81
      have g88 : up G1 80 0 0 88 = G 88 := by rw [up_a (by decide)]; exact e88
      have g81' : mtG (up G1 80 0 0) (0, G 88) (80 + 1) = N := by rw [mt_81]; exact g81
      have es : fX10_statusOf (some 80) (nI l) (wi S (mtG (up G1 80 0 0) (0, G 88))) = some (N (99 + l)) := by
        have := m_statusOf (G := mtG (up G1 80 0 0) (0, G 88)) mk l (by omega)
        rw [g81'] at this
        exact this
      rw [ms S G1 hM1, decide_eq_true qE, z', if_pos (show (true && true && true) = true from rfl), mk_P mk, bnP_1, mt_0, g88, es, bnP_1]
      by_cases y : N (99 + l) = 2
      · rw [if_pos y, if_pos y, show (63 : Int32) = nI 63 from rfl, m_byte mk (show 0 < 20000 by decide) (by decide), bnP_1, bnS_1, mk_I mk, bnP_1, mt_n]
      · have lp := m_leafLoop (G := up G1 80 0 0) (T := (0, G 88)) (l := l) mk (by rw [g81]; exact hw) (by rw [g81]; exact rb_w5 r) (by rw [g81]; exact hl) rfl
        rw [g81] at lp
        have ef : fX10_firstOn (some 80) (nI l) (wi S (mtG (up G1 80 0 0) (0, G 88))) = some (nI (l * nRm N)) := by
          have := m_firstOn (G := mtG (up G1 80 0 0) (0, G 88)) mk (by rw [g81']; exact hw.1) l
          rw [g81'] at this
          exact this
        rw [if_neg y, if_neg y, ef, bnP_1, lp, bnS_1, bnS_1, mk_I mk, bnP_1, mt_n]
/-- case 35: WRITECOPY -/
theorem sc35 (hC : CR σ G J b bs ps P tx E I N U V T) (hM : MR σ G E I N U V T) (hA : AW E I N U V T) (hD : DK σ) (hb : hN σ + 40100 < BIG) {Lx : Nat} {xs : Nat → Int32} {v5 v : Int32} (h1 : sld Lx xs (v5 + 1) = some v) (v4 : Option Nat) : STEP σ (fL_c35 Lx xs (some 0) (some 80) (some 89) v4 v5 (wc σ G J)) := by
  have lo := lo_of hC hM hA hD
  have e4 := hC.2.1.1
  unfold fL_c35 fL_writeCopy
  simp only [h1, bnP_1]
  have hwr : E.1 ≠ 0 → WFN N ∧ RB G J b N := fun q => ⟨hA.2.1 q, hC.2.2.2.1 q⟩
  have ms : ∀ S G1, MR S G1 E I N U V T → fX10_writeCopy (some 80) v (wi S G1) = if (decide (E.1 ≠ 0) && inR v (nI 0) (N 6 - 1) && true) = true then bnP (pI (wi S (up G1 80 0 0)) (some 80) 10 23 0) (fun s6 => bnP (fX10_ofCopy (some 80) v 0 s6) (fun x7 => bnP (fX10_ofAct (some 80) x7 5 s6) (fun x9 => bnS (lpS (fX10_writeCopy_l1 (some 80) v x7) FUEL x9 s6) (fun r12 s39 => bnS (fX10_written (some 80) s39) (fun x40 s42 => some (x40, s42)))))) else some (0, wi S (up G1 80 0 (thr (decide (E.1 ≠ 0)) (inR v (nI 0) (N 6 - 1)) true))) := by
    intro S G1 hM1
    have mk := hM1.1
    have f6 := hM1.2.1.1
    have f81 := hM1.2.2.2.1.1
    have ei : isC G1 80 v = (decide (E.1 ≠ 0) && inR v (nI 0) (N 6 - 1)) := by
      unfold isC
      rw [f6, show G1 (80 + 1) = N from f81]
    unfold fX10_writeCopy
    rw [mk_o mk, bnP_1, m_mayCopy mk (by rw [f6]; exact hA.1.1), bnS_1, ei, f6, thr_pq, Bool.and_true]
    cases e0 : decide (E.1 ≠ 0)
    · rfl
    · cases e1 : inR v (nI 0) (N 6 - 1)
      · rfl
      · rfl
  refine chg3 (inR v (nI 0) (N 6 - 1)) true (e1 := 1) (e2 := 2) hC hM hA hD (fun S => rfl) (fun S => rfl) (fun _ _ h => by cases h) ?_ ?_ (fun _ _ h => by cases h) ms ?_
  · intro qE
    unfold fX9_writeCopy
    rw [nk_o lo.1, bnP_1, c_requireBook lo.1, if_pos (by rw [e4]; exact qE), bnXA_e]
  · intro qE z
    obtain ⟨hw, r⟩ := hwr qE
    unfold fX9_writeCopy
    rw [nk_o lo.1, bnP_1, c_requireBook lo.1, if_neg (by rw [e4]; exact qE), bnXA_1, c_requireCopy lo.1 hw.1 r, z, if_neg (by decide), bnXA_e]
  · intro qE z _
    obtain ⟨hw, r⟩ := hwr qE
    have z' := z
    obtain ⟨c, rfl, hc⟩ := inC_t hw.1 z
    have e0 := env_of hC hA qE
    have hbb := w1_b hw.1
    have w4 := w4_c hw.2.2.2 hc
    have ha := w4.1.1
    have hl := act_le hw.1 hw.2.1 ha
    have hT := cyT_1 (T := (0, G 88)) hw hc (aM N (oO N c)) (Nat.le_refl _)
    have hT0 : (cyT N c (0, G 88) (aM N (oO N c))).1 ≤ 0 + 50 * aM N (oO N c) := hT
    refine txt_step (T' := endT (cyT N c (0, G 88) (aM N (oO N c)))) hC hM hA hD ?_ ?_
    · unfold fX9_writeCopy
      rw [nk_o lo.1, bnP_1, c_requireBook lo.1, if_neg (by rw [e4]; exact qE), bnXA_1, c_requireCopy lo.1 hw.1 r, z', if_pos rfl, bnXA_1, nI_clamp (by omega), bk_pI (nk_B lo.1) (by omega), bnP_1, (rc_dr hw.2.2.2 r.2.2 hc).1.1, c_requireAct1 lo.1 hw.1 r ha, bnXA_1, er_pen e0, bnP_1]
      refine top_bind (t_start (tx_of hC hA hb) (G 88)) fun S1 tx1 i1 j1 h1 => ?_
      rw [(er_act (en_S e0 h1) ha).1, bnP_1]
      refine top_bind (t_copyLoop e0 hc h1 rfl) fun S2 tx2 i2 j2 h2 => ?_
      exact top_bind (t_end e0 h2 (by omega)) fun S3 tx3 i3 j3 h3 => top_ret h3
    · intro S G1 hM1 e88
      have mk := hM1.1
      have f81 := hM1.2.2.2.1.1
      have ok := (act_ok hw.1 hw.2.1 ha).1
      have g81 : up G1 80 0 0 81 = N := by rw [up_a (by decide)]; exact f81
      have g88 : up G1 80 0 0 88 = G 88 := by rw [up_a (by decide)]; exact e88
      have g81' : mtG (up G1 80 0 0) (0, G 88) (80 + 1) = N := by rw [mt_81]; exact g81
      have lp := m_copyLoop (G := up G1 80 0 0) (T := (0, G 88)) (c := c) mk (by rw [g81]; exact hw) (by rw [g81]; exact rb_w5 r) (by rw [g81]; exact hc) rfl
      rw [g81] at lp
      have eo : fX10_ofAct (some 80) (nI (oO N c)) 5 (wi S (mtG (up G1 80 0 0) (0, G 88))) = some (nI (aF N (oO N c))) := by
        have := m_ofAct (G := mtG (up G1 80 0 0) (0, G 88)) mk (oO N c) 5 (by have := ok.1; omega)
        rw [g81', ok.2.1] at this
        exact this
      have ec : fX10_ofCopy (some 80) (nI c) 0 (wi S (mtG (up G1 80 0 0) (0, G 88))) = some (nI (oO N c)) := by
        have := m_ofCopy0 (G := mtG (up G1 80 0 0) (0, G 88)) mk (c := c) (by omega)
        rw [g81', w4.2.1] at this
        exact this
      rw [ms S G1 hM1, decide_eq_true qE, z', if_pos (show (true && true && true) = true from rfl), mk_P mk, bnP_1, mt_0, g88, ec, bnP_1, eo, bnP_1, lp, bnS_1, m_written mk (by omega), bnS_1]
/-- case 36: TEXTBYTE -/
theorem sc36 (hC : CR σ G J b bs ps P tx E I N U V T) (hM : MR σ G E I N U V T) (hA : AW E I N U V T) (hD : DK σ) (hb : hN σ + 40100 < BIG) {Lx : Nat} {xs : Nat → Int32} {v5 v : Int32} (h1 : sld Lx xs (v5 + 1) = some v) (v4 : Option Nat) : STEP σ (fL_c36 Lx xs (some 0) (some 80) (some 89) v4 v5 (wc σ G J)) := by
  have nk := cr_nk hC
  have ht := tx_of hC hA hb
  have hn := hC.1.1.1.1
  have r14 : gR (wc σ G J) (some 0) 9 14 = some (some 77) := gR_S hC.1.1.1.2.1 hC.1.1.2.1.2.2.2.2.2
  have h2 := hA.1.2.2.2.2
  have mq : ∀ J', fX10_textByte (some 80) v (wc σ G J') = some (if inR v (nI 0) (nI T.1 - 1) = true then G 88 v.toNatClampNeg else 0, wc σ (up G 80 0 (thr (inR v (nI 0) (nI T.1 - 1)) true true)) J') := fun J' => by
    have mk : MK (wc σ G J') 80 := hM.1
    show fX10_textByte (some 80) v (wi (wc σ G J') G) = _
    unfold fX10_textByte
    rw [mk_o mk, bnP_1, mk_I mk, bnP_1, hM.2.2.2.2.2.2.1, m_in, bnP_1, show inR v 0 (nI T.1 - 1) = inR v (nI 0) (nI T.1 - 1) from rfl, show (1 : Int32) = bI true from rfl, m_may mk, bnS_1]
    cases e : inR v (nI 0) (nI T.1 - bI true)
    · rfl
    · obtain ⟨n, rfl, hnn⟩ := inN_t (n := T.1) (by have := h2.1; omega) e
      rw [if_pos (show (true && true && true) = true from rfl), if_pos rfl, mk_r8 mk, bnP_1, mk_a8 mk (by have := h2.1; omega), bnP_1, up_a (by decide), nI_clamp (by have := h2.1; omega)]
      rfl
  unfold fL_c36 fL_textByte
  simp only [h1, bnP_1]
  cases e : inR v (nI 0) (nI T.1 - 1) with
  | false =>
    refine chg_err (r := .error 1) (t := 1) (i := 1) (j := 6) hC hM hA hD (qg_rf P G) ?_ (fun J' => ?_) ⟨by decide, rfl⟩ (by decide) (by decide)
    · have ef : fX9_textByte (some 0) v (wc σ G J) = some (.error 1) := by
        unfold fX9_textByte
        rw [nk_o nk, bnP_1]
        by_cases z : v < 0
        · rw [if_pos z]
        · obtain ⟨n, hnn, rfl⟩ := nI_of z
          have := inN_f (n := T.1) (j := n) (by have := h2.1; omega) hnn e
          rw [if_neg z, r14, bnP_1, gR_S ht.1.1 ht.1.2.1, bnP_1, t_len ht, bnP_1, if_neg (nI_nlt this hnn)]
      rw [ef]
      rfl
    · have := mq J'
      rw [e] at this
      exact this
  | true =>
    obtain ⟨n, rfl, hnn⟩ := inN_t (n := T.1) (by have := h2.1; omega) e
    obtain ⟨d, hd, ed⟩ := h2.2 n hnn
    obtain ⟨⟨a1, a2, a3, a4, a5, a6⟩, ⟨b1, b2, b3, b4, b5, b6⟩, ⟨c1, c2, c3, c4, c5, c6⟩, -⟩ := id ht
    have e88 : G 88 n = nI d := (hM.2.2.2.2.2.2.2 n hnn).trans ed
    have ec : fX9_textByte (some 0) (nI n) (wc σ G J) = some (.ok (nI d)) := by
      have ech : fJ5_charAt_5068e (some 78) (nI n) (wc σ G J) = some (nI d) := by
        have emn : mmn (nI T.1) (nI (hZ (wc σ G J) tx)) = nI T.1 := by
          unfold mmn
          rw [if_neg (nI_nlt c3 (by omega))]
        have eci : fJ0_checkIndex_df160 (nI n) (nI T.1) (wc σ G J) = some () := by
          unfold fJ0_checkIndex_df160 fJ3_checkIndex_8e157
          rw [if_neg (nI_pos (by omega)), if_pos (nI_lt hnn (by omega)), bnP_1]
        have eai : aI (wc σ G J) (some tx) 22 (nI n) = some (nI d) := by
          unfold aI
          dsimp only
          rw [if_pos ⟨b1, inb_nI (by omega) (by omega)⟩, nI_clamp (by omega), c4 n hnn, ed]
        unfold fJ5_charAt_5068e
        rw [isK_S a3, bnP_1, gI_S a3, bnP_1, gR_S a3 a4, bnP_1, gI_S a3, bnP_1, aL_S b1, bnP_1, c1, c2, shr0 (by omega), emn, eci, bnP_1, if_pos rfl, eai, bnP_1, byc_ok d hd]
        unfold nrC
        rw [if_pos (ch_ok d hd), bnP_1]
      unfold fX9_textByte
      rw [nk_o nk, bnP_1, if_neg (nI_pos (by omega)), r14, bnP_1, gR_S a1 a2, bnP_1, t_len ht, bnP_1, if_pos (nI_lt hnn (by omega)), bnP_1, gR_S a1 a2, bnP_1]
      unfold fJ4_charAt_5068e
      rw [isK_S a3, bnP_1, ech, bnP_1]
      unfold nrC
      rw [if_pos (ch_ok d hd), bnP_1, bnP_1]
    obtain ⟨y, hy⟩ := lq_gen (σ1 := σ) (G1 := G) (G2 := up G 80 0 0) (J1 := J) (m := 80) (d := 89) (i := 0) (j := 0) (C := xA (wc σ G J) (fX9_textByte (some 0) (nI n) (wc σ G J))) (M := fun s5 => fX10_textByte (some 80) (nI n) s5) (g := fun n3 s2 => if n3 = 1 then some (.ok 1, s2, 0, 0) else none) (r := .ok (nI d)) (x := nI d) ⟨hD.1.1, by omega, hD.1.2⟩ hM.1 (by rw [ec]; rfl) (fun J' => by
      have := mq J'
      rw [e, if_pos rfl, nI_clamp (by omega), e88] at this
      exact this) ⟨rfl, up_eq _ _ _ _⟩
    exact step_q hC hM hA hD hy (qg_m P G (Or.inl rfl) 0) (by decide) (by decide)
end SCW
