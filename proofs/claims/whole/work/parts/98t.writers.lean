/-! THE PURE LEVEL, 78: the class's writers -/
def atT (N : tN) (a : Nat) (T : tI) : Nat → tI
  | 0 => T
  | k + 1 => tS (inT N 94 (aF N a + k) (wdT N true (aF N a + k) (tS (atT N a T k) 40 (cntV (cF N) (aK N a) (aC N a) (aF N a + k)))) (wN' N (aF N a + k))) 41 (cntV (cT N) (aK N a) (aC N a) (aF N a + k))
def stT' (N : tN) (a : Nat) (T : tI) : Nat → tI
  | 0 => T
  | k + 1 => inT N 0 (aF N a + k) (if skN N (aF N a + k) = true then wdT N false (aF N a + k) (stT' N a T k) else stT' N a T k) (wN' N (aF N a + k))
def endT (T : tI) : tI := if T.1 = 0 then tA T 46 else T
def abN (N : tN) (g : Nat) : Nat := match fuN (fun a => decide (aF N a = g)) (nAc N) with
  | none => 0
  | some a => a + 1
def lfT (N : tN) (l : Nat) (T : tI) : Nat → tI
  | 0 => T
  | k + 1 => tW (if abN N (l * nRm N + k) = 0 then tB (lfT N l T k) else tA (tNm (tB (lfT N l T k)) (abN N (l * nRm N + k))) 58) (N (127 + 13 * (l * nRm N + k))) (N (127 + 13 * (l * nRm N + k) + 1))
def cyS (N : tN) (c g : Nat) (T : tI) : tI := if hwN N c g = true then wdT N false g T else T
def cyT (N : tN) (c : Nat) (T : tI) : Nat → tI
  | 0 => T
  | k + 1 => if oG N c = 0 then inT N 0 (aF N (oO N c) + k) (cyS N c (aF N (oO N c) + k) (cyT N c T k)) (wN' N (aF N (oO N c) + k)) else cyS N c (aF N (oO N c) + k) (cyT N c T k)
section WRL
variable {N : tN} {T : tI} {a c l g : Nat}
theorem atT_1 (hw : WFN N) (ha : a < nAc N) : ∀ k, k ≤ aM N a → (atT N a T k).1 ≤ T.1 + 66 * k := by
  have hl := act_le hw.1 hw.2.1 ha
  intro k
  induction k with
  | zero => exact fun _ => Nat.le_refl _
  | succ k ih =>
    intro hk
    have h0 := ih (by omega)
    have h4 := cv_4 hw ha (g := aF N a + k) (by omega) (by omega)
    have hi : wN' N (aF N a + k) < 5 := (hw.2.2.2.1 (aF N a + k) (by omega)).1.2
    have s1 := tS_1 (atT N a T k) 40 (cntV (cF N) (aK N a) (aC N a) (aF N a + k))
    have s2 := wdT_1 (N := N) (mk := true) (g := aF N a + k) (T := tS (atT N a T k) 40 (cntV (cF N) (aK N a) (aC N a) (aF N a + k)))
    have s3 := inT_1 (N := N) (mm := 94) (g := aF N a + k) (T := wdT N true (aF N a + k) (tS (atT N a T k) 40 (cntV (cF N) (aK N a) (aC N a) (aF N a + k)))) (wN' N (aF N a + k))
    have s4 := tS_1 (inT N 94 (aF N a + k) (wdT N true (aF N a + k) (tS (atT N a T k) 40 (cntV (cF N) (aK N a) (aC N a) (aF N a + k)))) (wN' N (aF N a + k))) 41 (cntV (cT N) (aK N a) (aC N a) (aF N a + k))
    show (tS _ _ _).1 ≤ _
    omega
theorem stT_1 (hw : WFN N) (ha : a < nAc N) : ∀ k, k ≤ aM N a → (stT' N a T k).1 ≤ T.1 + 50 * k := by
  have hl := act_le hw.1 hw.2.1 ha
  intro k
  induction k with
  | zero => exact fun _ => Nat.le_refl _
  | succ k ih =>
    intro hk
    have h0 := ih (by omega)
    have hi : wN' N (aF N a + k) < 5 := (hw.2.2.2.1 (aF N a + k) (by omega)).1.2
    have s2 := wdT_1 (N := N) (mk := false) (g := aF N a + k) (T := stT' N a T k)
    have s3 := inT_1 (N := N) (mm := 0) (g := aF N a + k) (T := if skN N (aF N a + k) = true then wdT N false (aF N a + k) (stT' N a T k) else stT' N a T k) (wN' N (aF N a + k))
    have s4 : (if skN N (aF N a + k) = true then wdT N false (aF N a + k) (stT' N a T k) else stT' N a T k).1 ≤ (stT' N a T k).1 + 10 := by
      split
      · omega
      · omega
    show (inT _ _ _ _ _).1 ≤ _
    omega
theorem endT_1 (T : tI) : (endT T).1 ≤ T.1 + 1 := by
  unfold endT
  split
  · exact Nat.le_refl _
  · omega
theorem lfT_1 (l : Nat) : ∀ k, (lfT N l T k).1 ≤ T.1 + 12 * k
  | 0 => Nat.le_refl _
  | k + 1 => by
    have h0 := lfT_1 l k
    have s1 := tB_1 (lfT N l T k)
    have s2 := tNm_1 (tB (lfT N l T k)) (abN N (l * nRm N + k))
    have s3 := tW_1 (if abN N (l * nRm N + k) = 0 then tB (lfT N l T k) else tA (tNm (tB (lfT N l T k)) (abN N (l * nRm N + k))) 58) (N (127 + 13 * (l * nRm N + k))) (N (127 + 13 * (l * nRm N + k) + 1))
    have s4 : (if abN N (l * nRm N + k) = 0 then tB (lfT N l T k) else tA (tNm (tB (lfT N l T k)) (abN N (l * nRm N + k))) 58).1 ≤ (lfT N l T k).1 + 4 := by
      split
      · omega
      · show (tNm (tB (lfT N l T k)) (abN N (l * nRm N + k))).1 + 1 ≤ _
        omega
    show (tW _ _ _).1 ≤ _
    omega
theorem cyS_1 : (cyS N c g T).1 ≤ T.1 + 10 := by
  unfold cyS
  split
  · exact wdT_1.2
  · omega
theorem cyT_1 (hw : WFN N) (hc : c < nCp N) : ∀ k, k ≤ aM N (oO N c) → (cyT N c T k).1 ≤ T.1 + 50 * k := by
  have ha := (w4_c hw.2.2.2 hc).1.1
  have hl := act_le hw.1 hw.2.1 ha
  intro k
  induction k with
  | zero => exact fun _ => Nat.le_refl _
  | succ k ih =>
    intro hk
    have h0 := ih (by omega)
    have hi : wN' N (aF N (oO N c) + k) < 5 := (hw.2.2.2.1 (aF N (oO N c) + k) (by omega)).1.2
    have s2 := cyS_1 (N := N) (c := c) (g := aF N (oO N c) + k) (T := cyT N c T k)
    have s3 := inT_1 (N := N) (mm := 0) (g := aF N (oO N c) + k) (T := cyS N c (aF N (oO N c) + k) (cyT N c T k)) (wN' N (aF N (oO N c) + k))
    show (if oG N c = 0 then inT N 0 (aF N (oO N c) + k) (cyS N c (aF N (oO N c) + k) (cyT N c T k)) (wN' N (aF N (oO N c) + k)) else cyS N c (aF N (oO N c) + k) (cyT N c T k)).1 ≤ _
    split
    · omega
    · omega
end WRL
section WRC
variable {S0 S : HpT} {t0 tx i j b a c l g : Nat} {N : tN} {T : tI}
/-! the Book as it is read -/
theorem er_pen (e : ENV S t0 b N) : gR S (some 0) 9 14 = some (some 77) := gR_S e.1.1 e.2.1
theorem er_book (e : ENV S t0 b N) : gR S (some 0) 9 5 = some (some b) := gR_S e.1.1 e.1.2.2.1
theorem er_o (e : ENV S t0 b N) : isK S (some 0) 9 = some () := isK_S e.1.1
theorem er_B (e : ENV S t0 b N) : BK S b := e.1.2.2.2
theorem er_scr (e : ENV S t0 b N) : gR S (some b) 1 8 = some (some (b + 3)) := bk_r8 (σ := S) (G := S.2.2.2.1) (J := S.2.2.2.2.1) (er_B e)
theorem er_known (e : ENV S t0 b N) (hg : g < nWd N) : fX1_isKnown (some b) (nI g) S = some (knN N g) := c_isKnown (σ := S) (G := S.2.2.2.1) (J := S.2.2.2.2.1) (er_B e) e.2.2.2.1 e.2.2.2.2 hg
theorem er_g (e : ENV S t0 b N) (hg : g < nWd N) : g < 240 := by
  have := w1_b e.2.2.2.1.1
  omega
theorem er_r1 (e : ENV S t0 b N) : gR S (some (b + 3)) 8 1 = some (some (b + 3 + 1)) := sk_r1 (σ := S) (G := S.2.2.2.1) (J := S.2.2.2.2.1) (bk_S (er_B e))
theorem er_word (e : ENV S t0 b N) (hg : g < nWd N) : ∃ w, aJ S (some (b + 3 + 1)) (nI g) = some w ∧ wdR (N (127 + 13 * g)) (N (127 + 13 * g + 1)) w := ⟨_, sk_a1 (σ := S) (G := S.2.2.2.1) (J := S.2.2.2.2.1) (bk_S (er_B e)) (er_g e hg), rb_wd e.2.2.2.2 hg⟩
theorem er_r2 (e : ENV S t0 b N) : gR S (some (b + 3)) 8 2 = some (some (b + 3 + 2)) := sk_r2 (σ := S) (G := S.2.2.2.1) (J := S.2.2.2.2.1) (bk_S (er_B e))
theorem er_open (e : ENV S t0 b N) (ha : a < nAc N) (h1 : aF N a ≤ g) (h2 : g < aF N a + aM N a) : aI S (some (b + 3 + 2)) 20 (nI g) = some (nI (cntV (cF N) (aK N a) (aC N a) g)) := by
  have hl := act_le e.2.2.2.1.1 e.2.2.2.1.2.1 ha
  have q := sk_a2 (σ := S) (G := S.2.2.2.1) (J := S.2.2.2.2.1) (bk_S (er_B e)) (er_g e (g := g) (by omega))
  rw [rb_op e.2.2.2.2 ha h1 h2] at q
  exact q
theorem er_r3 (e : ENV S t0 b N) : gR S (some (b + 3)) 8 3 = some (some (b + 3 + 3)) := sk_r3 (σ := S) (G := S.2.2.2.1) (J := S.2.2.2.2.1) (bk_S (er_B e))
theorem er_close (e : ENV S t0 b N) (ha : a < nAc N) (h1 : aF N a ≤ g) (h2 : g < aF N a + aM N a) : aI S (some (b + 3 + 3)) 20 (nI g) = some (nI (cntV (cT N) (aK N a) (aC N a) g)) := by
  have hl := act_le e.2.2.2.1.1 e.2.2.2.1.2.1 ha
  have q := sk_a3 (σ := S) (G := S.2.2.2.1) (J := S.2.2.2.2.1) (bk_S (er_B e)) (er_g e (g := g) (by omega))
  rw [rb_cs e.2.2.2.2 ha h1 h2] at q
  exact q
theorem er_r4 (e : ENV S t0 b N) : gR S (some (b + 3)) 8 4 = some (some (b + 3 + 4)) := sk_r4 (σ := S) (G := S.2.2.2.1) (J := S.2.2.2.2.1) (bk_S (er_B e))
theorem er_struck (e : ENV S t0 b N) (hg : g < nWd N) : aI S (some (b + 3 + 4)) 23 (nI g) = some (N (127 + 13 * g + 2)) := by
  have q := sk_a4 (σ := S) (G := S.2.2.2.1) (J := S.2.2.2.2.1) (bk_S (er_B e)) (er_g e hg)
  rw [rb_sk e.2.2.2.2 hg] at q
  exact q
theorem er_r5 (e : ENV S t0 b N) : gR S (some (b + 3)) 8 5 = some (some (b + 3 + 5)) := sk_r5 (σ := S) (G := S.2.2.2.1) (J := S.2.2.2.2.1) (bk_S (er_B e))
theorem er_ins (e : ENV S t0 b N) (hg : g < nWd N) : aI S (some (b + 3 + 5)) 20 (nI g) = some (nI (wN' N g)) := by
  have q := sk_a5 (σ := S) (G := S.2.2.2.1) (J := S.2.2.2.2.1) (bk_S (er_B e)) (er_g e hg)
  rw [rb_in e.2.2.2.2 hg, (e.2.2.2.1.2.2.2.1 g hg).1.1] at q
  exact q
theorem er_insertOf (e : ENV S t0 b N) (hg : g < nWd N) {n : Nat} (hn : n < wN' N g) : ∃ w, fX8_insertOf (some (b + 3)) (nI g) (nI n) S = some w ∧ wdR (N (127 + 13 * g + 5 + 2 * n)) (N (127 + 13 * g + 5 + 2 * n + 1)) w := by
  have hi := (e.2.2.2.1.2.2.2.1 g hg).1
  have hi2 : wN' N g < 5 := hi.2
  have hi3 : nv N (127 + 13 * g + 4) < 5 := hi.2
  have q := c_insertOf (σ := S) (G := S.2.2.2.1) (J := S.2.2.2.2.1) (er_B e) e.2.2.2.1 e.2.2.2.2 hg (nI n)
  rw [hi.1, inN_e (by omega) (by omega), decide_eq_true (show n < nv N (127 + 13 * g + 4) from hn), if_pos rfl, nI_clamp (by omega)] at q
  exact ⟨_, q, rb_is e.2.2.2.2 hg hn⟩
theorem er_act (e : ENV S t0 b N) (ha : a < nAc N) : gI S (some (b + 15 + a)) 0 5 = some (nI (aF N a)) ∧ gI S (some (b + 15 + a)) 0 6 = some (nI (aM N a)) := by
  have hw := e.2.2.2.1
  obtain ⟨⟨p1, p2, p3, p4, p5⟩, -⟩ := act_ok hw.1 hw.2.1 ha
  have ra := rb_act e.2.2.2.2 ha
  have q5 := bk_aI (σ := S) (G := S.2.2.2.1) (J := S.2.2.2.2.1) (er_B e) p1 5
  have q6 := bk_aI (σ := S) (G := S.2.2.2.1) (J := S.2.2.2.2.1) (er_B e) p1 6
  rw [ra.2.2.2.2.2.1, p2] at q5
  rw [ra.2.2.2.2.2.2.1, p3] at q6
  exact ⟨q5, q6⟩
theorem sk_0 : N (127 + 13 * g + 2) = 0 ↔ skN N g = true := by
  unfold skN
  rw [decide_eq_true_eq]
/-! interlined words -/
theorem t_insertsA (e0 : ENV S0 t0 b N) (hg : g < nWd N) (h : TXS S0 t0 T S tx i j) (h2 : T.1 + 40 ≤ 20000) (v2 : Option Nat) : TOP S0 t0 (lpA (fX9_writeAct_l2 (some 0) v2 (some (b + 3)) (nI g)) FUEL 0 S) () (inT N 94 g T (wN' N g)) i j := by
  have hi : wN' N g < 5 := (e0.2.2.2.1.2.2.2.1 g hg).1.2
  refine top_loop (fun k => nI k) (inT N 94 g T) (wN' N g) rfl rfl (by omega) (fun k hk S1 tx1 i1 j1 h1 => ?_) (fun S1 tx1 i1 j1 h1 => ?_) h
  · have e := en_S e0 h1
    have hl := inT_1 (N := N) (mm := 94) (g := g) (T := T) k
    obtain ⟨w, ew, hw⟩ := er_insertOf e hg hk
    unfold fX9_writeAct_l2
    rw [er_r5 e, bnP_1, er_ins e hg, bnP_1, if_neg (nI_ge hk (by omega)), er_pen e, bnP_1, ew, bnP_1, nI_a1]
    exact top_bind (t_pmark h1 (d := 94) (by decide) hw (by omega)) fun S2 tx2 i2 j2 h2 => top_ret h2
  · have e := en_S e0 h1
    unfold fX9_writeAct_l2
    rw [er_r5 e, bnP_1, er_ins e hg, bnP_1, if_pos (nI_le (Nat.le_refl _) (by omega))]
    exact top_ret h1
theorem t_inserts (e0 : ENV S0 t0 b N) (hg : g < nWd N) (h : TXS S0 t0 T S tx i j) (h2 : T.1 + 40 ≤ 20000) : TOP S0 t0 (fX9_writeInserts (some 0) (nI g) S) () (inT N 0 g T (wN' N g)) i j := by
  have hi : wN' N g < 5 := (e0.2.2.2.1.2.2.2.1 g hg).1.2
  unfold fX9_writeInserts
  rw [er_o (en_S e0 h), bnP_1]
  refine top_bind (T1 := inT N 0 g T (wN' N g)) (v := ()) (top_loop (fun k => nI k) (inT N 0 g T) (wN' N g) rfl rfl (by omega) (fun k hk S1 tx1 i1 j1 h1 => ?_) (fun S1 tx1 i1 j1 h1 => ?_) h) fun S1 tx1 i1 j1 h1 => top_ret h1
  · have e := en_S e0 h1
    have hl := inT_1 (N := N) (mm := 0) (g := g) (T := T) k
    obtain ⟨w, ew, hw⟩ := er_insertOf e hg hk
    unfold fX9_writeInserts_l1
    rw [er_book e, bnP_1, er_scr e, bnP_1, er_r5 e, bnP_1, er_ins e hg, bnP_1, if_neg (nI_ge hk (by omega)), er_pen e, bnP_1, bnP_1, er_scr e, bnP_1, ew, bnP_1, nI_a1]
    exact top_bind (t_pword h1 hw (by omega)) fun S2 tx2 i2 j2 h2 => top_ret h2
  · have e := en_S e0 h1
    unfold fX9_writeInserts_l1
    rw [er_book e, bnP_1, er_scr e, bnP_1, er_r5 e, bnP_1, er_ins e hg, bnP_1, if_pos (nI_le (Nat.le_refl _) (by omega))]
    exact top_ret h1
theorem t_end (e0 : ENV S0 t0 b N) (h : TXS S0 t0 T S tx i j) (h2 : T.1 + 1 ≤ 20000) : TOP S0 t0 (fX9_endOfWords (some 0) S) (nI (endT T).1) (endT T) i j := by
  have e := en_S e0 h
  unfold fX9_endOfWords endT
  rw [er_o e, bnP_1, er_pen e, bnP_1, gR_S h.1.1 h.1.2.1, bnP_1, t_len h, bnP_1]
  by_cases z : T.1 = 0
  · have e1 : tS T 46 1 = tA T 46 := by
      show tA (tB T) 46 = _
      unfold tB
      rw [if_pos z]
    rw [if_pos z, if_pos (show nI T.1 = 0 by rw [z]; rfl)]
    refine top_bind (T1 := tA T 46) (v := ()) ?_ fun S1 tx1 i1 j1 h1 => ?_
    · rw [bnP_1]
      refine top_bind (T1 := tA T 46) (v := ()) ?_ fun S1 tx1 i1 j1 h1 => top_ret h1
      rw [← e1]
      exact t_signs h (d := 46) (n := 1) (by decide) (by decide) (by omega)
    · have e' := en_S e0 h1
      rw [er_pen e', bnP_1, gR_S h1.1.1 h1.1.2.1, bnP_1, t_len h1, bnP_1]
      exact top_ret h1
  · rw [if_neg z, if_neg (show ¬ nI T.1 = 0 from fun q => z ((nI_eq (b := 0) (by omega) (by decide)).mp q))]
    refine top_bind (T1 := T) (v := ()) (top_ret h) fun S1 tx1 i1 j1 h1 => ?_
    have e' := en_S e0 h1
    rw [er_pen e', bnP_1, gR_S h1.1.1 h1.1.2.1, bnP_1, t_len h1, bnP_1]
    exact top_ret h1
/-! the loops -/
theorem t_actLoop (e0 : ENV S0 t0 b N) (ha : a < nAc N) (h : TXS S0 t0 T S tx i j) (h0 : T.1 = 0) : TOP S0 t0 (lpA (fX9_writeAct_l1 (some 0) (some (b + 15 + a)) (some (b + 3))) FUEL (nI (aF N a)) S) () (atT N a T (aM N a)) i j := by
  have hw := e0.2.2.2.1
  have hl := act_le hw.1 hw.2.1 ha
  have hb := w1_b hw.1
  refine top_loop (fun k => nI (aF N a + k)) (atT N a T) (aM N a) rfl rfl (by omega) (fun k hk S1 tx1 i1 j1 h1 => ?_) (fun S1 tx1 i1 j1 h1 => ?_) h
  · have e := en_S e0 h1
    have hg : aF N a + k < nWd N := by omega
    have hT := atT_1 (T := T) hw ha k (by omega)
    have h4 := cv_4 hw ha (g := aF N a + k) (by omega) (by omega)
    have hi : wN' N (aF N a + k) < 5 := (hw.2.2.2.1 (aF N a + k) hg).1.2
    have s1 := tS_1 (atT N a T k) 40 (cntV (cF N) (aK N a) (aC N a) (aF N a + k))
    have s2 := wdT_1 (N := N) (mk := true) (g := aF N a + k) (T := tS (atT N a T k) 40 (cntV (cF N) (aK N a) (aC N a) (aF N a + k)))
    have s3 := inT_1 (N := N) (mm := 94) (g := aF N a + k) (T := wdT N true (aF N a + k) (tS (atT N a T k) 40 (cntV (cF N) (aK N a) (aC N a) (aF N a + k)))) (wN' N (aF N a + k))
    unfold fX9_writeAct_l1
    rw [(er_act e ha).1, bnP_1, (er_act e ha).2, bnP_1, nI_add, if_neg (nI_ge (by omega) (by omega)), er_pen e, bnP_1, er_r2 e, bnP_1, er_open e ha (by omega) (by omega), bnP_1]
    refine top_bind (t_signs h1 (d := 40) (by decide) (by omega) (by omega)) fun S2 tx2 i2 j2 h2 => ?_
    have e2 := en_S e0 h2
    rw [er_book e2, bnP_1, er_known e2 hg, bnP_1]
    refine top_bind (T1 := wdT N true (aF N a + k) (tS (atT N a T k) 40 (cntV (cF N) (aK N a) (aC N a) (aF N a + k)))) (v := ()) ?_ fun S3 tx3 i3 j3 h3 => ?_
    · unfold wdT
      cases z : knN N (aF N a + k)
      · rw [if_neg (by decide), if_neg (by decide), er_pen e2, bnP_1]
        exact top_bind (t_signs h2 (d := 63) (n := 1) (by decide) (by decide) (by omega)) fun S3 tx3 i3 j3 h3 => top_ret h3
      · obtain ⟨w, ew, hwd⟩ := er_word e2 hg
        rw [if_pos rfl, if_pos rfl, er_r4 e2, bnP_1, er_struck e2 hg, bnP_1, Bool.true_and]
        cases z2 : skN N (aF N a + k)
        · rw [if_neg (fun q => by rw [sk_0.mp q] at z2; cases z2), if_pos (show (!false) = true from rfl), er_pen e2, bnP_1, er_r1 e2, bnP_1, ew, bnP_1]
          exact top_bind (t_pmark h2 (d := 45) (by decide) hwd (by omega)) fun S3 tx3 i3 j3 h3 => top_ret h3
        · rw [if_pos (sk_0.mpr z2), if_neg (by decide), er_pen e2, bnP_1, er_r1 e2, bnP_1, ew, bnP_1]
          exact top_bind (t_pword h2 hwd (by omega)) fun S3 tx3 i3 j3 h3 => top_ret h3
    · refine top_bind (t_insertsA e0 hg h3 (by omega) _) fun S4 tx4 i4 j4 h4' => ?_
      have e4 := en_S e0 h4'
      rw [er_pen e4, bnP_1, er_r3 e4, bnP_1, er_close e4 ha (by omega) (by omega), bnP_1, nI_a1]
      exact top_bind (t_signs h4' (d := 41) (by decide) (by omega) (by omega)) fun S5 tx5 i5 j5 h5 => top_ret h5
  · have e := en_S e0 h1
    unfold fX9_writeAct_l1
    rw [(er_act e ha).1, bnP_1, (er_act e ha).2, bnP_1, nI_add, if_pos (nI_le (Nat.le_refl _) (by omega))]
    exact top_ret h1
theorem t_standLoop (e0 : ENV S0 t0 b N) (ha : a < nAc N) (h : TXS S0 t0 T S tx i j) (h0 : T.1 = 0) : TOP S0 t0 (lpA (fX9_writeStanding_l1 (some 0) (some (b + 15 + a)) (some (b + 3))) FUEL (nI (aF N a)) S) () (stT' N a T (aM N a)) i j := by
  have hw := e0.2.2.2.1
  have hl := act_le hw.1 hw.2.1 ha
  have hb := w1_b hw.1
  refine top_loop (fun k => nI (aF N a + k)) (stT' N a T) (aM N a) rfl rfl (by omega) (fun k hk S1 tx1 i1 j1 h1 => ?_) (fun S1 tx1 i1 j1 h1 => ?_) h
  · have e := en_S e0 h1
    have hg : aF N a + k < nWd N := by omega
    have hT := stT_1 (T := T) hw ha k (by omega)
    have hi : wN' N (aF N a + k) < 5 := (hw.2.2.2.1 (aF N a + k) hg).1.2
    have s2 := wdT_1 (N := N) (mk := false) (g := aF N a + k) (T := stT' N a T k)
    unfold fX9_writeStanding_l1
    rw [(er_act e ha).1, bnP_1, (er_act e ha).2, bnP_1, nI_add, if_neg (nI_ge (by omega) (by omega)), er_r4 e, bnP_1, er_struck e hg, bnP_1]
    refine top_bind (T1 := if skN N (aF N a + k) = true then wdT N false (aF N a + k) (stT' N a T k) else stT' N a T k) (v := ()) ?_ fun S3 tx3 i3 j3 h3 => ?_
    · cases z2 : skN N (aF N a + k)
      · have z3 : ¬ N (127 + 13 * (aF N a + k) + 2) = 0 := fun q => by rw [sk_0.mp q] at z2; cases z2
        rw [if_neg z3, if_neg (by decide), bnP_1, er_struck e hg, bnP_1, if_neg z3]
        exact top_ret h1
      · have z3 := sk_0.mpr z2
        rw [if_pos z3, if_pos rfl, er_book e, bnP_1, er_known e hg, bnP_1]
        unfold wdT
        cases z : knN N (aF N a + k)
        · rw [if_neg (by decide), if_neg (by decide), bnP_1, er_struck e hg, bnP_1, if_pos z3, er_pen e, bnP_1]
          exact top_bind (t_signs h1 (d := 63) (n := 1) (by decide) (by decide) (by omega)) fun S3 tx3 i3 j3 h3 => top_ret h3
        · obtain ⟨w, ew, hwd⟩ := er_word e hg
          rw [if_pos rfl, if_pos rfl, er_pen e, bnP_1, er_r1 e, bnP_1, ew, bnP_1, Bool.false_and, if_neg (by decide)]
          exact top_bind (t_pword h1 hwd (by omega)) fun S3 tx3 i3 j3 h3 => top_ret h3
    · have s4 : (if skN N (aF N a + k) = true then wdT N false (aF N a + k) (stT' N a T k) else stT' N a T k).1 ≤ (stT' N a T k).1 + 10 := by
        split
        · omega
        · omega
      rw [nI_a1]
      exact top_bind (t_inserts e0 hg h3 (by omega)) fun S4 tx4 i4 j4 h4 => top_ret h4
  · have e := en_S e0 h1
    unfold fX9_writeStanding_l1
    rw [(er_act e ha).1, bnP_1, (er_act e ha).2, bnP_1, nI_add, if_pos (nI_le (Nat.le_refl _) (by omega))]
    exact top_ret h1
theorem kn_hw (hc : c < nCp N) (h : hwN N c g = true) : knN N g = true := by
  unfold knN
  rw [show decide (0 < cwN N g) = true from decide_eq_true (cntN_one (p := fun c => hwN N c g) hc h), Bool.or_true]
theorem t_copyLoop (e0 : ENV S0 t0 b N) (hc : c < nCp N) (h : TXS S0 t0 T S tx i j) (h0 : T.1 = 0) : TOP S0 t0 (lpA (fX9_writeCopy_l1 (some 0) (some (b + 25 + c)) (some (b + 15 + oO N c))) FUEL (nI (aF N (oO N c))) S) () (cyT N c T (aM N (oO N c))) i j := by
  have hw := e0.2.2.2.1
  have ha := (w4_c hw.2.2.2 hc).1.1
  have hgr := (w4_c hw.2.2.2 hc).1.2
  have hl := act_le hw.1 hw.2.1 ha
  have hb := w1_b hw.1
  refine top_loop (fun k => nI (aF N (oO N c) + k)) (cyT N c T) (aM N (oO N c)) rfl rfl (by omega) (fun k hk S1 tx1 i1 j1 h1 => ?_) (fun S1 tx1 i1 j1 h1 => ?_) h
  · have e := en_S e0 h1
    have hg : aF N (oO N c) + k < nWd N := by omega
    have hT := cyT_1 (T := T) hw hc k (by omega)
    have hi : wN' N (aF N (oO N c) + k) < 5 := (hw.2.2.2.1 (aF N (oO N c) + k) hg).1.2
    have s2 := cyS_1 (N := N) (c := c) (g := aF N (oO N c) + k) (T := cyT N c T k)
    have eh : fX3_holds (some (b + 25 + c)) (some (b + 3)) (nI (aF N (oO N c) + k)) S1 = some (hwN N c (aF N (oO N c) + k)) := c_holds (σ := S1) (G := S1.2.2.2.1) (J := S1.2.2.2.2.1) (er_B e) hw e.2.2.2.2 hc hg
    unfold fX9_writeCopy_l1
    rw [(er_act e ha).1, bnP_1, (er_act e ha).2, bnP_1, nI_add, if_neg (nI_ge (by omega) (by omega)), er_book e, bnP_1, er_scr e, bnP_1, eh, bnP_1]
    refine top_bind (T1 := cyS N c (aF N (oO N c) + k) (cyT N c T k)) (v := ()) ?_ fun S3 tx3 i3 j3 h3 => ?_
    · unfold cyS
      cases z : hwN N c (aF N (oO N c) + k)
      · rw [if_neg (by decide), if_neg (by decide)]
        exact top_ret h1
      · obtain ⟨w, ew, hwd⟩ := er_word e hg
        unfold wdT
        rw [if_pos rfl, if_pos rfl, if_pos (kn_hw hc z), er_pen e, bnP_1, bnP_1, er_scr e, bnP_1, er_r1 e, bnP_1, ew, bnP_1, Bool.false_and, if_neg (by decide)]
        exact top_bind (t_pword h1 hwd (by omega)) fun S3 tx3 i3 j3 h3 => top_ret h3
    · have e3 := en_S e0 h3
      have eg : gI S3 (some (b + 25 + c)) 3 1 = some (nI (oG N c)) := by
        have q := bk_pI (σ := S3) (G := S3.2.2.2.1) (J := S3.2.2.2.2.1) (er_B e3) (j := c) (by omega) 1
        rw [(rc_dr hw.2.2.2 e3.2.2.2.2.2.2 hc).1.2.1] at q
        exact q
      rw [eg, bnP_1, nI_a1]
      show TOP S0 t0 _ _ (if oG N c = 0 then inT N 0 (aF N (oO N c) + k) (cyS N c (aF N (oO N c) + k) (cyT N c T k)) (wN' N (aF N (oO N c) + k)) else cyS N c (aF N (oO N c) + k) (cyT N c T k)) i3 j3
      by_cases z : oG N c = 0
      · rw [if_pos z, if_pos (show nI (oG N c) = 0 by rw [z]; rfl)]
        exact top_bind (t_inserts e0 hg h3 (by omega)) fun S4 tx4 i4 j4 h4 => top_ret h4
      · rw [if_neg z, if_neg (show ¬ nI (oG N c) = 0 from fun q => z ((nI_eq (b := 0) (by omega) (by decide)).mp q))]
        exact top_ret h3
  · have e := en_S e0 h1
    unfold fX9_writeCopy_l1
    rw [(er_act e ha).1, bnP_1, (er_act e ha).2, bnP_1, nI_add, if_pos (nI_le (Nat.le_refl _) (by omega))]
    exact top_ret h1
theorem c_actBegunAt (e : ENV S t0 b N) (hg : g < 2 ^ 31) : fX1_actBegunAt (some b) (nI g) S = some (nI (abN N g)) := by
  have hw := e.2.2.2.1
  have hb := w1_b hw.1
  have B := er_B e
  have en : gI S (some b) 1 2 = some (nI (nAc N)) := by
    have q := bk_I (σ := S) (G := S.2.2.2.1) (J := S.2.2.2.2.1) B 2
    rw [rb_n e.2.2.2.2 hw.1] at q
    exact q
  have er6 : gR S (some b) 1 6 = some (some (b + 1)) := bk_r6 (σ := S) (G := S.2.2.2.1) (J := S.2.2.2.2.1) B
  have eaR : ∀ k, k < 10 → aR S (some (b + 1)) 25 (nI k) = some (some (b + 15 + k)) := fun k hk => bk_aR (σ := S) (G := S.2.2.2.1) (J := S.2.2.2.2.1) B hk
  have step : ∀ k, k < nAc N → ¬ aF N k = g → fX1_actBegunAt_l1 (some b) (nI g) S (nI k) = some (.inl (nI (k + 1))) := fun k hk q => by
    have := w2_b hw.2.1 hk
    unfold fX1_actBegunAt_l1
    rw [en, bnP_1, if_neg (nI_ge hk (by omega)), er6, bnP_1, eaR k (by omega), bnP_1, (er_act e hk).1, bnP_1, if_neg (fun y => q ((nI_eq (by omega) hg).mp y)), nI_a1]
  unfold fX1_actBegunAt abN
  rw [isK_S B.2.1.1, bnP_1]
  cases z : fuN (fun a => decide (aF N a = g)) (nAc N) with
  | none =>
    have e1 : lpP (fX1_actBegunAt_l1 (some b) (nI g) S) FUEL 0 = some (.inl ()) := lpP_f (nAc N) (fun k => nI k) rfl (by omega) (fun k hk => step k hk (of_decide_eq_false (fuN_none z k hk))) (by
      unfold fX1_actBegunAt_l1
      rw [en, bnP_1, if_pos (nI_le (Nat.le_refl _) (by omega))])
    rw [e1, bnP_1]
    rfl
  | some a =>
    obtain ⟨z1, z2, z3⟩ := fuN_some z
    have e1 : lpP (fX1_actBegunAt_l1 (some b) (nI g) S) FUEL 0 = some (.inr (nI (a + 1))) := lpP_f a (fun k => nI k) rfl (by omega) (fun k hk => step k (by omega) (of_decide_eq_false (z3 k hk))) (by
      unfold fX1_actBegunAt_l1
      rw [en, bnP_1, if_neg (nI_ge z1 (by omega)), er6, bnP_1, eaR a (by omega), bnP_1, (er_act e z1).1, bnP_1, if_pos (congrArg nI (of_decide_eq_true z2)), nI_a1])
    rw [e1, bnP_1]
theorem abN_le (w1 : W1 N) : abN N g ≤ 10 := by
  have hb := w1_b w1
  unfold abN
  cases z : fuN (fun a => decide (aF N a = g)) (nAc N) with
  | none => exact Nat.zero_le _
  | some a =>
    have := (fuN_some z).1
    show a + 1 ≤ 10
    omega
theorem t_leafLoop (e0 : ENV S0 t0 b N) (hl : l < nLv N) (h : TXS S0 t0 T S tx i j) (h0 : T.1 = 0) : TOP S0 t0 (lpA (fX9_writeLeaf_l1 (some 0) (nI l) (nI (l * nRm N))) FUEL (nI (l * nRm N)) S) () (lfT N l T (pOn N l)) i j := by
  have hw := e0.2.2.2.1
  have hb := w1_b hw.1
  have hp := pOn_b hw.1 hl
  refine top_loop (fun k => nI (l * nRm N + k)) (lfT N l T) (pOn N l) rfl rfl (by omega) (fun k hk S1 tx1 i1 j1 h1 => ?_) (fun S1 tx1 i1 j1 h1 => ?_) h
  · have e := en_S e0 h1
    have hg : l * nRm N + k < nWd N := by omega
    have hT := lfT_1 (N := N) (T := T) l k
    have hab := abN_le (N := N) (g := l * nRm N + k) hw.1
    have ew : fX1_wordsOn (some b) (nI l) S1 = some (nI (pOn N l)) := c_wordsOn (σ := S1) (G := S1.2.2.2.1) (J := S1.2.2.2.2.1) (er_B e) hw.1 e.2.2.2.2 hl
    obtain ⟨w, ewd, hwd⟩ := er_word e hg
    unfold fX9_writeLeaf_l1
    rw [er_book e, bnP_1, ew, bnP_1, nI_add, if_neg (nI_ge (by omega) (by omega)), bnP_1, c_actBegunAt e (by omega), bnP_1, nI_a1]
    show TOP S0 t0 _ _ (tW (if abN N (l * nRm N + k) = 0 then tB (lfT N l T k) else tA (tNm (tB (lfT N l T k)) (abN N (l * nRm N + k))) 58) (N (127 + 13 * (l * nRm N + k))) (N (127 + 13 * (l * nRm N + k) + 1))) i1 j1
    by_cases z : abN N (l * nRm N + k) = 0
    · rw [if_pos z, if_pos (show nI (abN N (l * nRm N + k)) = 0 by rw [z]; rfl), er_pen e, bnP_1, bnP_1, er_scr e, bnP_1, er_r1 e, bnP_1, ewd, bnP_1]
      exact top_bind (t_pword h1 hwd (by omega)) fun S2 tx2 i2 j2 h2 => top_ret h2
    · rw [if_neg z, if_neg (show ¬ nI (abN N (l * nRm N + k)) = 0 from fun q => z ((nI_eq (b := 0) (by omega) (by decide)).mp q)), er_pen e, bnP_1, bnP_1, er_scr e, bnP_1, er_r1 e, bnP_1, ewd, bnP_1]
      exact top_bind (t_pnum h1 (by omega) hwd (by omega)) fun S2 tx2 i2 j2 h2 => top_ret h2
  · have e := en_S e0 h1
    have ew : fX1_wordsOn (some b) (nI l) S1 = some (nI (pOn N l)) := c_wordsOn (σ := S1) (G := S1.2.2.2.1) (J := S1.2.2.2.2.1) (er_B e) hw.1 e.2.2.2.2 hl
    unfold fX9_writeLeaf_l1
    rw [er_book e, bnP_1, ew, bnP_1, nI_add, if_pos (nI_le (Nat.le_refl _) (by omega))]
    exact top_ret h1
end WRC
