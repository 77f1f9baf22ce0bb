/-! THE PURE LEVEL, 25: HAS, GAP -/
theorem i_ss (x a b : Int32) : x - (a + b) = x - a - b := by
  have e : x = (x - a - b) + (a + b) := by rw [Int32.add_comm a b, ← Int32.add_assoc, Int32.sub_add_cancel, Int32.sub_add_cancel]
  exact (congrArg (fun y => y - (a + b)) e).trans (Int32.add_sub_cancel _ _)
theorem sumI_swap (f : Nat → Nat → Int32) (n : Nat) : ∀ k, sumI (fun j => sumI (fun g => f j g) n) k = sumI (fun g => sumI (fun j => f j g) k) n
  | 0 => by
    have z : ∀ n, sumI (fun g => sumI (fun j => f j g) 0) n = 0 := by
      intro n
      induction n with
      | zero => rfl
      | succ n ih =>
        show sumI (fun g => sumI (fun j => f j g) 0) n + 0 = 0
        rw [ih]
        rfl
    rw [z]
    rfl
  | k + 1 => by
    show sumI (fun j => sumI (fun g => f j g) n) k + sumI (fun g => f k g) n = _
    rw [sumI_swap f n k, ← sumI_add]
    rfl
theorem sumI_0 {f : Nat → Int32} : ∀ {n : Nat}, (∀ k, k < n → f k = 0) → sumI f n = 0
  | 0, _ => rfl
  | n + 1, h => by
    show sumI f n + f n = 0
    rw [sumI_0 (fun k hk => h k (by omega)), h n (by omega)]
    rfl
theorem sumI_one {f : Nat → Int32} {j : Nat} {x : Int32} : ∀ {n : Nat}, j < n → f j = x → (∀ k, k < n → k ≠ j → f k = 0) → sumI f n = x
  | 0, h, _, _ => absurd h (Nat.not_lt_zero _)
  | n + 1, h, e, z => by
    show sumI f n + f n = x
    by_cases q : j = n
    · subst q
      rw [sumI_0 (fun k hk => z k (by omega) (by omega)), e, Int32.zero_add]
    · rw [sumI_one (n := n) (by omega) e (fun k hk => z k (by omega)), z n (by omega) (fun q2 => q q2.symm), Int32.add_zero]
/-- words that stand at g: the written one, and those behind it -/
def stW (N : Nat → Int32) (g : Nat) : Int32 := bI (skN N g) + N (127 + 13 * g + 4)
theorem stN_e (N : Nat → Int32) (f n : Nat) : stN N f n = sumI (fun k => stW N (f + k)) n := rfl
theorem stN_1 (N : Nat → Int32) (g : Nat) : stN N g 1 = stW N g := by
  show 0 + stW N (g + 0) = stW N g
  rw [Int32.zero_add]
  rfl
/-- the class's sums of an act, clause by clause: of those that are closed, of the one that is open -/
def sbC (N : Nat → Int32) (a : Nat) : Nat → Int32 × Int32
  | 0 => (0, 0)
  | k + 1 => if enr (cF N) (cT N) (aK N a) (aC N a) (aF N a + k + 1) = 0 then ((sbC N a k).1 + ((sbC N a k).2 + stW N (aF N a + k)), 0) else ((sbC N a k).1, (sbC N a k).2 + stW N (aF N a + k))
theorem sbC_sum (N : Nat → Int32) (a : Nat) : ∀ k, (sbC N a k).1 + (sbC N a k).2 = stN N (aF N a) k
  | 0 => rfl
  | k + 1 => by
    rw [stN_e]
    show _ = sumI (fun k => stW N (aF N a + k)) k + stW N (aF N a + k)
    rw [← stN_e, ← sbC_sum N a k]
    have e : sbC N a (k + 1) = if enr (cF N) (cT N) (aK N a) (aC N a) (aF N a + k + 1) = 0 then ((sbC N a k).1 + ((sbC N a k).2 + stW N (aF N a + k)), 0) else ((sbC N a k).1, (sbC N a k).2 + stW N (aF N a + k)) := rfl
    rw [e]
    by_cases q : enr (cF N) (cT N) (aK N a) (aC N a) (aF N a + k + 1) = 0
    · rw [if_pos q]
      show (sbC N a k).1 + ((sbC N a k).2 + stW N (aF N a + k)) + 0 = _
      rw [Int32.add_zero, Int32.add_assoc]
    · rw [if_neg q]
      show (sbC N a k).1 + ((sbC N a k).2 + stW N (aF N a + k)) = _
      rw [Int32.add_assoc]
def gapQ (N : Nat → Int32) : Int32 := mab (sumI (fun l => nI (pOn N l)) (nLv N) - sumI (fun a => nI (aM N a)) (nAc N)) + mab (N 7 - N 8 - sumI (fun a => N (9 + 9 * a + 4)) (nAc N) - sumI (fun c => 3 - nI (oG N c)) (nCp N))
def hasB (N : Nat → Int32) (v w : Int32) : Bool := inR v (nI 0) (N 6 - 1) && isW N (nI (oO N v.toNatClampNeg + 1)) w
theorem lqR_ans1 {g : Nat → HpT → AT Int32} {S : HpT} {e1 e2 e3 : Nat} {p : Bool} {x val : Int32} (hx : p = true → x = val) (h1 : g e1 S = some (.ok 1, S, 0, 0)) : lqR g S x (thr p true true) (ansE e1 e2 e3 p true true val) := by
  cases p
  · exact ⟨show (1 : Int32) ≠ 0 by decide, h1⟩
  · exact ⟨(hx rfl).symm, rfl⟩
section LQ10
variable {σ : HpT} {G : Nat → Nat → Int32} {J : Nat → Nat → Int64} {o b m d : Nat} {N : Nat → Int32}
theorem isW_a (w1 : W1 N) {a : Nat} (ha : a < nAc N) (w : Int32) : isW N (nI (a + 1)) w = inR w (nI 0) (nI (aM N a - 1)) := by
  have hb := w1_b w1
  unfold isW
  rw [nI_clamp (by omega), Nat.add_sub_cancel, (w1_e w1).2.1, inR_nI (by omega) (by omega) (by omega), decide_eq_true (show 1 ≤ a + 1 by omega), decide_eq_true (show a + 1 ≤ nAc N by omega), Bool.true_and, Bool.true_and]
theorem cq_has (h : NK σ o b) (hwr : G o 4 ≠ 0 → WFN N ∧ RB G J b N) (v w : Int32) : fX9_has (some o) v w (wc σ G J) = some (ansE 0 1 2 (decide (G o 4 ≠ 0)) (hasB N v w) true (hwN N v.toNatClampNeg (aF N (oO N v.toNatClampNeg) + w.toNatClampNeg))) := by
  have B := nk_B h
  unfold fX9_has
  rw [nk_o h, bnP_1, c_requireBook h]
  by_cases q : G o 4 = 0
  · rw [if_pos q, bnX_e, decide_eq_false (fun e => e q)]
    rfl
  · obtain ⟨hw, r⟩ := hwr q
    have hb := w1_b hw.1
    rw [if_neg q, bnX_1, c_requireCopy h hw.1 r, decide_eq_true q]
    unfold hasB
    cases e : inR v (nI 0) (N 6 - 1)
    · rfl
    · obtain ⟨c, rfl, hc⟩ := inC_t hw.1 e
      obtain ⟨⟨q2, q3⟩, q1, q4⟩ := w4_c hw.2.2.2 hc
      obtain ⟨r1, r2, r3, r4⟩ := r.2.2 c hc
      have hle := act_le hw.1 hw.2.1 q2
      obtain ⟨p1, p2, p3, p4, p5⟩ := (act_ok hw.1 hw.2.1 q2).1
      rw [if_pos rfl, bnX_1, nI_clamp (show c < 2 ^ 31 by omega), bk_pI B (by omega), bnP_1, r1, c_requireAct1 h hw.1 r q2, bnX_1, c_requireWord B hw.1 hw.2.1 r q2, isW_a hw.1 q2, Bool.true_and]
      cases e2 : inR w (nI 0) (nI (aM N (oO N c) - 1))
      · rfl
      · obtain ⟨i, rfl, -, hi⟩ := inR_t (by decide) (by omega) e2
        rw [if_pos rfl, bnX_1, nI_add, nk_b h, bnP_1, bk_r8 B, bnP_1, c_holds B hw r hc (by omega), bnP_1, nI_clamp (show i < 2 ^ 31 by omega)]
        rfl
theorem m_ofCopy0 (h : MK σ m) {c : Nat} (hc : c < 9) : fX10_ofCopy (some m) (nI c) 0 (wi σ G) = some (G (m + 1) (111 + 2 * c)) := m_ofCopy h c 0 (by omega)
theorem mq_has (h : MK σ m) (hw : G m 6 ≠ 0 → WFN (G (m + 1))) (hr : G m 6 = 0 ∨ G m 6 = 1) (v w : Int32) : fX10_has (some m) v w (wi σ G) = some (if (decide (G m 6 ≠ 0) && hasB (G (m + 1)) v w) = true then hwN (G (m + 1)) v.toNatClampNeg (aF (G (m + 1)) (oO (G (m + 1)) v.toNatClampNeg) + w.toNatClampNeg) else false, wi σ (up G m 0 (thr (decide (G m 6 ≠ 0)) (hasB (G (m + 1)) v w) true))) := by
  unfold fX10_has
  rw [mk_o h, bnP_1, mk_I h, bnP_1, m_isCopy h, bnP_1]
  by_cases q : G m 6 = 0
  · have e : isC G m v = false := by
      unfold isC
      rw [decide_eq_false (fun e => e q), Bool.false_and]
    rw [e, if_neg (by decide), bnP_1]
    show bnS (fX10_mayTwo (some m) (G m 6) (bI false) (wi σ G)) _ = _
    rw [m_may2 h hr, bnS_1, decide_eq_false (fun e => e q)]
    rfl
  · have hw := hw q
    have hb := w1_b hw.1
    have e0 : isC G m v = inR v (nI 0) (G (m + 1) 6 - 1) := by
      unfold isC
      rw [decide_eq_true q, Bool.true_and]
    rw [e0]
    unfold hasB
    cases e : inR v (nI 0) (G (m + 1) 6 - 1)
    · rw [if_neg (by decide), bnP_1]
      show bnS (fX10_mayTwo (some m) (G m 6) (bI false) (wi σ G)) _ = _
      rw [m_may2 h hr, bnS_1, decide_eq_true q]
      rfl
    · obtain ⟨c, rfl, hc⟩ := inC_t hw.1 e
      obtain ⟨⟨q2, q3⟩, q1, q4⟩ := w4_c hw.2.2.2 hc
      have hle := act_le hw.1 hw.2.1 q2
      obtain ⟨p1, p2, p3, p4, p5⟩ := (act_ok hw.1 hw.2.1 q2).1
      have hA : isA G m (nI (oO (G (m + 1)) c + 1)) = true := by
        rw [isA_e, decide_eq_true q, Bool.true_and, (w1_e hw.1).2.1, inR_nI (by omega) (by omega) (by omega), decide_eq_true (show 1 ≤ oO (G (m + 1)) c + 1 by omega), decide_eq_true (show oO (G (m + 1)) c + 1 ≤ nAc (G (m + 1)) by omega)]
        rfl
      rw [if_pos rfl, m_ofCopy0 h (by omega), bnP_1, q1, nI_a1, m_isWordOf h hw.1 hw.2.1 q2 hA, bnP_1, nI_clamp (show c < 2 ^ 31 by omega), isW_a hw.1 q2, Bool.true_and]
      cases e2 : inR w (nI 0) (nI (aM (G (m + 1)) (oO (G (m + 1)) c) - 1))
      · rw [if_neg (by decide), bnP_1]
        show bnS (fX10_mayTwo (some m) (G m 6) (bI false) (wi σ G)) _ = _
        rw [m_may2 h hr, bnS_1, decide_eq_true q]
        rfl
      · obtain ⟨i, rfl, -, hi⟩ := inR_t (by decide) (by omega) e2
        rw [if_pos rfl, bnP_1]
        show bnS (fX10_mayTwo (some m) (G m 6) (bI true) (wi σ G)) _ = _
        rw [m_may2 h hr, bnS_1, decide_eq_true q, if_pos (by decide), if_pos (by decide)]
        generalize hG : up G m 0 (thr true true true) = G'
        have eG : G' (m + 1) = G (m + 1) := by rw [← hG]; exact up_a (by omega)
        rw [← eG] at hw hc q1 q2 hi hle ⊢
        clear hG
        have hb := w1_b hw.1
        obtain ⟨-, -, -, p4, p5⟩ := (act_ok hw.1 hw.2.1 q2).1
        rw [m_ofCopy0 h (by omega), bnP_1, q1, nI_a1, m_globalOf h hw.1 hw.2.1 q2, bnP_1, m_hasWord h hw hc (by omega), bnP_1, nI_clamp (show i < 2 ^ 31 by omega)]
/-- case 13: HAS -/
theorem lc13 (h : LO σ G J o b m d) {Lx : Nat} {xs : Nat → Int32} {v5 v w : Int32} (hx : sld Lx xs (v5 + 1) = some v) (hy : sld Lx xs (v5 + 2) = some w) (v4 : Option Nat) : ∃ t y a c, fL_c13 Lx xs (some o) (some m) (some d) v4 v5 (wc σ G J) = some ((.ok () : Except Nat Unit), wc σ (up G m 0 t) (upJ J d 0 y), a, c) ∧ a ≤ 1 ∧ c ≤ 6 := by
  unfold fL_c13 fL_has
  simp only [hx, hy, bnP_1]
  have hr : G m 6 = 0 ∨ G m 6 = 1 := by rw [h.2.2.2.2.1]; exact h.2.2.2.1
  have hC := cq_has h.1 h.2.2.2.2.2 v w
  have hM := fun J' => mq_has (σ := wc σ G J') (G := G) h.2.1 (fun q => (h.2.2.2.2.2 (by rw [← h.2.2.2.2.1]; exact q)).1) hr v w
  rw [h.2.2.2.2.1] at hM
  rw [hC]
  cases e : decide (G o 4 ≠ 0)
  · refine ⟨1, J d 0, 1, 6, ?_, by decide, by decide⟩
    rw [e] at hM
    rw [upJ_self]
    refine bnO_1 (i := 1) (j := 6) (i2 := 0) (j2 := 0) (a := (1 : Int32)) (σ := wc σ G J) ?_
    rw [show fX10_has (some m) v w (wc σ G J) = _ from hM J, bnS_1, show thr false (hasB (G (m + 1)) v w) true = 1 from rfl]
    show bnP (fX10_thrown (some m) (wc σ (up G m 0 1) J)) _ = _
    rw [lo_th h, bnP_1, up_eq]
    rfl
  · cases e2 : hasB (G (m + 1)) v w
    · refine ⟨2, J d 0, 1, 6, ?_, by decide, by decide⟩
      rw [e, e2] at hM
      rw [upJ_self]
      refine bnO_1 (i := 1) (j := 6) (i2 := 0) (j2 := 0) (a := (2 : Int32)) (σ := wc σ G J) ?_
      rw [show fX10_has (some m) v w (wc σ G J) = _ from hM J, bnS_1, show thr true false true = 2 from rfl]
      show bnP (fX10_thrown (some m) (wc σ (up G m 0 2) J)) _ = _
      rw [lo_th h, bnP_1, up_eq]
      rfl
    · rw [e, e2] at hM
      generalize hwN (G (m + 1)) v.toNatClampNeg (aF (G (m + 1)) (oO (G (m + 1)) v.toNatClampNeg) + w.toNatClampNeg) = y at hM ⊢
      cases y
      · refine ⟨0, 0, 0, 0, ?_, by decide, by decide⟩
        have e1 : ∀ g : Nat → HpT → AT Int32, bnC (xA (wc σ G J) (some (ansE 0 1 2 true true true false))) (fun x1 s2 => bnP (if x1 = true then some (some d, (0 : Int32), (1 : Int64)) else some (some d, 0, 0)) fun (j9 : Option Nat × Int32 × Int64) => bnP (sJ s2 j9.1 j9.2.1 j9.2.2) fun s16 => some ((.ok 0 : Except Nat Int32), s16, 0, 0)) g = some (.ok 0, wc σ G (upJ J d 0 0), 0, 0) := fun g => bnC_1 (i := 0) (j := 0) (i2 := 0) (j2 := 0) (a := false) (by
          show bnP (sJ (wc σ G J) (some d) 0 0) (fun s16 => some ((.ok 0 : Except Nat Int32), s16, 0, 0)) = _
          rw [lo_sJ h, bnP_1])
        rw [e1]
        refine bnO_1 (i := 0) (j := 0) (i2 := 0) (j2 := 0) ?_
        rw [show fX10_has (some m) v w (wc σ G (upJ J d 0 0)) = _ from hM _, bnS_1, show thr true true true = 0 from rfl]
        show bnP (fX10_thrown (some m) (wc σ (up G m 0 0) (upJ J d 0 0))) _ = _
        rw [lo_th h, bnP_1, up_eq, if_pos rfl, if_pos rfl]
        show bnP (aJ (wc σ (up G m 0 0) (upJ J d 0 0)) (some d) 0) _ = _
        rw [lo_aJ h, bnP_1, upJ_eq]
        show (if lg_cmp (0 : Int64) 0 = 0 then _ else none) = _
        rw [if_pos ((lg_cmp_eq _ _).mpr rfl)]
        rfl
      · refine ⟨0, 1, 0, 0, ?_, by decide, by decide⟩
        have e1 : ∀ g : Nat → HpT → AT Int32, bnC (xA (wc σ G J) (some (ansE 0 1 2 true true true true))) (fun x1 s2 => bnP (if x1 = true then some (some d, (0 : Int32), (1 : Int64)) else some (some d, 0, 0)) fun (j9 : Option Nat × Int32 × Int64) => bnP (sJ s2 j9.1 j9.2.1 j9.2.2) fun s16 => some ((.ok 0 : Except Nat Int32), s16, 0, 0)) g = some (.ok 0, wc σ G (upJ J d 0 1), 0, 0) := fun g => bnC_1 (i := 0) (j := 0) (i2 := 0) (j2 := 0) (a := true) (by
          show bnP (sJ (wc σ G J) (some d) 0 1) (fun s16 => some ((.ok 0 : Except Nat Int32), s16, 0, 0)) = _
          rw [lo_sJ h, bnP_1])
        rw [e1]
        refine bnO_1 (i := 0) (j := 0) (i2 := 0) (j2 := 0) ?_
        rw [show fX10_has (some m) v w (wc σ G (upJ J d 0 1)) = _ from hM _, bnS_1, show thr true true true = 0 from rfl]
        show bnP (fX10_thrown (some m) (wc σ (up G m 0 0) (upJ J d 0 1))) _ = _
        rw [lo_th h, bnP_1, up_eq, if_pos rfl, if_pos rfl]
        show bnP (aJ (wc σ (up G m 0 0) (upJ J d 0 1)) (some d) 0) _ = _
        rw [lo_aJ h, bnP_1, upJ_eq]
        show (if lg_cmp (1 : Int64) 1 = 0 then _ else none) = _
        rw [if_pos ((lg_cmp_eq _ _).mpr rfl)]
        rfl
/-! GAP -/
theorem c_wordsGap (h : BK σ b) (hw : WFN N) (r : RB G J b N) : fX1_wordsGap (some b) (wc σ G J) = some (mab (sumI (fun l => nI (pOn N l)) (nLv N) - sumI (fun a => nI (aM N a)) (nAc N))) := by
  have hb := w1_b hw.1
  have h12 := nlv_12 hw.1
  unfold fX1_wordsGap
  have e : lpP (fX1_wordsGap_l1 (some b) (wc σ G J)) FUEL (0, 0) = some (sumI (fun l => nI (pOn N l)) (nLv N)) := by
    refine lpP_f (nLv N) (fun k => (sumI (fun l => nI (pOn N l)) k, nI k)) rfl (by omega) (fun k hk => ?_) ?_
    · unfold fX1_wordsGap_l1
      rw [bk_r9 h, bnP_1, lk_I (bk_L h), bnP_1, rb_l r]
      dsimp only
      rw [if_neg (nI_ge (by omega) (by omega)), c_wordsOn h hw.1 r hk, bnP_1, nI_a1]
      rfl
    · unfold fX1_wordsGap_l1
      rw [bk_r9 h, bnP_1, lk_I (bk_L h), bnP_1, rb_l r]
      dsimp only
      rw [if_pos (nI_le (Nat.le_refl _) (by omega))]
  generalize sumI (fun l => nI (pOn N l)) (nLv N) = S at e ⊢
  have e2 : lpP (fX1_wordsGap_l2 (some b) (wc σ G J)) FUEL (S, 0) = some (S - sumI (fun a => nI (aM N a)) (nAc N)) := by
    refine lpP_f (nAc N) (fun k => (S - sumI (fun a => nI (aM N a)) k, nI k)) (Prod.ext (Int32.sub_zero _) rfl) (by omega) (fun k hk => ?_) ?_
    · unfold fX1_wordsGap_l2
      have hs : sumI (fun a => nI (aM N a)) (k + 1) = sumI (fun a => nI (aM N a)) k + nI (aM N k) := rfl
      rw [bk_I h, bnP_1, rb_n r hw.1]
      dsimp only
      rw [if_neg (nI_ge (by omega) (by omega)), bk_r6 h, bnP_1, bk_aR h (by omega), bnP_1, bk_aI h (by omega), bnP_1, (rb_act r hk).2.2.2.2.2.2.1, (act_ok hw.1 hw.2.1 hk).1.2.2.1, nI_a1, hs, i_ss]
    · unfold fX1_wordsGap_l2
      rw [bk_I h, bnP_1, rb_n r hw.1]
      dsimp only
      rw [if_pos (nI_le (Nat.le_refl _) (by omega))]
  rw [bk_o h, bnP_1, e, bnP_1, e2, bnP_1]
theorem c_standingByClauses (h : BK σ b) (hw : WFN N) (r : RB G J b N) {a : Nat} (ha : a < nAc N) : fX8_standingByClauses (some (b + 3)) (nI (aF N a)) (nI (aM N a)) (wc σ G J) = some (stN N (aF N a) (aM N a)) := by
  have hl := act_le hw.1 hw.2.1 ha
  have hb := w1_b hw.1
  have cl := w3_cl hw.2.2.1 ha
  have ft := cl_ft cl
  have hm := (w2_b hw.2.1 ha).2.2.2.2
  unfold fX8_standingByClauses
  have e : lpP (fX8_standingByClauses_l1 (some (b + 3)) (nI (aF N a)) (nI (aM N a)) (wc σ G J)) FUEL (0, 0, 0, nI (aF N a)) = some (stN N (aF N a) (aM N a)) := by
    refine lpP_f (aM N a) (fun k => ((sbC N a k).1, (sbC N a k).2, nI (enr (cF N) (cT N) (aK N a) (aC N a) (aF N a + k)), nI (aF N a + k))) (by rw [Nat.add_zero, cl_enr0 cl]; rfl) (by omega) (fun k hk => ?_) ?_
    · unfold fX8_standingByClauses_l1
      have s1 := cov_ent ft (aF N a + k)
      have s2 := ent_succ ft (aF N a + k)
      have s3 : enr (cF N) (cT N) (aK N a) (aC N a) (aF N a + k + 1) ≤ aC N a := cntN_le _ _
      have kb := w3_kb hw.2.1 hw.1 ha
      dsimp only
      rw [nI_add, if_neg (nI_ge (by omega) (by omega)), sk_r2 (bk_S h), bnP_1, sk_a2 (bk_S h) (by omega), bnP_1, li_1, c_standingFrom h hw.1 r (by omega), bnP_1, sk_r3 (bk_S h), bnP_1, sk_a3 (bk_S h) (by omega), bnP_1, rb_op r ha (by omega) (by omega), rb_cs r ha (by omega) (by omega), nI_add, nI_add, ← s1, ← s2, nI_sub (Nat.le_add_left _ _), Nat.add_sub_cancel, stN_1]
      show _ = some (Sum.inl ((if enr (cF N) (cT N) (aK N a) (aC N a) (aF N a + k + 1) = 0 then ((sbC N a k).1 + ((sbC N a k).2 + stW N (aF N a + k)), (0 : Int32)) else ((sbC N a k).1, (sbC N a k).2 + stW N (aF N a + k))).1, (if enr (cF N) (cT N) (aK N a) (aC N a) (aF N a + k + 1) = 0 then ((sbC N a k).1 + ((sbC N a k).2 + stW N (aF N a + k)), (0 : Int32)) else ((sbC N a k).1, (sbC N a k).2 + stW N (aF N a + k))).2, nI (enr (cF N) (cT N) (aK N a) (aC N a) (aF N a + k + 1)), nI (aF N a + k + 1)))
      by_cases q : enr (cF N) (cT N) (aK N a) (aC N a) (aF N a + k + 1) = 0
      · rw [if_pos (by rw [q]; rfl), if_pos q]
      · rw [if_neg (nI_ne0 (by omega) (by omega)), if_neg q]
    · unfold fX8_standingByClauses_l1
      dsimp only
      rw [nI_add, if_pos (nI_le (Nat.le_refl _) (by omega)), ← sbC_sum]
      have z : (sbC N a (aM N a)).2 = 0 := by
        obtain ⟨k, hk⟩ : ∃ k, aM N a = k + 1 := ⟨aM N a - 1, by omega⟩
        rw [hk]
        unfold sbC
        rw [if_pos (cl_enrH cl (by omega))]
      rw [z, Int32.add_zero]
  rw [sk_o (bk_S h), bnP_1, e, bnP_1]
theorem c_standingGap (h : BK σ b) (hw : WFN N) (r : RB G J b N) : fX1_standingGap (some b) (wc σ G J) = some 0 := by
  have hb := w1_b hw.1
  unfold fX1_standingGap
  have e : lpP (fX1_standingGap_l1 (some b) (wc σ G J)) FUEL (0, 0) = some 0 := by
    refine lpP_f (nAc N) (fun k => ((0 : Int32), nI k)) rfl (by omega) (fun k hk => ?_) ?_
    · obtain ⟨p1, p2, p3, p4, p5⟩ := (act_ok hw.1 hw.2.1 hk).1
      have hr := rb_act r hk
      unfold fX1_standingGap_l1
      rw [bk_I h, bnP_1, rb_n r hw.1]
      dsimp only
      rw [if_neg (nI_ge (by omega) (by omega))]
      simp only [bk_r8 h, bk_r6 h, bnP_1, bk_aR h p1, bk_aI h p1, hr.2.2.2.2.2.1, hr.2.2.2.2.2.2.1, p2, p3]
      rw [c_standingByClauses h hw r hk, bnP_1, c_standingFrom h hw.1 r (act_le hw.1 hw.2.1 hk), bnP_1, if_pos rfl, nI_a1]
    · unfold fX1_standingGap_l1
      rw [bk_I h, bnP_1, rb_n r hw.1]
      dsimp only
      rw [if_pos (nI_le (Nat.le_refl _) (by omega))]
  rw [bk_o h, bnP_1, e, bnP_1]
theorem c_numbersGap (h : BK σ b) (hw : WFN N) (r : RB G J b N) : fX1_numbersGap (some b) (wc σ G J) = some 0 := by
  have hb := w1_b hw.1
  unfold fX1_numbersGap
  have e : lpP (fX1_numbersGap_l1 (some b) (wc σ G J)) FUEL (0, 0) = some 0 := by
    refine lpP_f (nAc N) (fun k => ((0 : Int32), nI k)) rfl (by omega) (fun k hk => ?_) ?_
    · unfold fX1_numbersGap_l1
      rw [bk_I h, bnP_1, rb_n r hw.1]
      dsimp only
      rw [if_neg (nI_ge (by omega) (by omega)), bk_r6 h, bnP_1, bk_aR h (by omega), bnP_1, bk_aI h (by omega), bnP_1, (rb_act r hk).1, nI_a1, if_pos rfl]
    · unfold fX1_numbersGap_l1
      rw [bk_I h, bnP_1, rb_n r hw.1]
      dsimp only
      rw [if_pos (nI_le (Nat.le_refl _) (by omega))]
  rw [bk_o h, bnP_1, e, bnP_1]
theorem c_fee (h : BK σ b) (hw : WFN N) (r : RB G J b N) {c : Nat} (hc : c < nCp N) : fX3_fee (some (b + 25 + c)) (wc σ G J) = some (3 - nI (oG N c)) := by
  have hb := w1_b hw.1
  unfold fX3_fee
  rw [bk_po h (by omega), bnP_1, bk_pI h (by omega), bnP_1, (r.2.2 c hc).2.1, (w4_c hw.2.2.2 hc).2.2]
theorem c_cashGap (h : BK σ b) (hw : WFN N) (r : RB G J b N) : fX1_cashGap (some b) (wc σ G J) = some (mab (N 7 - N 8 - sumI (fun a => N (9 + 9 * a + 4)) (nAc N) - sumI (fun c => 3 - nI (oG N c)) (nCp N))) := by
  have hb := w1_b hw.1
  have r7 : G b 4 = N 7 := r.1.2.2.2.2.1
  have r8 : G b 5 = N 8 := r.1.2.2.2.2.2.1
  unfold fX1_cashGap
  rw [bk_o h, bnP_1, bk_I h, bnP_1, bk_I h, bnP_1, r7, r8]
  generalize N 7 - N 8 = S
  have e : lpP (fX1_cashGap_l1 (some b) (wc σ G J)) FUEL (S, 0) = some (S - sumI (fun a => N (9 + 9 * a + 4)) (nAc N)) := by
    refine lpP_f (nAc N) (fun k => (S - sumI (fun a => N (9 + 9 * a + 4)) k, nI k)) (Prod.ext (Int32.sub_zero _) rfl) (by omega) (fun k hk => ?_) ?_
    · unfold fX1_cashGap_l1
      have hs : sumI (fun a => N (9 + 9 * a + 4)) (k + 1) = sumI (fun a => N (9 + 9 * a + 4)) k + N (9 + 9 * k + 4) := rfl
      rw [bk_I h, bnP_1, rb_n r hw.1]
      dsimp only
      rw [if_neg (nI_ge (by omega) (by omega)), bk_r6 h, bnP_1, bk_aR h (by omega), bnP_1, bk_aI h (by omega), bnP_1, (rb_act r hk).2.2.2.2.2.2.2, nI_a1, hs, i_ss]
    · unfold fX1_cashGap_l1
      rw [bk_I h, bnP_1, rb_n r hw.1]
      dsimp only
      rw [if_pos (nI_le (Nat.le_refl _) (by omega))]
  rw [e, bnP_1]
  generalize S - sumI (fun a => N (9 + 9 * a + 4)) (nAc N) = S2
  have e2 : lpP (fX1_cashGap_l2 (some b) (wc σ G J)) FUEL (S2, 0) = some (S2 - sumI (fun c => 3 - nI (oG N c)) (nCp N)) := by
    refine lpP_f (nCp N) (fun k => (S2 - sumI (fun c => 3 - nI (oG N c)) k, nI k)) (Prod.ext (Int32.sub_zero _) rfl) (by omega) (fun k hk => ?_) ?_
    · unfold fX1_cashGap_l2
      have hs : sumI (fun c => 3 - nI (oG N c)) (k + 1) = sumI (fun c => 3 - nI (oG N c)) k + (3 - nI (oG N k)) := rfl
      rw [bk_I h, bnP_1, rb_p r hw.1]
      dsimp only
      rw [if_neg (nI_ge (by omega) (by omega)), bk_r7 h, bnP_1, bk_pR h (by omega), bnP_1, c_fee h hw r hk, bnP_1, nI_a1, hs, i_ss]
    · unfold fX1_cashGap_l2
      rw [bk_I h, bnP_1, rb_p r hw.1]
      dsimp only
      rw [if_pos (nI_le (Nat.le_refl _) (by omega))]
  rw [e2, bnP_1]
theorem cq_gap (h : NK σ o b) (hwr : G o 4 ≠ 0 → WFN N ∧ RB G J b N) : fX9_gap (some o) (wc σ G J) = some (ansE 0 1 2 (decide (G o 4 ≠ 0)) true true (gapQ N)) := by
  have B := nk_B h
  unfold fX9_gap
  rw [nk_o h, bnP_1, c_requireBook h]
  by_cases q : G o 4 = 0
  · rw [if_pos q, bnX_e, decide_eq_false (fun e => e q)]
    rfl
  · obtain ⟨hw, r⟩ := hwr q
    rw [if_neg q, bnX_1, decide_eq_true q, nk_b h, bnP_1, c_wordsGap B hw r, bnP_1, bnP_1, c_standingGap B hw r, bnP_1, bnP_1, c_cashGap B hw r, bnP_1, bnP_1, c_numbersGap B hw r, bnP_1, Int32.add_zero, Int32.add_zero]
    rfl
theorem m_standingIn (h : MK σ m) (hw : WFN (G (m + 1))) {a z : Nat} (ha : a < nAc (G (m + 1))) (hz : z < 2 ^ 31) : fX10_standingIn (some m) (nI a) (nI z) (wi σ G) = some (sumI (fun i => if wW (G (m + 1)) (aF (G (m + 1)) a + i) = z then stW (G (m + 1)) (aF (G (m + 1)) a + i) else 0) (aM (G (m + 1)) a)) := by
  have ok := (act_ok hw.1 hw.2.1 ha).1
  obtain ⟨p1, p2, p3, p4, p5⟩ := id ok
  unfold fX10_standingIn
  rw [mk_o h, bnP_1, li_5, m_ofAct h a 5 (by omega), bnP_1, p2]
  have e : lpP (fX10_standingIn_l1 (some m) (nI a) (nI z) (wi σ G)) FUEL (0, nI (aF (G (m + 1)) a)) = some (sumI (fun i => if wW (G (m + 1)) (aF (G (m + 1)) a + i) = z then stW (G (m + 1)) (aF (G (m + 1)) a + i) else 0) (aM (G (m + 1)) a)) := by
    refine lpP_f (aM (G (m + 1)) a) (fun k => (sumI (fun i => if wW (G (m + 1)) (aF (G (m + 1)) a + i) = z then stW (G (m + 1)) (aF (G (m + 1)) a + i) else 0) k, nI (aF (G (m + 1)) a + k))) rfl (by omega) (fun k hk => ?_) ?_
    · unfold fX10_standingIn_l1
      have hs : sumI (fun i => if wW (G (m + 1)) (aF (G (m + 1)) a + i) = z then stW (G (m + 1)) (aF (G (m + 1)) a + i) else 0) (k + 1) = sumI (fun i => if wW (G (m + 1)) (aF (G (m + 1)) a + i) = z then stW (G (m + 1)) (aF (G (m + 1)) a + i) else 0) k + (if wW (G (m + 1)) (aF (G (m + 1)) a + k) = z then stW (G (m + 1)) (aF (G (m + 1)) a + k) else 0) := rfl
      obtain ⟨q1, q2, -⟩ := w3_w hw.2.2.1 ha (g := aF (G (m + 1)) a + k) (by omega) (by omega)
      rw [m_lastOf h ok, bnP_1]
      dsimp only
      rw [if_neg (nI_nlt (by omega) (by omega)), li_3, m_ofWord h _ 3 (by omega), bnP_1, q1, hs]
      by_cases q : wW (G (m + 1)) (aF (G (m + 1)) a + k) = z
      · rw [if_pos (congrArg nI q), m_stands h (by omega), bnP_1, m_one, bnP_1, li_4, m_ofWord h _ 4 (by omega), bnP_1, nI_a1, if_pos q]
        rfl
      · rw [if_neg (by rw [nI_eq (by omega) hz]; exact q), nI_a1, if_neg q]
        rfl
    · unfold fX10_standingIn_l1
      rw [m_lastOf h ok, bnP_1]
      dsimp only
      rw [if_pos (nI_lt (by omega) (by omega))]
  rw [e, bnP_1]
theorem m_standingByClauses (h : MK σ m) (hw : WFN (G (m + 1))) {a : Nat} (ha : a < nAc (G (m + 1))) : fX10_standingByClauses (some m) (nI a) (wi σ G) = some (stN (G (m + 1)) (aF (G (m + 1)) a) (aM (G (m + 1)) a)) := by
  obtain ⟨p1, p2, p3, p4, p5⟩ := id (act_ok hw.1 hw.2.1 ha).1
  have kb := w3_kb hw.2.1 hw.1 ha
  have e8 : G (m + 1) (9 + 9 * a + 8) = nI (aC (G (m + 1)) a) := ((hw.2.1.2 a ha).2.1.2.2.2).1
  have e7 : G (m + 1) (9 + 9 * a + 7) = nI (aK (G (m + 1)) a) := ((hw.2.1.2 a ha).2.1.2.2.1).1
  generalize hwz : (fun j => if j = 0 then 0 else aK (G (m + 1)) a + j) = wz
  have hz0 : wz 0 = 0 := by rw [← hwz]; rfl
  have hz1 : ∀ j, 0 < j → wz j = aK (G (m + 1)) a + j := fun j hj => by rw [← hwz]; exact if_neg (by omega)
  have step : ∀ k, k < aC (G (m + 1)) a + 1 → fX10_standingByClauses_l1 (some m) (nI a) (wi σ G) (sumI (fun j => sumI (fun i => if wW (G (m + 1)) (aF (G (m + 1)) a + i) = wz j then stW (G (m + 1)) (aF (G (m + 1)) a + i) else 0) (aM (G (m + 1)) a)) k, nI k - 1) = some (.inl (sumI (fun j => sumI (fun i => if wW (G (m + 1)) (aF (G (m + 1)) a + i) = wz j then stW (G (m + 1)) (aF (G (m + 1)) a + i) else 0) (aM (G (m + 1)) a)) (k + 1), nI (k + 1) - 1)) := fun k hk => by
    have hs : ∀ f : Nat → Int32, sumI f (k + 1) = sumI f k + f k := fun f => rfl
    have he : nI (k + 1) - 1 = nI k - 1 + 1 := by rw [nI_pred, Int32.sub_add_cancel]
    rw [hs, he]
    unfold fX10_standingByClauses_l1
    rw [li_8, m_ofAct h a 8 (by omega), bnP_1, e8]
    dsimp only
    by_cases z : k = 0
    · subst z
      rw [if_neg (show ¬ nI (aC (G (m + 1)) a) ≤ nI 0 - 1 from Int32.not_le.mpr (nO_lt (by omega))), if_pos (by decide), bnP_1, hz0]
      show bnP (fX10_standingIn (some m) (nI a) (nI 0) (wi σ G)) _ = _
      rw [m_standingIn h hw ha (by decide), bnP_1]
    · have hz := hz1 k (by omega)
      rw [nI_m1 (by omega), if_neg (nI_ge (by omega) (by omega)), if_neg (show ¬ nI (k - 1) = -1 from nI_nO (by omega)), li_7, m_ofAct h a 7 (by omega), bnP_1, bnP_1, e7, nI_add, nI_a1, show aK (G (m + 1)) a + (k - 1) + 1 = aK (G (m + 1)) a + k by omega, hz]
      show bnP (fX10_standingIn (some m) (nI a) (nI (aK (G (m + 1)) a + k)) (wi σ G)) _ = _
      rw [m_standingIn h hw ha (by omega), bnP_1]
  have e : lpP (fX10_standingByClauses_l1 (some m) (nI a) (wi σ G)) FUEL (0, (-1)) = some (sumI (fun j => sumI (fun i => if wW (G (m + 1)) (aF (G (m + 1)) a + i) = wz j then stW (G (m + 1)) (aF (G (m + 1)) a + i) else 0) (aM (G (m + 1)) a)) (aC (G (m + 1)) a + 1)) := by
    refine lpP_f (aC (G (m + 1)) a + 1) (fun k => (sumI (fun j => sumI (fun i => if wW (G (m + 1)) (aF (G (m + 1)) a + i) = wz j then stW (G (m + 1)) (aF (G (m + 1)) a + i) else 0) (aM (G (m + 1)) a)) k, nI k - 1)) rfl (by omega) step ?_
    unfold fX10_standingByClauses_l1
    rw [li_8, m_ofAct h a 8 (by omega), bnP_1, e8]
    dsimp only
    rw [nI_pred, if_pos (nI_le (Nat.le_refl _) (by omega))]
  unfold fX10_standingByClauses
  rw [mk_o h, bnP_1, e, bnP_1, sumI_swap, stN_e]
  refine congrArg some (sumI_cong (fun i hi => ?_))
  obtain ⟨q1, q2, q3⟩ := w3_w hw.2.2.1 ha (g := aF (G (m + 1)) a + i) (by omega) (by omega)
  have key : ∃ j, j < aC (G (m + 1)) a + 1 ∧ wW (G (m + 1)) (aF (G (m + 1)) a + i) = wz j := by
    rcases q3 with ⟨q3, -⟩ | ⟨p, q3, q4, q5, -⟩
    · exact ⟨0, by omega, by rw [q3, hz0]⟩
    · exact ⟨p + 1 - aK (G (m + 1)) a, by omega, by rw [q3, hz1 _ (by omega)]; omega⟩
  obtain ⟨j, k1, k2⟩ := key
  refine sumI_one (j := j) k1 (if_pos k2) (fun k hk hne => if_neg (fun q => ?_))
  rw [k2] at q
  by_cases z1 : j = 0
  · by_cases z2 : k = 0
    · omega
    · rw [z1, hz0, hz1 k (by omega)] at q
      omega
  · by_cases z2 : k = 0
    · rw [z2, hz0, hz1 j (by omega)] at q
      omega
    · rw [hz1 j (by omega), hz1 k (by omega)] at q
      omega
theorem mq_gap (h : MK σ m) (hw : G m 6 ≠ 0 → WFN (G (m + 1))) (hr : G m 6 = 0 ∨ G m 6 = 1) : fX10_gap (some m) (wi σ G) = some (if decide (G m 6 ≠ 0) = true then gapQ (G (m + 1)) else 0, wi σ (up G m 0 (thr (decide (G m 6 ≠ 0)) true true))) := by
  unfold fX10_gap
  rw [mk_o h, bnP_1, m_mayLook h hr, bnS_1]
  cases e : decide (G m 6 ≠ 0)
  · rfl
  · have hw := hw (of_decide_eq_true e)
    rw [if_pos rfl, if_pos rfl]
    generalize hG : up G m 0 (thr true true true) = G'
    have eG : G' (m + 1) = G (m + 1) := by rw [← hG]; exact up_a (by omega)
    rw [← eG] at hw ⊢
    clear hG
    have hb := w1_b hw.1
    have he := w1_e hw.1
    have h12 := nlv_12 hw.1
    rw [mk_r1 h, bnP_1, li_8, mk_a1 h (by decide), bnP_1]
    have e1 : lpP (fX10_gap_l1 (some m) (G' (m + 1) 8) 0 (wi σ G')) FUEL (0, 0) = some (sumI (fun l => nI (pOn (G' (m + 1)) l)) (nLv (G' (m + 1)))) := by
      refine lpP_f (nLv (G' (m + 1))) (fun k => (sumI (fun l => nI (pOn (G' (m + 1)) l)) k, nI k)) rfl (by omega) (fun k hk => ?_) ?_
      · unfold fX10_gap_l1
        have hp := pOn_b hw.1 hk
        rw [m_leaves h hw.1, bnP_1]
        dsimp only
        rw [if_neg (nI_ge (by omega) (by omega)), m_lastOn h hw.1 hk, bnP_1, m_firstOn h hw.1, bnP_1, nI_sub (by omega), nI_a1, nI_a1]
        have : k * nRm (G' (m + 1)) + pOn (G' (m + 1)) k - 1 - k * nRm (G' (m + 1)) + 1 = pOn (G' (m + 1)) k := by omega
        rw [this]
        rfl
      · unfold fX10_gap_l1
        rw [m_leaves h hw.1, bnP_1]
        dsimp only
        rw [if_pos (nI_le (Nat.le_refl _) (by omega))]
    rw [e1, bnP_1]
    have e2 : ∀ R, lpP (fX10_gap_l2 (some m) R (wi σ G')) FUEL (G' (m + 1) 8, 0, 0) = some (G' (m + 1) 8 + sumI (fun a => G' (m + 1) (9 + 9 * a + 4)) (nAc (G' (m + 1))), 0) := by
      intro R
      refine lpP_f (nAc (G' (m + 1))) (fun k => (G' (m + 1) 8 + sumI (fun a => G' (m + 1) (9 + 9 * a + 4)) k, (0 : Int32), nI k)) (Prod.ext (Int32.add_zero _) rfl) (by omega) (fun k hk => ?_) ?_
      · unfold fX10_gap_l2
        have hs : sumI (fun a => G' (m + 1) (9 + 9 * a + 4)) (k + 1) = sumI (fun a => G' (m + 1) (9 + 9 * a + 4)) k + G' (m + 1) (9 + 9 * k + 4) := rfl
        rw [mk_r1 h, bnP_1, li_3, mk_a1 h (by decide), bnP_1, he.2.1]
        dsimp only
        rw [if_neg (nI_ge (by omega) (by omega)), m_standingByClauses h hw hk, bnP_1, m_standing h (act_ok hw.1 hw.2.1 hk).1, bnP_1, if_pos rfl, bnP_1, show (0 : Int32) = bI false from rfl, m_one, bnP_1, li_4, m_ofAct h k 4 (by omega), bnP_1, nI_a1, hs, ← Int32.add_assoc]
        rfl
      · unfold fX10_gap_l2
        rw [mk_r1 h, bnP_1, li_3, mk_a1 h (by decide), bnP_1, he.2.1]
        dsimp only
        rw [if_pos (nI_le (Nat.le_refl _) (by omega))]
    rw [e2, bnP_1]
    generalize hS : G' (m + 1) 8 + sumI (fun a => G' (m + 1) (9 + 9 * a + 4)) (nAc (G' (m + 1))) = S
    have e3 : ∀ R R2, lpP (fX10_gap_l3 (some m) R R2 (wi σ G')) FUEL (S, 0) = some (S + sumI (fun c => 3 - nI (oG (G' (m + 1)) c)) (nCp (G' (m + 1)))) := by
      intro R R2
      refine lpP_f (nCp (G' (m + 1))) (fun k => (S + sumI (fun c => 3 - nI (oG (G' (m + 1)) c)) k, nI k)) (Prod.ext (Int32.add_zero _) rfl) (by omega) (fun k hk => ?_) ?_
      · unfold fX10_gap_l3
        have hs : sumI (fun c => 3 - nI (oG (G' (m + 1)) c)) (k + 1) = sumI (fun c => 3 - nI (oG (G' (m + 1)) c)) k + (3 - nI (oG (G' (m + 1)) k)) := rfl
        rw [mk_r1 h, bnP_1, li_6, mk_a1 h (by decide), bnP_1, he.2.2.2.2]
        dsimp only
        rw [if_neg (nI_ge (by omega) (by omega)), li_1, m_ofCopy h k 1 (by omega), bnP_1, (w4_c hw.2.2.2 hk).2.2, hs, ← Int32.add_assoc]
        show some (Sum.inl (_, nI k + nI 1)) = _
        rw [nI_add]
      · unfold fX10_gap_l3
        rw [mk_r1 h, bnP_1, li_6, mk_a1 h (by decide), bnP_1, he.2.2.2.2]
        dsimp only
        rw [if_pos (nI_le (Nat.le_refl _) (by omega))]
    have e4 : sumI (fun a => G' (m + 1) (9 + 9 * a + 6)) (nAc (G' (m + 1))) = sumI (fun a => nI (aM (G' (m + 1)) a)) (nAc (G' (m + 1))) := sumI_cong (fun a ha => (act_ok hw.1 hw.2.1 ha).1.2.2.1)
    rw [e3, bnP_1, li_6, m_ofAllActs h hw.1 (by decide), bnP_1, e4, bnP_1, li_7, mk_a1 h (by decide), bnP_1, ← hS, i_ss, i_ss]
    unfold gapQ
    rw [show ((G' (m + 1) 8 + sumI (fun a => G' (m + 1) (9 + 9 * a + 4)) (nAc (G' (m + 1))), (0 : Int32)) : Int32 × Int32).2 = 0 from rfl, Int32.zero_add]
/-- case 16: GAP -/
theorem lc16 (h : LO σ G J o b m d) {Lx : Nat} {xs : Nat → Int32} {v5 : Int32} (v4 : Option Nat) : ∃ t y a c, fL_c16 Lx xs (some o) (some m) (some d) v4 v5 (wc σ G J) = some ((.ok () : Except Nat Unit), wc σ (up G m 0 t) (upJ J d 0 y), a, c) ∧ a ≤ 1 ∧ c ≤ 6 := by
  unfold fL_c16 fL_gap
  have hr : G m 6 = 0 ∨ G m 6 = 1 := by rw [h.2.2.2.2.1]; exact h.2.2.2.1
  refine lq_int h (cq_gap h.1 h.2.2.2.2.2) (fun J' => mq_gap (σ := wc σ G J') h.2.1 (fun q => (h.2.2.2.2.2 (by rw [← h.2.2.2.2.1]; exact q)).1) hr) ?_
  rw [h.2.2.2.2.1]
  refine lqR_ans1 (fun q1 => ?_) rfl
  rw [q1]
  rfl
end LQ10
