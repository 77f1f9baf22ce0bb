/-! THE PURE LEVEL, 23: ACT, WORD, LETTER, INNERLETTER -/
/-- an answer, or which exception: the first of three that fails -/
def ansE {α : Type} (e1 e2 e3 : Nat) (p q r : Bool) (x : α) : Except Nat α := if p = false then .error e1 else if q = false then .error e2 else if r = false then .error e3 else .ok x
theorem lqR_ans {g : Nat → HpT → AT Int32} {S : HpT} {e1 e2 e3 : Nat} {p q r : Bool} {x val : Int32} (hx : p = true → q = true → r = true → x = val) (h1 : g e1 S = some (.ok 1, S, 0, 0)) (h2 : g e2 S = some (.ok 2, S, 0, 0)) (h3 : g e3 S = some (.ok 3, S, 0, 0)) : lqR g S x (thr p q r) (ansE e1 e2 e3 p q r val) := by
  cases p
  · exact ⟨show (1 : Int32) ≠ 0 by decide, h1⟩
  · cases q
    · exact ⟨show (2 : Int32) ≠ 0 by decide, h2⟩
    · cases r
      · exact ⟨show (3 : Int32) ≠ 0 by decide, h3⟩
      · exact ⟨(hx rfl rfl rfl).symm, rfl⟩
theorem lqR_ans2 {g : Nat → HpT → AT Int32} {S : HpT} {e1 e2 e3 : Nat} {p q : Bool} {x val : Int32} (hx : p = true → q = true → x = val) (h1 : g e1 S = some (.ok 1, S, 0, 0)) (h2 : g e2 S = some (.ok 2, S, 0, 0)) : lqR g S x (thr p q true) (ansE e1 e2 e3 p q true val) := by
  cases p
  · exact ⟨show (1 : Int32) ≠ 0 by decide, h1⟩
  · cases q
    · exact ⟨show (2 : Int32) ≠ 0 by decide, h2⟩
    · exact ⟨(hx rfl rfl).symm, rfl⟩
theorem thr_pq (p q r : Bool) : thr p (p && q) r = thr p q r := by cases p <;> rfl
section LQ8
variable {σ : HpT} {G : Nat → Nat → Int32} {J : Nat → Nat → Int64} {o b m d : Nat} {N : Nat → Int32}
theorem m_may3 (h : MK σ m) (hr : G m 6 = 0 ∨ G m 6 = 1) (q r : Bool) : fX10_may (some m) (G m 6) (bI q) (bI r) (wi σ G) = some (decide (G m 6 ≠ 0) && q && r, wi σ (up G m 0 (thr (decide (G m 6 ≠ 0)) q r))) := by
  have e := m_read G m hr
  rw [e, m_may h, ← e]
theorem m_may2 (h : MK σ m) (hr : G m 6 = 0 ∨ G m 6 = 1) (q : Bool) : fX10_mayTwo (some m) (G m 6) (bI q) (wi σ G) = some (decide (G m 6 ≠ 0) && q, wi σ (up G m 0 (thr (decide (G m 6 ≠ 0)) q true))) := by
  have e := m_read G m hr
  rw [e, m_mayTwo h, ← e]
theorem isA_e {v : Int32} : isA G m v = (decide (G m 6 ≠ 0) && inR v (nI 1) (G (m + 1) 3)) := rfl
theorem inA_t (w1 : W1 N) {v : Int32} (e : inR v (nI 1) (N 3) = true) : ∃ a, v = nI (a + 1) ∧ a < nAc N := by
  have hb := w1_b w1
  rw [(w1_e w1).2.1] at e
  obtain ⟨j, hv, h1, hj⟩ := inR_t (by omega) (by omega) e
  exact ⟨j - 1, by rw [hv, Nat.sub_add_cancel h1], by omega⟩
def actW (N : Nat → Int32) (a : Nat) : Nat → Int32
  | 0 => N (9 + 9 * a)
  | 1 => N (9 + 9 * a + 1)
  | 2 => N (9 + 9 * a + 2)
  | 3 => N (9 + 9 * a + 3)
  | 4 => nI (aM N a)
  | 5 => stN N (aF N a) (aM N a)
  | 6 => nI (aC N a)
  | 7 => mxQ N a (aM N a)
  | 8 => nI (aF N a / nRm N)
  | 9 => nI ((aF N a + aM N a - 1) / nRm N)
  | 10 => N (9 + 9 * a + 4)
  | _ => nI (cntN (fun c => decide (oO N c = a)) (nCp N))
theorem cq_act (h : NK σ o b) (hwr : G o 4 ≠ 0 → WFN N ∧ RB G J b N) (v w : Int32) : fX9_act (some o) v w (wc σ G J) = some (ansE 0 1 2 (decide (G o 4 ≠ 0)) (inR v (nI 1) (N 3)) (inR w (nI 0) (nI 11)) (actW N (v.toNatClampNeg - 1) w.toNatClampNeg)) := by
  have B := nk_B h
  unfold fX9_act
  rw [nk_o h, bnP_1, c_requireBook h]
  by_cases q : G o 4 = 0
  · rw [if_pos q, bnX_e, decide_eq_false (fun e => e q)]
    rfl
  · obtain ⟨hw, r⟩ := hwr q
    have hb := w1_b hw.1
    rw [if_neg q, bnX_1, decide_eq_true q]
    cases e : inR v (nI 1) (N 3)
    · rw [c_requireAct0 h hw.1 r e, bnX_e]
      rfl
    · obtain ⟨a, rfl, ha⟩ := inA_t hw.1 e
      have ok := (act_ok hw.1 hw.2.1 ha).1
      obtain ⟨p1, p2, p3, p4, p5⟩ := id ok
      have hle : aF N a + aM N a ≤ nWd N := act_le hw.1 hw.2.1 ha
      have hr := rb_act r ha
      rw [c_requireAct1 h hw.1 r ha, bnX_1, c_requireUpTo, li_0, li_11]
      cases e2 : inR w (nI 0) (nI 11)
      · rfl
      · obtain ⟨j, rfl, -, hj⟩ := inR_t (by decide) (by decide) e2
        rw [if_pos rfl, bnX_1, nI_clamp (by omega), nI_clamp (by omega), Nat.add_sub_cancel]
        show _ = some (Except.ok (actW N a j))
        have hj : j = 0 ∨ j = 1 ∨ j = 2 ∨ j = 3 ∨ j = 4 ∨ j = 5 ∨ j = 6 ∨ j = 7 ∨ j = 8 ∨ j = 9 ∨ j = 10 ∨ j = 11 := by omega
        rcases hj with rfl | rfl | rfl | rfl | rfl | rfl | rfl | rfl | rfl | rfl | rfl | rfl
        · rw [if_pos (by decide), bk_aI B p1, bnP_1, hr.2.1]
          rfl
        · rw [if_neg (by decide), if_pos (by decide), bk_aI B p1, bnP_1, hr.2.2.1]
          rfl
        · rw [if_neg (by decide), if_neg (by decide), if_pos (by decide), bk_aI B p1, bnP_1, hr.2.2.2.1]
          rfl
        · rw [if_neg (by decide), if_neg (by decide), if_neg (by decide), if_pos (by decide), bk_aI B p1, bnP_1, hr.2.2.2.2.1]
          rfl
        · rw [if_neg (by decide), if_neg (by decide), if_neg (by decide), if_neg (by decide), if_pos (by decide), bk_aI B p1, bnP_1, hr.2.2.2.2.2.2.1, p3]
          rfl
        · rw [if_neg (by decide), if_neg (by decide), if_neg (by decide), if_neg (by decide), if_neg (by decide), if_pos (by decide), nk_b h, bnP_1, bk_r8 B, bnP_1, bk_aI B p1, bnP_1, bk_aI B p1, bnP_1, hr.2.2.2.2.2.1, hr.2.2.2.2.2.2.1, p2, p3, c_standingFrom B hw.1 r hle, bnP_1]
          rfl
        · rw [if_neg (by decide), if_neg (by decide), if_neg (by decide), if_neg (by decide), if_neg (by decide), if_neg (by decide), if_pos (by decide), nk_b h, bnP_1, bk_r8 B, bnP_1, bk_aI B p1, bnP_1, bk_aI B p1, bnP_1, hr.2.2.2.2.2.1, hr.2.2.2.2.2.2.1, p2, p3, c_clausesFrom B hw r ha, bnP_1]
          rfl
        · rw [if_neg (by decide), if_neg (by decide), if_neg (by decide), if_neg (by decide), if_neg (by decide), if_neg (by decide), if_neg (by decide), if_pos (by decide), nk_b h, bnP_1, bk_r8 B, bnP_1, bk_aI B p1, bnP_1, bk_aI B p1, bnP_1, hr.2.2.2.2.2.1, hr.2.2.2.2.2.2.1, p2, p3, c_greatestDepth B hw r ha, bnP_1]
          rfl
        · rw [if_neg (by decide), if_neg (by decide), if_neg (by decide), if_neg (by decide), if_neg (by decide), if_neg (by decide), if_neg (by decide), if_neg (by decide), if_pos (by decide), nk_b h, bnP_1, bk_aI B p1, bnP_1, hr.2.2.2.2.2.1, p2, c_leafOf B hw.1 r (by omega), bnP_1]
          rfl
        · rw [if_neg (by decide), if_neg (by decide), if_neg (by decide), if_neg (by decide), if_neg (by decide), if_neg (by decide), if_neg (by decide), if_neg (by decide), if_neg (by decide), if_pos (by decide), nk_b h, bnP_1, bk_aI B p1, bnP_1, bk_aI B p1, bnP_1, hr.2.2.2.2.2.1, hr.2.2.2.2.2.2.1, p2, p3, nI_add, nI_m1 (by omega), c_leafOf B hw.1 r (by omega), bnP_1]
          rfl
        · rw [if_neg (by decide), if_neg (by decide), if_neg (by decide), if_neg (by decide), if_neg (by decide), if_neg (by decide), if_neg (by decide), if_neg (by decide), if_neg (by decide), if_neg (by decide), if_pos (by decide), bk_aI B p1, bnP_1, hr.2.2.2.2.2.2.2]
          rfl
        · rw [if_neg (by decide), if_neg (by decide), if_neg (by decide), if_neg (by decide), if_neg (by decide), if_neg (by decide), if_neg (by decide), if_neg (by decide), if_neg (by decide), if_neg (by decide), if_neg (by decide), nk_b h, bnP_1, c_copiesOf B hw r ha, bnP_1]
          rfl
theorem mq_act (h : MK σ m) (hw : G m 6 ≠ 0 → WFN (G (m + 1))) (hr : G m 6 = 0 ∨ G m 6 = 1) (v w : Int32) : fX10_act (some m) v w (wi σ G) = some (if (isA G m v && inR w (nI 0) (nI 11)) = true then actW (G (m + 1)) (v.toNatClampNeg - 1) w.toNatClampNeg else 0, wi σ (up G m 0 (thr (decide (G m 6 ≠ 0)) (isA G m v) (inR w (nI 0) (nI 11))))) := by
  unfold fX10_act
  rw [mk_o h, bnP_1, mk_I h, bnP_1, m_isAct h, bnP_1, m_in, bnP_1, m_may3 h hr, bnS_1, show inR w 0 11 = inR w (nI 0) (nI 11) from rfl]
  cases e : isA G m v
  · rw [Bool.and_false, Bool.false_and]
    rfl
  · cases e2 : inR w (nI 0) (nI 11)
    · rw [Bool.and_false]
      rfl
    · have q : G m 6 ≠ 0 := by
        unfold isA at e
        rw [Bool.and_eq_true, decide_eq_true_eq] at e
        exact e.1
      rw [if_pos (by rw [decide_eq_true q]; rfl), if_pos (show (true && true) = true from rfl)]
      have hw := hw q
      obtain ⟨-, a, rfl, ha⟩ := isA_t hw.1 e
      obtain ⟨j, rfl, -, hj⟩ := inR_t (by decide) (by decide) e2
      generalize hG : up G m 0 (thr (decide (G m 6 ≠ 0)) true true) = G'
      have eG : G' (m + 1) = G (m + 1) := by rw [← hG]; exact up_a (by omega)
      rw [← eG] at hw ha ⊢
      clear hG
      have hb := w1_b hw.1
      have he := w1_e hw.1
      have ok := (act_ok hw.1 hw.2.1 ha).1
      obtain ⟨p1, p2, p3, p4, p5⟩ := id ok
      rw [nI_clamp (by omega), nI_clamp (by omega), Nat.add_sub_cancel, nI_pred]
      have hz : nz (nI (nRm (G' (m + 1)))) = some () := if_neg (nI_ne0 (by omega) (by omega))
      have hj : j = 0 ∨ j = 1 ∨ j = 2 ∨ j = 3 ∨ j = 4 ∨ j = 5 ∨ j = 6 ∨ j = 7 ∨ j = 8 ∨ j = 9 ∨ j = 10 ∨ j = 11 := by omega
      rcases hj with rfl | rfl | rfl | rfl | rfl | rfl | rfl | rfl | rfl | rfl | rfl | rfl
      · rw [if_neg (by decide), if_neg (by decide), if_neg (by decide), if_neg (by decide), if_neg (by decide), if_neg (by decide), if_neg (by decide), if_neg (by decide), m_ofAct h a 0 (by omega), bnP_1]
        rfl
      · rw [if_neg (by decide), if_neg (by decide), if_neg (by decide), if_neg (by decide), if_neg (by decide), if_neg (by decide), if_neg (by decide), if_neg (by decide), m_ofAct h a 1 (by omega), bnP_1]
        rfl
      · rw [if_neg (by decide), if_neg (by decide), if_neg (by decide), if_neg (by decide), if_neg (by decide), if_neg (by decide), if_neg (by decide), if_neg (by decide), m_ofAct h a 2 (by omega), bnP_1]
        rfl
      · rw [if_neg (by decide), if_neg (by decide), if_neg (by decide), if_neg (by decide), if_neg (by decide), if_neg (by decide), if_neg (by decide), if_neg (by decide), m_ofAct h a 3 (by omega), bnP_1]
        rfl
      · rw [if_pos (by decide), li_6, m_ofAct h a 6 (by omega), bnP_1, p3]
        rfl
      · rw [if_neg (by decide), if_pos (by decide), m_standing h ok, bnP_1]
        rfl
      · rw [if_neg (by decide), if_neg (by decide), if_pos (by decide), li_8, m_ofAct h a 8 (by omega), bnP_1, ((hw.2.1.2 a ha).2.1.2.2.2).1]
        rfl
      · rw [if_neg (by decide), if_neg (by decide), if_neg (by decide), if_pos (by decide), m_deepest h hw ha, bnP_1]
        rfl
      · rw [if_neg (by decide), if_neg (by decide), if_neg (by decide), if_neg (by decide), if_pos (by decide), show (5 : Int32) = nI 5 from rfl, m_ofAct h a 5 (by omega), bnP_1, mk_r1 h, bnP_1, li_0, mk_a1 h (by decide), bnP_1, he.1, p2, hz, bnP_1, pk_div (by omega) (by omega) (by omega)]
        rfl
      · rw [if_neg (by decide), if_neg (by decide), if_neg (by decide), if_neg (by decide), if_neg (by decide), if_pos (by decide), m_lastOf h ok, bnP_1, mk_r1 h, bnP_1, li_0, mk_a1 h (by decide), bnP_1, he.1, hz, bnP_1, pk_div (by omega) (by omega) (by omega)]
        rfl
      · rw [if_neg (by decide), if_neg (by decide), if_neg (by decide), if_neg (by decide), if_neg (by decide), if_neg (by decide), if_pos (by decide), li_4, m_ofAct h a 4 (by omega), bnP_1]
        rfl
      · rw [if_neg (by decide), if_neg (by decide), if_neg (by decide), if_neg (by decide), if_neg (by decide), if_neg (by decide), if_neg (by decide), if_pos (by decide), m_copiesOf h hw.1 hw.2.2.2 ha, bnP_1]
        rfl
/-- case 6: ACT -/
theorem lc6 (h : LO σ G J o b m d) {Lx : Nat} {xs : Nat → Int32} {v5 v w : Int32} (hx : sld Lx xs (v5 + 1) = some v) (hy : sld Lx xs (v5 + 2) = some w) (v4 : Option Nat) : ∃ t y a c, fL_c6 Lx xs (some o) (some m) (some d) v4 v5 (wc σ G J) = some ((.ok () : Except Nat Unit), wc σ (up G m 0 t) (upJ J d 0 y), a, c) ∧ a ≤ 1 ∧ c ≤ 6 := by
  unfold fL_c6 fL_act
  simp only [hx, hy, bnP_1]
  have hr : G m 6 = 0 ∨ G m 6 = 1 := by rw [h.2.2.2.2.1]; exact h.2.2.2.1
  refine lq_int h (cq_act h.1 h.2.2.2.2.2 v w) (fun J' => mq_act (σ := wc σ G J') h.2.1 (fun q => (h.2.2.2.2.2 (by rw [← h.2.2.2.2.1]; exact q)).1) hr v w) ?_
  rw [isA_e, thr_pq, h.2.2.2.2.1]
  refine lqR_ans (fun q1 q2 q3 => ?_) rfl rfl rfl
  rw [q1, q2, q3]
  rfl
/-! words -/
def wrdW (N : Nat → Int32) (a g : Nat) : Nat → Int32
  | 0 => nI (g / nRm N)
  | 1 => N (127 + 13 * g + 2)
  | 2 => dpQ N a g
  | 3 => N (127 + 13 * g + 4)
  | 4 => nI (lenQ (N (127 + 13 * g)) (N (127 + 13 * g + 1)))
  | 5 => bI (knN N g)
  | 6 => inQ N a g
  | _ => nI (cwN N g)
/-- is w a word of the act with number v -/
def isW (N : Nat → Int32) (v w : Int32) : Bool := inR v (nI 1) (N 3) && inR w (nI 0) (nI (aM N (v.toNatClampNeg - 1) - 1))
theorem isW_t (w1 : W1 N) (w2 : W2 N) {v w : Int32} (e : isW N v w = true) : ∃ a i, v = nI (a + 1) ∧ a < nAc N ∧ w = nI i ∧ i < aM N a := by
  unfold isW at e
  rw [Bool.and_eq_true] at e
  obtain ⟨a, rfl, ha⟩ := inA_t w1 e.1
  have hb := w1_b w1
  obtain ⟨p1, p2, p3, p4, p5⟩ := (act_ok w1 w2 ha).1
  have e2 := e.2
  rw [nI_clamp (by omega), Nat.add_sub_cancel] at e2
  obtain ⟨i, rfl, -, hi⟩ := inR_t (by decide) (by omega) e2
  exact ⟨a, i, rfl, ha, rfl, by omega⟩
theorem c_requireWord (h : BK σ b) (w1 : W1 N) (w2 : W2 N) (r : RB G J b N) {a : Nat} (ha : a < nAc N) (w : Int32) : fX9_requireWord (some (b + 15 + a)) w (wc σ G J) = some (if inR w (nI 0) (nI (aM N a - 1)) = true then .ok (nI (aF N a) + w) else .error 1) := by
  obtain ⟨p1, p2, p3, p4, p5⟩ := (act_ok w1 w2 ha).1
  have hr := rb_act r ha
  unfold fX9_requireWord
  by_cases h1 : w < 0
  · rw [if_pos h1]
    unfold inR
    rw [show decide (nI 0 ≤ w) = false from decide_eq_false (Int32.not_le.mpr h1), Bool.false_and]
    rfl
  · obtain ⟨i, hi, rfl⟩ := nI_of h1
    rw [if_neg h1, bk_aI h p1, bnP_1, hr.2.2.2.2.2.2.1, p3, inR_nI hi (by decide) (by omega), decide_eq_true (Nat.zero_le i), Bool.true_and]
    by_cases h2 : i < aM N a
    · rw [if_pos (nI_lt h2 (by omega)), decide_eq_true (show i ≤ aM N a - 1 by omega), if_pos rfl, bk_aI h p1, bnP_1, hr.2.2.2.2.2.1, p2]
    · rw [if_neg (nI_nlt (by omega) hi), decide_eq_false (show ¬ i ≤ aM N a - 1 by omega)]
      rfl
theorem rb_wd (r : RB G J b N) {g : Nat} (hg : g < nWd N) : wdR (N (127 + 13 * g)) (N (127 + 13 * g + 1)) (J (b + 3 + 1) g) := (r.2.1.1 g hg).1
theorem m_isWordOfW (h : MK σ m) (hw : G m 6 ≠ 0 → WFN (G (m + 1))) (v w : Int32) : fX10_isWordOf (some m) v w (wi σ G) = some (decide (G m 6 ≠ 0) && isW (G (m + 1)) v w) := by
  unfold isW
  cases e : isA G m v
  · rw [m_isWordOf0 h e, ← Bool.and_assoc, ← isA_e, e, Bool.false_and]
  · have q : G m 6 ≠ 0 := by
      have e := e
      unfold isA at e
      rw [Bool.and_eq_true, decide_eq_true_eq] at e
      exact e.1
    have hw := hw q
    have e1 := e
    rw [isA_e, Bool.and_eq_true] at e1
    obtain ⟨-, a, rfl, ha⟩ := isA_t hw.1 e
    have hb := w1_b hw.1
    rw [m_isWordOf h hw.1 hw.2.1 ha e, e1.1, e1.2, Bool.true_and, Bool.true_and, nI_clamp (by omega), Nat.add_sub_cancel]
theorem m_globalOf (h : MK σ m) (w1 : W1 (G (m + 1))) (w2 : W2 (G (m + 1))) {a i : Nat} (ha : a < nAc (G (m + 1))) : fX10_globalOf (some m) (nI (a + 1)) (nI i) (wi σ G) = some (nI (aF (G (m + 1)) a + i)) := by
  obtain ⟨p1, p2, p3, p4, p5⟩ := (act_ok w1 w2 ha).1
  unfold fX10_globalOf
  rw [mk_o h, bnP_1, nI_pred, li_5, m_ofAct h a 5 (by omega), bnP_1, p2, nI_add]
theorem cq_word (h : NK σ o b) (hwr : G o 4 ≠ 0 → WFN N ∧ RB G J b N) (v w u : Int32) : fX9_word (some o) v w u (wc σ G J) = some (ansE 0 1 2 (decide (G o 4 ≠ 0)) (isW N v w) (inR u (nI 0) (nI 7)) (wrdW N (v.toNatClampNeg - 1) (aF N (v.toNatClampNeg - 1) + w.toNatClampNeg) u.toNatClampNeg)) := by
  have B := nk_B h
  unfold fX9_word
  rw [nk_o h, bnP_1, c_requireBook h]
  by_cases q : G o 4 = 0
  · rw [if_pos q, bnX_e, decide_eq_false (fun e => e q)]
    rfl
  · obtain ⟨hw, r⟩ := hwr q
    have hb := w1_b hw.1
    rw [if_neg q, bnX_1, decide_eq_true q]
    unfold isW
    cases e : inR v (nI 1) (N 3)
    · rw [c_requireAct0 h hw.1 r e, bnX_e]
      rfl
    · obtain ⟨a, rfl, ha⟩ := inA_t hw.1 e
      have ok := (act_ok hw.1 hw.2.1 ha).1
      obtain ⟨p1, p2, p3, p4, p5⟩ := id ok
      have hle : aF N a + aM N a ≤ nWd N := act_le hw.1 hw.2.1 ha
      have hr := rb_act r ha
      rw [c_requireAct1 h hw.1 r ha, bnX_1, c_requireWord B hw.1 hw.2.1 r ha, Bool.true_and, nI_clamp (show a + 1 < 2 ^ 31 by omega), Nat.add_sub_cancel]
      cases e2 : inR w (nI 0) (nI (aM N a - 1))
      · rfl
      · obtain ⟨i, rfl, -, hi⟩ := inR_t (by decide) (by omega) e2
        rw [if_pos rfl, bnX_1, c_requireUpTo, li_0, li_7, nI_add, nI_clamp (show i < 2 ^ 31 by omega)]
        cases e3 : inR u (nI 0) (nI 7)
        · rfl
        · obtain ⟨j, rfl, -, hj⟩ := inR_t (by decide) (by decide) e3
          have hg : aF N a + i < nWd N := by omega
          have hg1 : aF N a ≤ aF N a + i := by omega
          have hg2 : aF N a + i < aF N a + aM N a := by omega
          have h01 := (hw.2.2.2.1 _ hg).2
          rw [if_pos rfl, bnX_1, nI_clamp (by omega), nk_b h, bnP_1, bk_r8 B, bnP_1]
          show _ = some (Except.ok (wrdW N a (aF N a + i) j))
          generalize aF N a + i = g at hg hg1 hg2 h01 ⊢
          have hj : j = 0 ∨ j = 1 ∨ j = 2 ∨ j = 3 ∨ j = 4 ∨ j = 5 ∨ j = 6 ∨ j = 7 := by omega
          rcases hj with rfl | rfl | rfl | rfl | rfl | rfl | rfl | rfl
          · rw [if_pos (by decide), bnP_1, c_leafOf B hw.1 r (by omega), bnP_1]
            rfl
          · rw [if_neg (by decide), if_pos (by decide), sk_r4 (bk_S B), bnP_1, sk_a4 (bk_S B) (by omega), bnP_1, rb_sk r hg]
            show _ = some (Except.ok (N (127 + 13 * g + 2)))
            rcases h01 with h01 | h01
            · rw [h01]
              rfl
            · rw [h01]
              rfl
          · rw [if_neg (by decide), if_neg (by decide), if_pos (by decide), bk_aI B p1, bnP_1, hr.2.2.2.2.2.1, p2, c_depthOf B hw r ha hg1 hg2, bnP_1]
            rfl
          · rw [if_neg (by decide), if_neg (by decide), if_neg (by decide), if_pos (by decide), sk_r5 (bk_S B), bnP_1, sk_a5 (bk_S B) (by omega), bnP_1, rb_in r hg]
            rfl
          · rw [if_neg (by decide), if_neg (by decide), if_neg (by decide), if_neg (by decide), if_pos (by decide), sk_r1 (bk_S B), bnP_1, sk_a1 (bk_S B) (by omega), bnP_1, wd_clen (rb_wd r hg), bnP_1]
            rfl
          · rw [if_neg (by decide), if_neg (by decide), if_neg (by decide), if_neg (by decide), if_neg (by decide), if_pos (by decide), bnP_1, c_isKnown B hw r hg, bnP_1]
            show _ = some (Except.ok (bI (knN N g)))
            cases knN N g <;> rfl
          · rw [if_neg (by decide), if_neg (by decide), if_neg (by decide), if_neg (by decide), if_neg (by decide), if_neg (by decide), if_pos (by decide), bk_aI B p1, bnP_1, hr.2.2.2.2.2.1, p2, c_innermostOf B hw r ha hg1 hg2, bnP_1]
            rfl
          · rw [if_neg (by decide), if_neg (by decide), if_neg (by decide), if_neg (by decide), if_neg (by decide), if_neg (by decide), if_neg (by decide), bnP_1, c_copiesWith B hw r hg, bnP_1]
            rfl
/-- what holds of a word of now: its two forms (the reference's side alone: numbers below 2^20) -/
def W5 (N : Nat → Int32) : Prop := ∀ g, g < nWd N → (∃ w, wdR (N (127 + 13 * g)) (N (127 + 13 * g + 1)) w) ∧ ∀ j, j < wN' N g → ∃ w, wdR (N (127 + 13 * g + 5 + 2 * j)) (N (127 + 13 * g + 5 + 2 * j + 1)) w
theorem rb_w5 (r : RB G J b N) : W5 N := fun g hg => ⟨⟨_, (r.2.1.1 g hg).1⟩, fun j hj => ⟨_, (r.2.1.1 g hg).2.2.2 j hj⟩⟩
theorem mq_word (h : MK σ m) (hw : G m 6 ≠ 0 → WFN (G (m + 1)) ∧ W5 (G (m + 1))) (hr : G m 6 = 0 ∨ G m 6 = 1) (v w u : Int32) : fX10_word (some m) v w u (wi σ G) = some (if ((decide (G m 6 ≠ 0) && isW (G (m + 1)) v w) && inR u (nI 0) (nI 7)) = true then wrdW (G (m + 1)) (v.toNatClampNeg - 1) (aF (G (m + 1)) (v.toNatClampNeg - 1) + w.toNatClampNeg) u.toNatClampNeg else 0, wi σ (up G m 0 (thr (decide (G m 6 ≠ 0)) (isW (G (m + 1)) v w) (inR u (nI 0) (nI 7))))) := by
  unfold fX10_word
  rw [mk_o h, bnP_1, mk_I h, bnP_1, m_isWordOfW h (fun q => (hw q).1), bnP_1, m_in, bnP_1, m_may3 h hr, bnS_1, show inR u 0 7 = inR u (nI 0) (nI 7) from rfl, thr_pq]
  cases e : decide (G m 6 ≠ 0)
  · rw [Bool.false_and, Bool.false_and, Bool.false_and]
    rfl
  · have q : G m 6 ≠ 0 := of_decide_eq_true e
    rw [Bool.true_and, Bool.true_and]
    obtain ⟨hw, w5⟩ := hw q
    cases e1 : isW (G (m + 1)) v w
    · rw [Bool.false_and]
      rfl
    · cases e2 : inR u (nI 0) (nI 7)
      · rfl
      · rw [Bool.true_and, if_pos rfl, if_pos rfl]
        obtain ⟨a, i, rfl, ha, rfl, hi⟩ := isW_t hw.1 hw.2.1 e1
        obtain ⟨j, rfl, -, hj⟩ := inR_t (by decide) (by decide) e2
        generalize hG : up G m 0 (thr true true true) = G'
        have eG : G' (m + 1) = G (m + 1) := by rw [← hG]; exact up_a (by omega)
        rw [← eG] at hw ha hi w5 ⊢
        clear hG
        have hb := w1_b hw.1
        have he := w1_e hw.1
        have ok := (act_ok hw.1 hw.2.1 ha).1
        obtain ⟨p1, p2, p3, p4, p5⟩ := id ok
        have hle : aF (G' (m + 1)) a + aM (G' (m + 1)) a ≤ nWd (G' (m + 1)) := act_le hw.1 hw.2.1 ha
        rw [nI_clamp (show a + 1 < 2 ^ 31 by omega), nI_clamp (show i < 2 ^ 31 by omega), nI_clamp (show j < 2 ^ 31 by omega), Nat.add_sub_cancel, m_globalOf h hw.1 hw.2.1 ha, bnP_1]
        have hz : nz (nI (nRm (G' (m + 1)))) = some () := if_neg (nI_ne0 (by omega) (by omega))
        have hg : aF (G' (m + 1)) a + i < nWd (G' (m + 1)) := by omega
        have hg1 : aF (G' (m + 1)) a ≤ aF (G' (m + 1)) a + i := by omega
        have hg2 : aF (G' (m + 1)) a + i < aF (G' (m + 1)) a + aM (G' (m + 1)) a := by omega
        generalize aF (G' (m + 1)) a + i = g at hg hg1 hg2 ⊢
        have hj : j = 0 ∨ j = 1 ∨ j = 2 ∨ j = 3 ∨ j = 4 ∨ j = 5 ∨ j = 6 ∨ j = 7 := by omega
        rcases hj with rfl | rfl | rfl | rfl | rfl | rfl | rfl | rfl
        · rw [if_pos (by decide), mk_r1 h, bnP_1, show (0 : Int32) = nI 0 from rfl, mk_a1 h (n := 0) (by decide), bnP_1, he.1, hz, bnP_1, pk_div (by omega) (by omega) (by omega)]
          rfl
        · rw [if_neg (by decide), if_pos (by decide), li_2, m_ofWord h g 2 (by omega), bnP_1]
          rfl
        · rw [if_neg (by decide), if_neg (by decide), if_pos (by decide), m_clauseOf h hw ha hg1 hg2, bnP_1, m_depthC h hw ha hg1 hg2, bnP_1]
          rfl
        · rw [if_neg (by decide), if_neg (by decide), if_neg (by decide), if_pos (by decide), li_4, m_ofWord h g 4 (by omega), bnP_1]
          rfl
        · obtain ⟨w0, hw0⟩ := (w5 g hg).1
          rw [if_neg (by decide), if_neg (by decide), if_neg (by decide), if_neg (by decide), if_pos (by decide), show (0 : Int32) = nI 0 from rfl, show (1 : Int32) = nI 1 from rfl, m_ofWord h g 0 (by omega), bnP_1, m_ofWord h g 1 (by omega), bnP_1]
          show bnP (fX10_lengthOf (G' (m + 1) (127 + 13 * g)) (G' (m + 1) (127 + 13 * g + 1)) (wi σ G')) _ = _
          rw [wd_mlen hw0, bnP_1]
          rfl
        · rw [if_neg (by decide), if_neg (by decide), if_neg (by decide), if_neg (by decide), if_neg (by decide), if_pos (by decide), m_isKnown h hw hg, bnP_1, m_one, bnP_1]
          rfl
        · rw [if_neg (by decide), if_neg (by decide), if_neg (by decide), if_neg (by decide), if_neg (by decide), if_neg (by decide), if_pos (by decide), m_clauseNumber h hw ha hg1 hg2, bnP_1]
          rfl
        · rw [if_neg (by decide), if_neg (by decide), if_neg (by decide), if_neg (by decide), if_neg (by decide), if_neg (by decide), if_neg (by decide), m_copiesWith h hw hg, bnP_1]
          rfl
theorem lo_w5 (h : LO σ G J o b m d) (q : G m 6 ≠ 0) : WFN (G (m + 1)) ∧ W5 (G (m + 1)) := by
  have q2 := h.2.2.2.2.2 (by rw [← h.2.2.2.2.1]; exact q)
  exact ⟨q2.1, rb_w5 q2.2⟩
/-- case 7: WORD -/
theorem lc7 (h : LO σ G J o b m d) {Lx : Nat} {xs : Nat → Int32} {v5 v w u : Int32} (hx : sld Lx xs (v5 + 1) = some v) (hy : sld Lx xs (v5 + 2) = some w) (hu : sld Lx xs (v5 + 3) = some u) (v4 : Option Nat) : ∃ t y a c, fL_c7 Lx xs (some o) (some m) (some d) v4 v5 (wc σ G J) = some ((.ok () : Except Nat Unit), wc σ (up G m 0 t) (upJ J d 0 y), a, c) ∧ a ≤ 1 ∧ c ≤ 6 := by
  unfold fL_c7 fL_word
  simp only [hx, hy, hu, bnP_1]
  have hr : G m 6 = 0 ∨ G m 6 = 1 := by rw [h.2.2.2.2.1]; exact h.2.2.2.1
  refine lq_int h (cq_word h.1 h.2.2.2.2.2 v w u) (fun J' => mq_word (σ := wc σ G J') h.2.1 (lo_w5 h) hr v w u) ?_
  rw [h.2.2.2.2.1]
  refine lqR_ans (fun q1 q2 q3 => ?_) rfl rfl rfl
  rw [q1, q2, q3]
  rfl
/-! letters -/
def letQ (N : Nat → Int32) (v w u : Int32) : Int32 := ltQ (N (127 + 13 * (aF N (v.toNatClampNeg - 1) + w.toNatClampNeg))) (N (127 + 13 * (aF N (v.toNatClampNeg - 1) + w.toNatClampNeg) + 1)) u
theorem cq_letter (h : NK σ o b) (hwr : G o 4 ≠ 0 → WFN N ∧ RB G J b N) (v w u : Int32) : fX9_letter (some o) v w u (wc σ G J) = some (ansE 0 1 2 (decide (G o 4 ≠ 0)) (isW N v w) true (letQ N v w u)) := by
  have B := nk_B h
  unfold fX9_letter
  rw [nk_o h, bnP_1, c_requireBook h]
  by_cases q : G o 4 = 0
  · rw [if_pos q, bnX_e, decide_eq_false (fun e => e q)]
    rfl
  · obtain ⟨hw, r⟩ := hwr q
    have hb := w1_b hw.1
    rw [if_neg q, bnX_1, decide_eq_true q]
    unfold isW
    cases e : inR v (nI 1) (N 3)
    · rw [c_requireAct0 h hw.1 r e, bnX_e]
      rfl
    · obtain ⟨a, rfl, ha⟩ := inA_t hw.1 e
      have ok := (act_ok hw.1 hw.2.1 ha).1
      obtain ⟨p1, p2, p3, p4, p5⟩ := id ok
      have hle : aF N a + aM N a ≤ nWd N := act_le hw.1 hw.2.1 ha
      unfold letQ
      rw [c_requireAct1 h hw.1 r ha, bnX_1, c_requireWord B hw.1 hw.2.1 r ha, Bool.true_and, nI_clamp (show a + 1 < 2 ^ 31 by omega), Nat.add_sub_cancel]
      cases e2 : inR w (nI 0) (nI (aM N a - 1))
      · rfl
      · obtain ⟨i, rfl, -, hi⟩ := inR_t (by decide) (by omega) e2
        rw [if_pos rfl, bnX_1, nI_add, nI_clamp (show i < 2 ^ 31 by omega), nk_b h, bnP_1, bk_r8 B, bnP_1, sk_r1 (bk_S B), bnP_1, sk_a1 (bk_S B) (by omega), bnP_1, wd_clet (rb_wd r (by omega)), bnP_1]
        rfl
theorem mq_letter (h : MK σ m) (hw : G m 6 ≠ 0 → WFN (G (m + 1)) ∧ W5 (G (m + 1))) (hr : G m 6 = 0 ∨ G m 6 = 1) (v w u : Int32) : fX10_letter (some m) v w u (wi σ G) = some (if (decide (G m 6 ≠ 0) && isW (G (m + 1)) v w) = true then letQ (G (m + 1)) v w u else 0, wi σ (up G m 0 (thr (decide (G m 6 ≠ 0)) (isW (G (m + 1)) v w) true))) := by
  unfold fX10_letter
  rw [mk_o h, bnP_1, mk_I h, bnP_1, m_isWordOfW h (fun q => (hw q).1), bnP_1, m_may2 h hr, bnS_1, thr_pq]
  cases e : decide (G m 6 ≠ 0)
  · rw [Bool.false_and, Bool.false_and]
    rfl
  · have q : G m 6 ≠ 0 := of_decide_eq_true e
    rw [Bool.true_and, Bool.true_and]
    obtain ⟨hw, w5⟩ := hw q
    cases e1 : isW (G (m + 1)) v w
    · rfl
    · rw [if_pos rfl, if_pos rfl]
      obtain ⟨a, i, rfl, ha, rfl, hi⟩ := isW_t hw.1 hw.2.1 e1
      generalize hG : up G m 0 (thr true true true) = G'
      have eG : G' (m + 1) = G (m + 1) := by rw [← hG]; exact up_a (by omega)
      rw [← eG] at hw ha hi w5 ⊢
      clear hG
      have hb := w1_b hw.1
      obtain ⟨p1, p2, p3, p4, p5⟩ := (act_ok hw.1 hw.2.1 ha).1
      have hle : aF (G' (m + 1)) a + aM (G' (m + 1)) a ≤ nWd (G' (m + 1)) := act_le hw.1 hw.2.1 ha
      unfold letQ
      rw [nI_clamp (show a + 1 < 2 ^ 31 by omega), nI_clamp (show i < 2 ^ 31 by omega), Nat.add_sub_cancel, m_globalOf h hw.1 hw.2.1 ha, bnP_1]
      have hg : aF (G' (m + 1)) a + i < nWd (G' (m + 1)) := by omega
      generalize aF (G' (m + 1)) a + i = g at hg ⊢
      obtain ⟨w0, hw0⟩ := (w5 g hg).1
      rw [show (0 : Int32) = nI 0 from rfl, show (1 : Int32) = nI 1 from rfl, m_ofWord h g 0 (by omega), bnP_1, m_ofWord h g 1 (by omega), bnP_1]
      show bnP (fX10_letterOf (G' (m + 1) (127 + 13 * g)) (G' (m + 1) (127 + 13 * g + 1)) u (wi σ G')) _ = _
      rw [wd_mlet hw0, bnP_1]
/-- case 8: LETTER -/
theorem lc8 (h : LO σ G J o b m d) {Lx : Nat} {xs : Nat → Int32} {v5 v w u : Int32} (hx : sld Lx xs (v5 + 1) = some v) (hy : sld Lx xs (v5 + 2) = some w) (hu : sld Lx xs (v5 + 3) = some u) (v4 : Option Nat) : ∃ t y a c, fL_c8 Lx xs (some o) (some m) (some d) v4 v5 (wc σ G J) = some ((.ok () : Except Nat Unit), wc σ (up G m 0 t) (upJ J d 0 y), a, c) ∧ a ≤ 1 ∧ c ≤ 6 := by
  unfold fL_c8 fL_letter
  simp only [hx, hy, hu, bnP_1]
  have hr : G m 6 = 0 ∨ G m 6 = 1 := by rw [h.2.2.2.2.1]; exact h.2.2.2.1
  refine lq_int h (cq_letter h.1 h.2.2.2.2.2 v w u) (fun J' => mq_letter (σ := wc σ G J') h.2.1 (lo_w5 h) hr v w u) ?_
  rw [h.2.2.2.2.1]
  refine lqR_ans2 (fun q1 q2 => ?_) rfl rfl
  rw [q1, q2]
  rfl
def inlQ (N : Nat → Int32) (g : Nat) (k u : Int32) : Int32 := if inR k (nI 0) (N (127 + 13 * g + 4) - 1) = true then ltQ (N (127 + 13 * g + 5 + 2 * k.toNatClampNeg)) (N (127 + 13 * g + 5 + 2 * k.toNatClampNeg + 1)) u else nO
theorem inN_t {n : Nat} (hn : n < 2 ^ 31) {k : Int32} (e : inR k (nI 0) (nI n - 1) = true) : ∃ j, k = nI j ∧ j < n := by
  by_cases z : n = 0
  · rw [z] at e
    have := inR_nO k
    rw [show nO = nI 0 - 1 from rfl, e] at this
    cases this
  · rw [nI_m1 (by omega)] at e
    obtain ⟨j, q1, -, q3⟩ := inR_t (by decide) (by omega) e
    exact ⟨j, q1, by omega⟩
theorem inN_f {n j : Nat} (hn : n < 2 ^ 31) (hj : j < 2 ^ 31) (e : inR (nI j) (nI 0) (nI n - 1) = false) : n ≤ j := by
  by_cases z : n = 0
  · omega
  · rw [nI_m1 (by omega), inR_nI hj (by decide) (by omega), decide_eq_true (Nat.zero_le j), Bool.true_and] at e
    have := of_decide_eq_false e
    omega
theorem rb_is (r : RB G J b N) {g j : Nat} (hg : g < nWd N) (hj : j < wN' N g) : wdR (N (127 + 13 * g + 5 + 2 * j)) (N (127 + 13 * g + 5 + 2 * j + 1)) (J (b + 3 + 6) (4 * g + j)) := (r.2.1.1 g hg).2.2.2 j hj
theorem c_letterOf0 (v : Int32) : fX9_letterOf 0 v σ = some nO := by
  show fX9_letterOf (lN (pkL (fun _ => 0) 0)) v σ = _
  rw [c_letterOfF (by decide) (fun k hk => absurd hk (Nat.not_lt_zero _))]
  by_cases q : v < 0
  · rw [if_pos q]
  · rw [if_neg q, if_neg (show ¬ v < nI 0 from q)]
theorem c_insertOf (h : BK σ b) (hw : WFN N) (r : RB G J b N) {g : Nat} (hg : g < nWd N) (k : Int32) : fX8_insertOf (some (b + 3)) (nI g) k (wc σ G J) = some (if inR k (nI 0) (N (127 + 13 * g + 4) - 1) = true then J (b + 3 + 6) (4 * g + k.toNatClampNeg) else 0) := by
  have hb := w1_b hw.1
  have e4 : N (127 + 13 * g + 4) = nI (wN' N g) := (hw.2.2.2.1 g hg).1.1
  have e5 : wN' N g < 5 := (hw.2.2.2.1 g hg).1.2
  unfold fX8_insertOf
  rw [sk_o (bk_S h), bnP_1]
  by_cases q : k < 0
  · rw [if_pos q]
    unfold inR
    rw [show decide (nI 0 ≤ k) = false from decide_eq_false (Int32.not_le.mpr q), Bool.false_and]
    rfl
  · obtain ⟨j, hj, rfl⟩ := nI_of q
    rw [if_neg q, sk_r5 (bk_S h), bnP_1, sk_a5 (bk_S h) (by omega), bnP_1, rb_in r hg, e4]
    cases e : inR (nI j) (nI 0) (nI (wN' N g) - 1)
    · have := inN_f (by omega) hj e
      rw [if_neg (nI_nlt this hj)]
      rfl
    · obtain ⟨i, e6, e7⟩ := inN_t (by omega) e
      have : j = i := (nI_eq hj (by omega)).mp e6
      subst this
      rw [if_pos (nI_lt e7 (by omega)), sk_r6 (bk_S h), bnP_1, li_4, pk_mul, nI_add, Nat.mul_comm g 4, sk_a6 (bk_S h) (by omega), bnP_1, if_pos rfl, nI_clamp hj]
theorem cq_innerLetter (h : NK σ o b) (hwr : G o 4 ≠ 0 → WFN N ∧ RB G J b N) (v w k u : Int32) : fX9_innerLetter (some o) v w k u (wc σ G J) = some (ansE 0 1 2 (decide (G o 4 ≠ 0)) (isW N v w) true (inlQ N (aF N (v.toNatClampNeg - 1) + w.toNatClampNeg) k u)) := by
  have B := nk_B h
  unfold fX9_innerLetter
  rw [nk_o h, bnP_1, c_requireBook h]
  by_cases q : G o 4 = 0
  · rw [if_pos q, bnX_e, decide_eq_false (fun e => e q)]
    rfl
  · obtain ⟨hw, r⟩ := hwr q
    have hb := w1_b hw.1
    rw [if_neg q, bnX_1, decide_eq_true q]
    unfold isW
    cases e : inR v (nI 1) (N 3)
    · rw [c_requireAct0 h hw.1 r e, bnX_e]
      rfl
    · obtain ⟨a, rfl, ha⟩ := inA_t hw.1 e
      have ok := (act_ok hw.1 hw.2.1 ha).1
      obtain ⟨p1, p2, p3, p4, p5⟩ := id ok
      have hle : aF N a + aM N a ≤ nWd N := act_le hw.1 hw.2.1 ha
      rw [c_requireAct1 h hw.1 r ha, bnX_1, c_requireWord B hw.1 hw.2.1 r ha, Bool.true_and, nI_clamp (show a + 1 < 2 ^ 31 by omega), Nat.add_sub_cancel]
      cases e2 : inR w (nI 0) (nI (aM N a - 1))
      · rfl
      · obtain ⟨i, rfl, -, hi⟩ := inR_t (by decide) (by omega) e2
        have hg : aF N a + i < nWd N := by omega
        rw [if_pos rfl, bnX_1, nI_add, nI_clamp (show i < 2 ^ 31 by omega), nk_b h, bnP_1, bk_r8 B, bnP_1]
        generalize aF N a + i = g at hg ⊢
        rw [c_insertOf B hw r hg, bnP_1]
        have e4 : N (127 + 13 * g + 4) = nI (wN' N g) := (hw.2.2.2.1 g hg).1.1
        have e5 : wN' N g < 5 := (hw.2.2.2.1 g hg).1.2
        unfold inlQ
        cases e6 : inR k (nI 0) (N (127 + 13 * g + 4) - 1)
        · show bnP (fX9_letterOf 0 u (wc σ G J)) _ = _
          rw [c_letterOf0, bnP_1]
          rfl
        · rw [if_pos rfl, if_pos rfl]
          rw [e4] at e6
          obtain ⟨j, rfl, hj⟩ := inN_t (by omega) e6
          rw [nI_clamp (by omega), wd_clet (rb_is r hg hj), bnP_1]
          rfl
theorem mq_innerLetter (h : MK σ m) (hw : G m 6 ≠ 0 → WFN (G (m + 1)) ∧ W5 (G (m + 1))) (hr : G m 6 = 0 ∨ G m 6 = 1) (v w k u : Int32) : fX10_innerLetter (some m) v w k u (wi σ G) = some (if (decide (G m 6 ≠ 0) && isW (G (m + 1)) v w) = true then inlQ (G (m + 1)) (aF (G (m + 1)) (v.toNatClampNeg - 1) + w.toNatClampNeg) k u else 0, wi σ (up G m 0 (thr (decide (G m 6 ≠ 0)) (isW (G (m + 1)) v w) true))) := by
  unfold fX10_innerLetter
  rw [mk_o h, bnP_1, mk_I h, bnP_1, m_isWordOfW h (fun q => (hw q).1), bnP_1, m_may2 h hr, bnS_1, thr_pq]
  cases e : decide (G m 6 ≠ 0)
  · rw [Bool.false_and, Bool.false_and]
    rfl
  · have q : G m 6 ≠ 0 := of_decide_eq_true e
    rw [Bool.true_and, Bool.true_and]
    obtain ⟨hw, w5⟩ := hw q
    cases e1 : isW (G (m + 1)) v w
    · rfl
    · rw [if_pos rfl, if_pos rfl]
      obtain ⟨a, i, rfl, ha, rfl, hi⟩ := isW_t hw.1 hw.2.1 e1
      generalize hG : up G m 0 (thr true true true) = G'
      have eG : G' (m + 1) = G (m + 1) := by rw [← hG]; exact up_a (by omega)
      rw [← eG] at hw ha hi w5 ⊢
      clear hG
      have hb := w1_b hw.1
      obtain ⟨p1, p2, p3, p4, p5⟩ := (act_ok hw.1 hw.2.1 ha).1
      have hle : aF (G' (m + 1)) a + aM (G' (m + 1)) a ≤ nWd (G' (m + 1)) := act_le hw.1 hw.2.1 ha
      rw [nI_clamp (show a + 1 < 2 ^ 31 by omega), nI_clamp (show i < 2 ^ 31 by omega), Nat.add_sub_cancel, m_globalOf h hw.1 hw.2.1 ha, bnP_1]
      have hg : aF (G' (m + 1)) a + i < nWd (G' (m + 1)) := by omega
      generalize aF (G' (m + 1)) a + i = g at hg ⊢
      have e4 : G' (m + 1) (127 + 13 * g + 4) = nI (wN' (G' (m + 1)) g) := (hw.2.2.2.1 g hg).1.1
      have e5 : wN' (G' (m + 1)) g < 5 := (hw.2.2.2.1 g hg).1.2
      unfold inlQ
      rw [li_4, m_ofWord h g 4 (by omega), bnP_1, m_in, bnP_1, show (0 : Int32) = nI 0 from rfl]
      cases e6 : inR k (nI 0) (G' (m + 1) (127 + 13 * g + 4) - 1)
      · rfl
      · rw [if_pos rfl, if_pos rfl]
        rw [e4] at e6
        obtain ⟨j, rfl, hj⟩ := inN_t (by omega) e6
        obtain ⟨w0, hw0⟩ := (w5 g hg).2 j hj
        rw [nI_clamp (by omega), li_5, li_2, pk_mul, nI_add, m_ofWord h g (5 + 2 * j) (by omega), bnP_1, nI_a1, m_ofWord h g (5 + 2 * j + 1) (by omega), bnP_1]
        rw [show 127 + 13 * g + (5 + 2 * j) = 127 + 13 * g + 5 + 2 * j by omega, show 127 + 13 * g + (5 + 2 * j + 1) = 127 + 13 * g + 5 + 2 * j + 1 by omega, wd_mlet hw0, bnP_1]
/-- case 9: INNERLETTER -/
theorem lc9 (h : LO σ G J o b m d) {Lx : Nat} {xs : Nat → Int32} {v5 v w k u : Int32} (hx : sld Lx xs (v5 + 1) = some v) (hy : sld Lx xs (v5 + 2) = some w) (hk : sld Lx xs (v5 + 3) = some k) (hu : sld Lx xs (v5 + 4) = some u) (v4 : Option Nat) : ∃ t y a c, fL_c9 Lx xs (some o) (some m) (some d) v4 v5 (wc σ G J) = some ((.ok () : Except Nat Unit), wc σ (up G m 0 t) (upJ J d 0 y), a, c) ∧ a ≤ 1 ∧ c ≤ 6 := by
  unfold fL_c9 fL_innerLetter
  simp only [hx, hy, hk, hu, bnP_1]
  have hr : G m 6 = 0 ∨ G m 6 = 1 := by rw [h.2.2.2.2.1]; exact h.2.2.2.1
  refine lq_int h (cq_innerLetter h.1 h.2.2.2.2.2 v w k u) (fun J' => mq_innerLetter (σ := wc σ G J') h.2.1 (lo_w5 h) hr v w k u) ?_
  rw [h.2.2.2.2.1]
  refine lqR_ans2 (fun q1 q2 => ?_) rfl rfl
  rw [q1, q2]
  rfl
end LQ8
