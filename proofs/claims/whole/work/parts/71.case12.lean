/-! THE PURE LEVEL, 31: CLAUSE, LONGEST, COMMON -/
def isCl (N : Nat → Int32) (v w : Int32) : Bool := inR v (nI 1) (N 3) && inR w (nI 0) (nI (aC N (v.toNatClampNeg - 1)) - 1)
def clW (N : Nat → Int32) (a c : Nat) : Nat → Int32
  | 0 => nI (cF N c - aF N a)
  | 1 => nI (cT N c - aF N a)
  | 2 => nI (cT N c - cF N c + 1)
  | 3 => nI (cntN (fun k => skN N (cF N c + k)) (cT N c - cF N c + 1))
  | 4 => nI (dep (cF N) (cT N) (aK N a) c)
  | _ => nI (cntN (fun i => decide (cA N (aK N a + i) = c + 1)) (aC N a))
/-- the longest of the first words of an act -/
def lgN (N : Nat → Int32) (a : Nat) : Nat → Int32 × Nat
  | 0 => (nO, 0)
  | k + 1 => if skN N (aF N a + k) = true ∧ (lgN N a k).2 < lenQ (N (127 + 13 * (aF N a + k))) (N (127 + 13 * (aF N a + k) + 1)) then (nI k, lenQ (N (127 + 13 * (aF N a + k))) (N (127 + 13 * (aF N a + k) + 1))) else lgN N a k
/-- stands a word, written, at g -/
def wsB (N : Nat → Int32) (lo hi : Int32) (g : Nat) : Bool := skN N g && (decide (N (127 + 13 * g) = lo) && decide (N (127 + 13 * g + 1) = hi))
def swB (N : Nat → Int32) (a : Nat) (lo hi : Int32) : Bool := (fuN (fun k => wsB N lo hi (aF N a + k)) (aM N a)).isSome
def cmQ (N : Nat → Int32) (a c : Nat) : Int32 := nI (cntN (fun k => skN N (aF N a + k) && swB N c (N (127 + 13 * (aF N a + k))) (N (127 + 13 * (aF N a + k) + 1))) (aM N a))
section LQ12
variable {σ : HpT} {G : Nat → Nat → Int32} {J : Nat → Nat → Int64} {o b m d : Nat} {N : Nat → Int32}
theorem lo_s13 (h : LO σ G J o b m d) (ho : o ≠ b + 13) (hm : m ≠ b + 13 ∧ m + 1 ≠ b + 13) (f : Nat → Int32) : LO σ (cw G (b + 13) f) J o b m d := by
  obtain ⟨h1, h2, h3, h4, h5, h6⟩ := h
  refine ⟨h1, h2, h3, by rw [cw_b ho]; exact h4, by rw [cw_b ho, cw_b hm.1]; exact h5, fun q => ?_⟩
  rw [cw_b ho] at q
  rw [cw_b hm.2]
  exact ⟨(h6 q).1, rb_s13 (h6 q).1.1 (h6 q).2 f⟩
theorem cq_clause (h : NK σ o b) (hwr : G o 4 ≠ 0 → WFN N ∧ RB G J b N) (v w u : Int32) : ∃ i j f, fX9_clause (some o) v w u (wc σ G J) = some (ansE 0 1 2 (decide (G o 4 ≠ 0)) (isCl N v w) (inR u (nI 0) (nI 5)) (clW N (v.toNatClampNeg - 1) (aK N (v.toNatClampNeg - 1) + w.toNatClampNeg) u.toNatClampNeg), wc σ (cw G (b + 13) f) J, i, j) ∧ i ≤ 1 ∧ j ≤ 6 := by
  have B := nk_B h
  unfold fX9_clause
  rw [nk_o h, bnP_1, c_requireBook h]
  by_cases q : G o 4 = 0
  · refine ⟨1, 6, G (b + 13), ?_, by decide, by decide⟩
    rw [if_pos q, bnXA_e, decide_eq_false (fun e => e q), cw_self]
    rfl
  · obtain ⟨hw, r⟩ := hwr q
    have hb := w1_b hw.1
    rw [if_neg q, bnXA_1, decide_eq_true q]
    unfold isCl
    cases e : inR v (nI 1) (N 3)
    · refine ⟨1, 6, G (b + 13), ?_, by decide, by decide⟩
      rw [c_requireAct0 h hw.1 r e, bnXA_e, cw_self]
      rfl
    · obtain ⟨a, rfl, ha⟩ := inA_t hw.1 e
      obtain ⟨p1, p2, p3, p4, p5⟩ := (act_ok hw.1 hw.2.1 ha).1
      have kb := w3_kb hw.2.1 hw.1 ha
      have hle := act_le hw.1 hw.2.1 ha
      rw [c_requireAct1 h hw.1 r ha, bnXA_1, nk_b h, bnP_1, bk_r10 B, bnP_1, bnP_1, bk_r8 B, bnP_1, Bool.true_and, nI_clamp (show a + 1 < 2 ^ 31 by omega), Nat.add_sub_cancel]
      cases e2 : inR w (nI 0) (nI (aC N a) - 1)
      · refine ⟨1, 6, G (b + 13), ?_, by decide, by decide⟩
        have hv : w < 0 ∨ nI (aC N a) ≤ w := by
          by_cases z : w < 0
          · exact Or.inl z
          · obtain ⟨j, hj, rfl⟩ := nI_of z
            exact Or.inr (nI_le (inN_f (by omega) hj e2) hj)
        rw [c_seek0 B hw r ha hv, bnS_1, cw_self]
        rfl
      · obtain ⟨j, rfl, hj⟩ := inN_t (by omega) e2
        obtain ⟨f, hf, f0, f1, f2, f3⟩ := c_seek1 B hw r ha (c := aK N a + j) (by omega) (by omega)
        obtain ⟨c1, c2, c3, -, -⟩ := w3_cl hw.2.2.1 ha (aK N a + j) (by omega) (by omega)
        rw [Nat.add_sub_cancel_left] at hf
        rw [hf, bnS_1, if_pos rfl, c_requireUpTo, show inR u 0 5 = inR u (nI 0) (nI 5) from rfl, nI_clamp (show j < 2 ^ 31 by omega)]
        cases e3 : inR u (nI 0) (nI 5)
        · exact ⟨1, 6, f, rfl, by decide, by decide⟩
        · obtain ⟨k, rfl, -, hk⟩ := inR_t (by decide) (by decide) e3
          refine ⟨0, 0, f, ?_, by decide, by decide⟩
          have r' := rb_s13 hw.1 r f
          have hr := rb_act r' ha
          have cG : ∀ k, gI (wc σ (cw G (b + 13) f) J) (some (b + 13)) 2 k = some (f k) := fun k => by
            rw [bk_cI B, cw_a]
          rw [if_pos rfl, bnXA_1, nI_clamp (show k < 2 ^ 31 by omega)]
          show _ = some (Except.ok (clW N a (aK N a + j) k), wc σ (cw G (b + 13) f) J, 0, 0)
          have hk : k = 0 ∨ k = 1 ∨ k = 2 ∨ k = 3 ∨ k = 4 ∨ k = 5 := by omega
          rcases hk with rfl | rfl | rfl | rfl | rfl | rfl
          · rw [if_pos (by decide), cG, bnP_1, bk_aI B p1, bnP_1, hr.2.2.2.2.2.1, f0, p2, nI_sub c1]
            rfl
          · rw [if_neg (by decide), if_pos (by decide), cG, bnP_1, cG, bnP_1, bk_aI B p1, bnP_1, hr.2.2.2.2.2.1, f0, f1, p2, nI_add, nI_m1 (by omega), nI_sub (by omega)]
            exact congrArg (fun x => some (Except.ok (nI x), wc σ (cw G (b + 13) f) J, 0, 0)) (by omega)
          · rw [if_neg (by decide), if_neg (by decide), if_pos (by decide), cG, bnP_1, f1]
            rfl
          · rw [if_neg (by decide), if_neg (by decide), if_neg (by decide), if_pos (by decide), nk_b h, bnP_1, bk_r8 B, bnP_1, cG, bnP_1, cG, bnP_1, f0, f1, c_unstruck B hw.1 r' (by omega), bnP_1]
            rfl
          · rw [if_neg (by decide), if_neg (by decide), if_neg (by decide), if_neg (by decide), if_pos (by decide), cG, bnP_1, f2]
            rfl
          · rw [if_neg (by decide), if_neg (by decide), if_neg (by decide), if_neg (by decide), if_neg (by decide), cG, bnP_1, f3]
            rfl
theorem mq_clause (h : MK σ m) (hw : G m 6 ≠ 0 → WFN (G (m + 1))) (hr : G m 6 = 0 ∨ G m 6 = 1) (v w u : Int32) : fX10_clause (some m) v w u (wi σ G) = some (if ((decide (G m 6 ≠ 0) && isCl (G (m + 1)) v w) && inR u (nI 0) (nI 5)) = true then clW (G (m + 1)) (v.toNatClampNeg - 1) (aK (G (m + 1)) (v.toNatClampNeg - 1) + w.toNatClampNeg) u.toNatClampNeg else 0, wi σ (up G m 0 (thr (decide (G m 6 ≠ 0)) (isCl (G (m + 1)) v w) (inR u (nI 0) (nI 5))))) := by
  unfold fX10_clause
  rw [mk_o h, bnP_1, m_isAct h, bnP_1]
  have hj : (if isA G m v = true then bnP (fX10_ofAct (some m) (v - 1) 8 (wi σ G)) (fun x8 => bnP (fX10_in w 0 (x8 - 1) (wi σ G)) (fun x10 => (if x10 = true then some 1 else some 0))) else some 0) = some (bI (decide (G m 6 ≠ 0) && isCl (G (m + 1)) v w)) := by
    rw [isA_e]
    unfold isCl
    cases e : decide (G m 6 ≠ 0)
    · rfl
    · have hw := hw (of_decide_eq_true e)
      cases e2 : inR v (nI 1) (G (m + 1) 3)
      · rfl
      · obtain ⟨a, rfl, ha⟩ := inA_t hw.1 e2
        have hb := w1_b hw.1
        have e8 : G (m + 1) (9 + 9 * a + 8) = nI (aC (G (m + 1)) a) := ((hw.2.1.2 a ha).2.1.2.2.2).1
        rw [if_pos (show (true && true) = true from rfl), nI_pred, li_8, m_ofAct h a 8 (by omega), bnP_1, e8, m_in, bnP_1, nI_clamp (show a + 1 < 2 ^ 31 by omega), Nat.add_sub_cancel]
        show (if inR w (nI 0) (nI (aC (G (m + 1)) a) - 1) = true then some 1 else some 0) = _
        cases inR w (nI 0) (nI (aC (G (m + 1)) a) - 1) <;> rfl
  rw [hj, bnP_1, mk_I h, bnP_1, m_in, bnP_1, m_may3 h hr, bnS_1, show inR u 0 5 = inR u (nI 0) (nI 5) from rfl, thr_pq]
  cases e : decide (G m 6 ≠ 0)
  · rw [Bool.false_and, Bool.false_and, Bool.false_and]
    rfl
  · have q : G m 6 ≠ 0 := of_decide_eq_true e
    rw [Bool.true_and, Bool.true_and]
    have hw := hw q
    cases e1 : isCl (G (m + 1)) v w
    · rw [Bool.false_and]
      rfl
    · cases e2 : inR u (nI 0) (nI 5)
      · rfl
      · rw [Bool.true_and, if_pos rfl, if_pos rfl]
        have e1' := e1
        unfold isCl at e1'
        rw [Bool.and_eq_true] at e1'
        obtain ⟨a, rfl, ha⟩ := inA_t hw.1 e1'.1
        have hb0 := w1_b hw.1
        have kb0 := w3_kb hw.2.1 hw.1 ha
        have e1a := e1'.2
        rw [nI_clamp (show a + 1 < 2 ^ 31 by omega), Nat.add_sub_cancel] at e1a
        obtain ⟨j, rfl, hj2⟩ := inN_t (by omega) e1a
        obtain ⟨k, rfl, -, hk⟩ := inR_t (by decide) (by decide) e2
        clear e1 e1' e1a hj
        generalize hG : up G m 0 (thr true true true) = G'
        have eG : G' (m + 1) = G (m + 1) := by rw [← hG]; exact up_a (by omega)
        rw [← eG] at hw ha hj2 ⊢
        clear hG
        have hb := w1_b hw.1
        have kb := w3_kb hw.2.1 hw.1 ha
        have ok := (act_ok hw.1 hw.2.1 ha).1
        obtain ⟨p1, p2, p3, p4, p5⟩ := id ok
        have hle := act_le hw.1 hw.2.1 ha
        have e7 : G' (m + 1) (9 + 9 * a + 7) = nI (aK (G' (m + 1)) a) := ((hw.2.1.2 a ha).2.1.2.2.1).1
        obtain ⟨i0, i1, i2, -⟩ := (hw.2.2.1 a ha).1 (aK (G' (m + 1)) a + j) (by omega) (by omega)
        obtain ⟨c1, c2, c3, -, -⟩ := w3_cl hw.2.2.1 ha (aK (G' (m + 1)) a + j) (by omega) (by omega)
        have j0 : G' (m + 1) (3247 + 3 * (aK (G' (m + 1)) a + j)) = nI (cF (G' (m + 1)) (aK (G' (m + 1)) a + j)) := i0.1
        have j1 : G' (m + 1) (3247 + 3 * (aK (G' (m + 1)) a + j) + 1) = nI (cT (G' (m + 1)) (aK (G' (m + 1)) a + j)) := i1.1
        rw [nI_pred, li_7, m_ofAct h a 7 (by omega), bnP_1, e7, nI_add]
        show bnP (fX10_ofClause (some m) (nI (aK (G' (m + 1)) a + j)) (nI 0) (wi σ G')) _ = _
        rw [m_ofClause h _ 0 (by omega), bnP_1]
        show bnP (fX10_ofClause (some m) (nI (aK (G' (m + 1)) a + j)) (nI 1) (wi σ G')) _ = _
        rw [m_ofClause h _ 1 (by omega), bnP_1, show 3247 + 3 * (aK (G' (m + 1)) a + j) + 0 = 3247 + 3 * (aK (G' (m + 1)) a + j) from rfl, j0, j1, nI_clamp (show a + 1 < 2 ^ 31 by omega), nI_clamp (show j < 2 ^ 31 by omega), nI_clamp (show k < 2 ^ 31 by omega), Nat.add_sub_cancel]
        generalize hc : aK (G' (m + 1)) a + j = c at *
        have hk : k = 0 ∨ k = 1 ∨ k = 2 ∨ k = 3 ∨ k = 4 ∨ k = 5 := by omega
        rcases hk with rfl | rfl | rfl | rfl | rfl | rfl
        · rw [if_pos (by decide), li_5, m_ofAct h a 5 (by omega), bnP_1, p2, nI_sub c1]
          rfl
        · rw [if_neg (by decide), if_pos (by decide), li_5, m_ofAct h a 5 (by omega), bnP_1, p2, nI_sub (by omega)]
          rfl
        · rw [if_neg (by decide), if_neg (by decide), if_pos (by decide), nI_sub c2, nI_a1]
          rfl
        · have e3 := m_standingWritten (G := G') h (f := cF (G' (m + 1)) c) (n := cT (G' (m + 1)) c - cF (G' (m + 1)) c + 1) (by omega) (by omega)
          rw [show cF (G' (m + 1)) c + (cT (G' (m + 1)) c - cF (G' (m + 1)) c + 1) - 1 = cT (G' (m + 1)) c by omega] at e3
          rw [if_neg (by decide), if_neg (by decide), if_neg (by decide), if_pos (by decide), e3, bnP_1]
          rfl
        · rw [if_neg (by decide), if_neg (by decide), if_neg (by decide), if_neg (by decide), if_pos (by decide), m_depthOf h hw ha (by omega) (by omega), bnP_1]
          rfl
        · have e8 : G' (m + 1) (9 + 9 * a + 8) = nI (aC (G' (m + 1)) a) := ((hw.2.1.2 a ha).2.1.2.2.2).1
          have e3 : lpP (fX10_clausesIn_l1 (some m) (nI a) (nI c) (wi σ G')) FUEL (0, 0) = some (nI (cntN (fun i => decide (cA (G' (m + 1)) (aK (G' (m + 1)) a + i) = c + 1)) (aC (G' (m + 1)) a))) := by
            refine lpP_f (aC (G' (m + 1)) a) (fun k => (nI (cntN (fun i => decide (cA (G' (m + 1)) (aK (G' (m + 1)) a + i) = c + 1)) k), nI k)) rfl (by omega) (fun k hk => ?_) ?_
            · unfold fX10_clausesIn_l1
              have hs : cntN (fun i => decide (cA (G' (m + 1)) (aK (G' (m + 1)) a + i) = c + 1)) (k + 1) = cntN (fun i => decide (cA (G' (m + 1)) (aK (G' (m + 1)) a + i) = c + 1)) k + (if decide (cA (G' (m + 1)) (aK (G' (m + 1)) a + k) = c + 1) = true then 1 else 0) := rfl
              have i3 := ((hw.2.2.1 a ha).1 (aK (G' (m + 1)) a + k) (by omega) (by omega)).2.2.1
              have j3 : G' (m + 1) (3247 + 3 * (aK (G' (m + 1)) a + k) + 2) = nI (cA (G' (m + 1)) (aK (G' (m + 1)) a + k)) := i3.1
              have j4 : cA (G' (m + 1)) (aK (G' (m + 1)) a + k) < 961 := i3.2
              rw [li_8, m_ofAct h a 8 (by omega), bnP_1, e8]
              dsimp only
              rw [if_neg (nI_ge (by omega) (by omega)), li_7, m_ofAct h a 7 (by omega), bnP_1, e7, nI_add, li_2, m_ofClause h _ 2 (by omega), bnP_1, j3, hs]
              by_cases z : cA (G' (m + 1)) (aK (G' (m + 1)) a + k) = c + 1
              · rw [if_pos (show nI (cA (G' (m + 1)) (aK (G' (m + 1)) a + k)) = nI c + 1 by rw [nI_a1, z]), bnP_1]
                show bnP (fX10_one (bI true) (wi σ G')) _ = _
                rw [m_one, bnP_1, decide_eq_true z, if_pos rfl, show bI true = nI 1 from rfl, nI_add, nI_a1]
              · rw [if_neg (show ¬ nI (cA (G' (m + 1)) (aK (G' (m + 1)) a + k)) = nI c + 1 by rw [nI_a1, nI_eq (by omega) (by omega)]; exact z), bnP_1]
                show bnP (fX10_one (bI false) (wi σ G')) _ = _
                rw [m_one, bnP_1, decide_eq_false z, if_neg (by decide), show bI false = nI 0 from rfl, nI_add, nI_a1]
            · unfold fX10_clausesIn_l1
              rw [li_8, m_ofAct h a 8 (by omega), bnP_1, e8]
              dsimp only
              rw [if_pos (nI_le (Nat.le_refl _) (by omega))]
          unfold fX10_clausesIn
          rw [if_neg (by decide), if_neg (by decide), if_neg (by decide), if_neg (by decide), if_neg (by decide), mk_o h, bnP_1, e3, bnP_1]
          rw [← hc]
          rfl
/-- case 10: CLAUSE -/
theorem lc10 (h : LO σ G J o b m d) (ho : o ≠ b + 13) (hm : m ≠ b + 13 ∧ m + 1 ≠ b + 13) {Lx : Nat} {xs : Nat → Int32} {v5 v w u : Int32} (hx : sld Lx xs (v5 + 1) = some v) (hy : sld Lx xs (v5 + 2) = some w) (hu : sld Lx xs (v5 + 3) = some u) (v4 : Option Nat) : ∃ t y a c f, fL_c10 Lx xs (some o) (some m) (some d) v4 v5 (wc σ G J) = some ((.ok () : Except Nat Unit), wc σ (up (cw G (b + 13) f) m 0 t) (upJ J d 0 y), a, c) ∧ a ≤ 1 ∧ c ≤ 6 := by
  unfold fL_c10 fL_clause
  simp only [hx, hy, hu, bnP_1]
  obtain ⟨i, j, f, hC, hi, hj⟩ := cq_clause h.1 h.2.2.2.2.2 v w u
  have h' := lo_s13 h ho hm f
  have hr : cw G (b + 13) f m 6 = 0 ∨ cw G (b + 13) f m 6 = 1 := by rw [h'.2.2.2.2.1]; exact h'.2.2.2.1
  have hM := fun J' => mq_clause (σ := wc σ (cw G (b + 13) f) J') (G := cw G (b + 13) f) h.2.1 (fun q => (h'.2.2.2.2.2 (by rw [← h'.2.2.2.2.1]; exact q)).1) hr v w u
  obtain ⟨y, hy⟩ := lq_gen h.2.2.1 h.2.1 hC hM (g := fun n3 s2 => if n3 = 0 then some (.ok 1, s2, 0, 0) else if n3 = 1 then some (.ok 2, s2, 0, 0) else if n3 = 2 then some (.ok 3, s2, 0, 0) else none) (by
    rw [up_eq, cw_b hm.1, cw_b hm.2, h.2.2.2.2.1]
    refine lqR_ans (fun q1 q2 q3 => ?_) rfl rfl rfl
    rw [q1, q2, q3]
    rfl)
  exact ⟨_, y, i, j, f, hy, hi, hj⟩
/-! LONGEST -/
theorem lgN_b (w5 : W5 N) {a : Nat} (hle : aF N a + aM N a ≤ nWd N) : ∀ k, k ≤ aM N a → (lgN N a k).2 ≤ 8
  | 0, _ => by
    show (0 : Nat) ≤ 8
    decide
  | k + 1, hk => by
    have h2 := lgN_b w5 hle k (by omega)
    obtain ⟨w, hw⟩ := (w5 (aF N a + k) (by omega)).1
    have h1 := (wd_lenb hw).2
    have e : lgN N a (k + 1) = if skN N (aF N a + k) = true ∧ (lgN N a k).2 < lenQ (N (127 + 13 * (aF N a + k))) (N (127 + 13 * (aF N a + k) + 1)) then (nI k, lenQ (N (127 + 13 * (aF N a + k))) (N (127 + 13 * (aF N a + k) + 1))) else lgN N a k := rfl
    rw [e]
    by_cases q : skN N (aF N a + k) = true ∧ (lgN N a k).2 < lenQ (N (127 + 13 * (aF N a + k))) (N (127 + 13 * (aF N a + k) + 1))
    · rw [if_pos q]
      exact h1
    · rw [if_neg q]
      exact h2
theorem cq_longest (h : NK σ o b) (hwr : G o 4 ≠ 0 → WFN N ∧ RB G J b N) (v : Int32) : fX9_longest (some o) v (wc σ G J) = some (ansE 0 1 2 (decide (G o 4 ≠ 0)) (inR v (nI 1) (N 3)) true (lgN N (v.toNatClampNeg - 1) (aM N (v.toNatClampNeg - 1))).1) := by
  have B := nk_B h
  unfold fX9_longest
  rw [nk_o h, bnP_1, c_requireBook h]
  by_cases q : G o 4 = 0
  · rw [if_pos q, bnX_e, decide_eq_false (fun e => e q)]
    rfl
  · obtain ⟨hw, r⟩ := hwr q
    have hb := w1_b hw.1
    rw [if_neg q, bnX_1, decide_eq_true q]
    cases e : inR v (nI 1) (N 3)
    · rw [c_requireAct0 h hw.1 r e, bnX_e]
      rfl
    · obtain ⟨a, rfl, ha⟩ := inA_t hw.1 e
      obtain ⟨p1, p2, p3, p4, p5⟩ := (act_ok hw.1 hw.2.1 ha).1
      have hle : aF N a + aM N a ≤ nWd N := act_le hw.1 hw.2.1 ha
      have hr := rb_act r ha
      rw [c_requireAct1 h hw.1 r ha, bnX_1, nI_clamp (by omega), Nat.add_sub_cancel]
      have e3 : lpP (fX9_longest_l1 (some o) (some (b + 15 + a)) (wc σ G J)) FUEL ((-1), 0, 0) = some (lgN N a (aM N a)).1 := by
        refine lpP_f (aM N a) (fun k => ((lgN N a k).1, nI (lgN N a k).2, nI k)) rfl (by omega) (fun k hk => ?_) ?_
        · have e1 : lgN N a (k + 1) = if skN N (aF N a + k) = true ∧ (lgN N a k).2 < lenQ (N (127 + 13 * (aF N a + k))) (N (127 + 13 * (aF N a + k) + 1)) then (nI k, lenQ (N (127 + 13 * (aF N a + k))) (N (127 + 13 * (aF N a + k) + 1))) else lgN N a k := rfl
          have wd := rb_wd r (g := aF N a + k) (by omega)
          have b1 := (wd_lenb wd).2
          have b2 := lgN_b (rb_w5 r) hle k (by omega)
          have q1 := sk_a1 (G := G) (J := J) (bk_S B) (show aF N a + k < 240 by omega)
          have q4 := sk_a4 (G := G) (J := J) (bk_S B) (show aF N a + k < 240 by omega)
          rw [rb_sk r (by omega)] at q4
          unfold fX9_longest_l1
          rw [bk_aI B p1, bnP_1, hr.2.2.2.2.2.2.1, p3]
          dsimp only
          rw [if_neg (nI_ge (by omega) (by omega))]
          simp only [nk_b h, bk_r8 B, sk_r1 (bk_S B), sk_r4 (bk_S B), bk_aI B p1, bnP_1, hr.2.2.2.2.2.1, p2, nI_add, q1, q4, wd_clen wd, nI_a1]
          rw [e1]
          unfold skN
          by_cases z : N (127 + 13 * (aF N a + k) + 2) = 0
          · rw [if_pos z, decide_eq_true z]
            by_cases z2 : (lgN N a k).2 < lenQ (N (127 + 13 * (aF N a + k))) (N (127 + 13 * (aF N a + k) + 1))
            · rw [if_neg (nI_ge z2 (by omega)), if_pos ⟨rfl, z2⟩]
            · rw [if_pos (nI_le (by omega) (by omega)), if_neg (fun q => z2 q.2)]
          · rw [if_neg z, if_neg (fun q => z (of_decide_eq_true q.1))]
        · unfold fX9_longest_l1
          rw [bk_aI B p1, bnP_1, hr.2.2.2.2.2.2.1, p3]
          dsimp only
          rw [if_pos (nI_le (Nat.le_refl _) (by omega))]
      rw [e3, bnP_1]
      rfl
theorem mq_longest (h : MK σ m) (hw : G m 6 ≠ 0 → WFN (G (m + 1)) ∧ W5 (G (m + 1))) (hr : G m 6 = 0 ∨ G m 6 = 1) (v : Int32) : fX10_longest (some m) v (wi σ G) = some (if isA G m v = true then (lgN (G (m + 1)) (v.toNatClampNeg - 1) (aM (G (m + 1)) (v.toNatClampNeg - 1))).1 else 0, wi σ (up G m 0 (thr (decide (G m 6 ≠ 0)) (isA G m v) true))) := by
  unfold fX10_longest
  rw [mk_o h, bnP_1, m_mayAct h hr, bnS_1]
  cases e : isA G m v
  · rfl
  · have q : G m 6 ≠ 0 := by
      unfold isA at e
      rw [Bool.and_eq_true, decide_eq_true_eq] at e
      exact e.1
    rw [if_pos rfl, if_pos rfl]
    obtain ⟨hw, w5⟩ := hw q
    obtain ⟨-, a, rfl, ha⟩ := isA_t hw.1 e
    generalize hG : up G m 0 (thr (decide (G m 6 ≠ 0)) true true) = G'
    have eG : G' (m + 1) = G (m + 1) := by rw [← hG]; exact up_a (by omega)
    rw [← eG] at hw ha w5 ⊢
    clear hG
    have hb := w1_b hw.1
    obtain ⟨p1, p2, p3, p4, p5⟩ := (act_ok hw.1 hw.2.1 ha).1
    have hle := act_le hw.1 hw.2.1 ha
    rw [nI_clamp (by omega), Nat.add_sub_cancel]
    have e3 : lpP (fX10_longest_l1 (some m) (nI (a + 1)) (wi σ G')) FUEL ((-1), 0, 0) = some (lgN (G' (m + 1)) a (aM (G' (m + 1)) a)).1 := by
      refine lpP_f (aM (G' (m + 1)) a) (fun k => ((lgN (G' (m + 1)) a k).1, nI (lgN (G' (m + 1)) a k).2, nI k)) rfl (by omega) (fun k hk => ?_) ?_
      · have e1 : lgN (G' (m + 1)) a (k + 1) = if skN (G' (m + 1)) (aF (G' (m + 1)) a + k) = true ∧ (lgN (G' (m + 1)) a k).2 < lenQ (G' (m + 1) (127 + 13 * (aF (G' (m + 1)) a + k))) (G' (m + 1) (127 + 13 * (aF (G' (m + 1)) a + k) + 1)) then (nI k, lenQ (G' (m + 1) (127 + 13 * (aF (G' (m + 1)) a + k))) (G' (m + 1) (127 + 13 * (aF (G' (m + 1)) a + k) + 1))) else lgN (G' (m + 1)) a k := rfl
        obtain ⟨w0, wd⟩ := (w5 (aF (G' (m + 1)) a + k) (by omega)).1
        have b1 := (wd_lenb wd).2
        have b2 := lgN_b w5 hle k (by omega)
        unfold fX10_longest_l1
        rw [nI_pred, li_6, m_ofAct h a 6 (by omega), bnP_1, p3]
        dsimp only
        rw [if_neg (nI_ge (by omega) (by omega)), m_globalOf h hw.1 hw.2.1 ha, bnP_1, m_stands h (by omega), bnP_1, e1]
        cases z : skN (G' (m + 1)) (aF (G' (m + 1)) a + k)
        · rw [if_neg (by decide), bnP_1, if_neg (show ¬ nI (lgN (G' (m + 1)) a k).2 < 0 from nI_lt0 (by omega)), if_neg (fun q => by cases q.1), nI_a1]
        · rw [if_pos rfl, show fX10_ofWord (some m) (nI (aF (G' (m + 1)) a + k)) 0 (wi σ G') = some (G' (m + 1) (127 + 13 * (aF (G' (m + 1)) a + k))) from m_ofWord h _ 0 (by omega), bnP_1, show fX10_ofWord (some m) (nI (aF (G' (m + 1)) a + k)) 1 (wi σ G') = some (G' (m + 1) (127 + 13 * (aF (G' (m + 1)) a + k) + 1)) from m_ofWord h _ 1 (by omega), bnP_1, wd_mlen wd, bnP_1, bnP_1, nI_a1]
          by_cases z2 : (lgN (G' (m + 1)) a k).2 < lenQ (G' (m + 1) (127 + 13 * (aF (G' (m + 1)) a + k))) (G' (m + 1) (127 + 13 * (aF (G' (m + 1)) a + k) + 1))
          · rw [if_pos (nI_lt z2 (by omega)), if_pos ⟨rfl, z2⟩]
          · rw [if_neg (nI_nlt (by omega) (by omega)), if_neg (fun q => z2 q.2)]
      · unfold fX10_longest_l1
        rw [nI_pred, li_6, m_ofAct h a 6 (by omega), bnP_1, p3]
        dsimp only
        rw [if_pos (nI_le (Nat.le_refl _) (by omega))]
    rw [e3, bnP_1]
/-- case 28: LONGEST -/
theorem lc28 (h : LO σ G J o b m d) {Lx : Nat} {xs : Nat → Int32} {v5 v : Int32} (hx : sld Lx xs (v5 + 1) = some v) (v4 : Option Nat) : ∃ t y a c, fL_c28 Lx xs (some o) (some m) (some d) v4 v5 (wc σ G J) = some ((.ok () : Except Nat Unit), wc σ (up G m 0 t) (upJ J d 0 y), a, c) ∧ a ≤ 1 ∧ c ≤ 6 := by
  unfold fL_c28 fL_longest
  simp only [hx, bnP_1]
  have hr : G m 6 = 0 ∨ G m 6 = 1 := by rw [h.2.2.2.2.1]; exact h.2.2.2.1
  refine lq_int h (cq_longest h.1 h.2.2.2.2.2 v) (fun J' => mq_longest (σ := wc σ G J') h.2.1 (lo_w5 h) hr v) ?_
  rw [isA_e, thr_pq, h.2.2.2.2.1]
  refine lqR_ans2 (fun q1 q2 => ?_) rfl rfl
  rw [q1, q2]
  rfl
/-! COMMON -/
theorem c_standsWritten (h : BK σ b) (hw : WFN N) (r : RB G J b N) {a : Nat} (ha : a < nAc N) {lo hi : Int32} {w : Int64} (wd : wdR lo hi w) : fX8_standsWritten (some (b + 3)) (some (b + 15 + a)) w (wc σ G J) = some (swB N a lo hi) := by
  have hb := w1_b hw.1
  obtain ⟨p1, p2, p3, p4, p5⟩ := (act_ok hw.1 hw.2.1 ha).1
  have hle : aF N a + aM N a ≤ nWd N := act_le hw.1 hw.2.1 ha
  have hr := rb_act r ha
  unfold fX8_standsWritten swB
  have step : ∀ k, k < aM N a → fX8_standsWritten_l1 (some (b + 3)) (some (b + 15 + a)) w (wc σ G J) (nI (aF N a + k)) = (if wsB N lo hi (aF N a + k) = true then some (.inr (.inr true)) else some (.inl (nI (aF N a + (k + 1))))) := fun k hk => by
    have wg := rb_wd r (g := aF N a + k) (by omega)
    unfold fX8_standsWritten_l1 wsB skN
    rw [bk_aI h p1, bnP_1, bk_aI h p1, bnP_1, hr.2.2.2.2.2.1, hr.2.2.2.2.2.2.1, p2, p3, nI_add, if_neg (nI_ge (by omega) (by omega)), sk_r4 (bk_S h), bnP_1, sk_a4 (bk_S h) (by omega), bnP_1, rb_sk r (by omega), nI_a1]
    by_cases z : N (127 + 13 * (aF N a + k) + 2) = 0
    · rw [if_pos z, decide_eq_true z, Bool.true_and, sk_r1 (bk_S h), bnP_1, sk_a1 (bk_S h) (by omega), bnP_1]
      by_cases z2 : N (127 + 13 * (aF N a + k)) = lo ∧ N (127 + 13 * (aF N a + k) + 1) = hi
      · rw [if_pos ((lg_cmp_eq _ _).mpr ((wd_eq wg wd).mpr z2)), decide_eq_true z2.1, decide_eq_true z2.2]
        rfl
      · rw [if_neg (fun q => z2 ((wd_eq wg wd).mp ((lg_cmp_eq _ _).mp q)))]
        by_cases z3 : N (127 + 13 * (aF N a + k)) = lo
        · rw [decide_eq_false (fun q => z2 ⟨z3, q⟩), Bool.and_false]
          rfl
        · rw [decide_eq_false z3, Bool.false_and]
          rfl
    · rw [if_neg z, decide_eq_false z]
      rfl
  cases e1 : fuN (fun k => wsB N lo hi (aF N a + k)) (aM N a) with
  | none =>
    have e2 : lpP (fX8_standsWritten_l1 (some (b + 3)) (some (b + 15 + a)) w (wc σ G J)) FUEL (nI (aF N a)) = some (.inl ()) := by
      refine lpP_f (aM N a) (fun k => nI (aF N a + k)) rfl (by omega) (fun k hk => ?_) ?_
      · rw [step k hk, fuN_none e1 k hk]
        rfl
      · unfold fX8_standsWritten_l1
        rw [bk_aI h p1, bnP_1, bk_aI h p1, bnP_1, hr.2.2.2.2.2.1, hr.2.2.2.2.2.2.1, p2, p3, nI_add, if_pos (nI_le (Nat.le_refl _) (by omega))]
    rw [sk_o (bk_S h), bnP_1, bk_aI h p1, bnP_1, hr.2.2.2.2.2.1, p2, e2, bnP_1]
    rfl
  | some j =>
    obtain ⟨h3, h4, h5⟩ := fuN_some e1
    have e2 : lpP (fX8_standsWritten_l1 (some (b + 3)) (some (b + 15 + a)) w (wc σ G J)) FUEL (nI (aF N a)) = some (.inr true) := by
      refine lpP_f j (fun k => nI (aF N a + k)) rfl (by omega) (fun k hk => ?_) ?_
      · rw [step k (by omega), h5 k hk]
        rfl
      · rw [step j h3, h4]
        rfl
    rw [sk_o (bk_S h), bnP_1, bk_aI h p1, bnP_1, hr.2.2.2.2.2.1, p2, e2, bnP_1]
    rfl
theorem m_isAlike (h : MK σ m) {k : Nat} (hk : k + 1 < 6139) (lo hi : Int32) : fX10_isAlike (some m) (nI k) lo hi (wi σ G) = some (decide (G (m + 1) k = lo) && decide (G (m + 1) (k + 1) = hi)) := by
  unfold fX10_isAlike
  rw [mk_o h, bnP_1, mk_r1 h, bnP_1, mk_a1 h (by omega), bnP_1]
  by_cases z : G (m + 1) k = lo
  · rw [if_pos z, bnP_1, nI_a1, mk_a1 h hk, bnP_1, decide_eq_true z]
    by_cases z2 : G (m + 1) (k + 1) = hi
    · rw [if_pos z2, decide_eq_true z2]
      rfl
    · rw [if_neg z2, decide_eq_false z2]
      rfl
  · rw [if_neg z, decide_eq_false z]
    rfl
theorem m_isWrittenIn (h : MK σ m) (hw : WFN (G (m + 1))) {a : Nat} (ha : a < nAc (G (m + 1))) (lo hi : Int32) : fX10_isWrittenIn (some m) (nI a) lo hi (wi σ G) = some (swB (G (m + 1)) a lo hi) := by
  have hb := w1_b hw.1
  have ok := (act_ok hw.1 hw.2.1 ha).1
  obtain ⟨p1, p2, p3, p4, p5⟩ := id ok
  unfold fX10_isWrittenIn swB
  have step : ∀ k, k < aM (G (m + 1)) a → fX10_isWrittenIn_l1 (some m) (nI a) lo hi (wi σ G) (nI (aF (G (m + 1)) a + k)) = (if wsB (G (m + 1)) lo hi (aF (G (m + 1)) a + k) = true then some (.inr (.inr true)) else some (.inl (nI (aF (G (m + 1)) a + (k + 1))))) := fun k hk => by
    unfold fX10_isWrittenIn_l1 wsB
    rw [m_lastOf h ok, bnP_1, if_neg (nI_nlt (by omega) (by omega)), m_stands h (by omega), bnP_1, nI_a1]
    cases z : skN (G (m + 1)) (aF (G (m + 1)) a + k)
    · rfl
    · rw [if_pos rfl, show (127 : Int32) + 13 * nI (aF (G (m + 1)) a + k) = nI (127 + 13 * (aF (G (m + 1)) a + k)) by rw [li_127, li_13, pk_mul, nI_add], m_isAlike h (by omega), bnP_1, Bool.true_and]
      rfl
  cases e1 : fuN (fun k => wsB (G (m + 1)) lo hi (aF (G (m + 1)) a + k)) (aM (G (m + 1)) a) with
  | none =>
    have e2 : lpP (fX10_isWrittenIn_l1 (some m) (nI a) lo hi (wi σ G)) FUEL (nI (aF (G (m + 1)) a)) = some (.inl ()) := by
      refine lpP_f (aM (G (m + 1)) a) (fun k => nI (aF (G (m + 1)) a + k)) rfl (by omega) (fun k hk => ?_) ?_
      · rw [step k hk, fuN_none e1 k hk]
        rfl
      · unfold fX10_isWrittenIn_l1
        rw [m_lastOf h ok, bnP_1, if_pos (nI_lt (by omega) (by omega))]
    rw [mk_o h, bnP_1, li_5, m_ofAct h a 5 (by omega), bnP_1, p2, e2, bnP_1]
    rfl
  | some j =>
    obtain ⟨h3, h4, h5⟩ := fuN_some e1
    have e2 : lpP (fX10_isWrittenIn_l1 (some m) (nI a) lo hi (wi σ G)) FUEL (nI (aF (G (m + 1)) a)) = some (.inr true) := by
      refine lpP_f j (fun k => nI (aF (G (m + 1)) a + k)) rfl (by omega) (fun k hk => ?_) ?_
      · rw [step k (by omega), h5 k hk]
        rfl
      · rw [step j h3, h4]
        rfl
    rw [mk_o h, bnP_1, li_5, m_ofAct h a 5 (by omega), bnP_1, p2, e2, bnP_1]
    rfl
def isAA (N : Nat → Int32) (v w : Int32) : Bool := inR v (nI 1) (N 3) && inR w (nI 1) (N 3)
theorem cq_common (h : NK σ o b) (hwr : G o 4 ≠ 0 → WFN N ∧ RB G J b N) (v w : Int32) : fX9_common (some o) v w (wc σ G J) = some (ansE 0 1 2 (decide (G o 4 ≠ 0)) (isAA N v w) true (cmQ N (v.toNatClampNeg - 1) (w.toNatClampNeg - 1))) := by
  have B := nk_B h
  unfold fX9_common
  rw [nk_o h, bnP_1, c_requireBook h]
  by_cases q : G o 4 = 0
  · rw [if_pos q, bnX_e, decide_eq_false (fun e => e q)]
    rfl
  · obtain ⟨hw, r⟩ := hwr q
    have hb := w1_b hw.1
    rw [if_neg q, bnX_1, decide_eq_true q]
    unfold isAA
    cases e : inR v (nI 1) (N 3)
    · rw [c_requireAct0 h hw.1 r e, bnX_e]
      rfl
    · obtain ⟨a, rfl, ha⟩ := inA_t hw.1 e
      rw [c_requireAct1 h hw.1 r ha, bnX_1]
      cases e2 : inR w (nI 1) (N 3)
      · rw [c_requireAct0 h hw.1 r e2, bnX_e]
        rfl
      · obtain ⟨c, rfl, hc⟩ := inA_t hw.1 e2
        obtain ⟨p1, p2, p3, p4, p5⟩ := (act_ok hw.1 hw.2.1 ha).1
        have hle : aF N a + aM N a ≤ nWd N := act_le hw.1 hw.2.1 ha
        have hr := rb_act r ha
        rw [c_requireAct1 h hw.1 r hc, bnX_1, bk_aI B p1, bnP_1, hr.2.2.2.2.2.1, p2, nI_clamp (by omega), nI_clamp (by omega), Nat.add_sub_cancel, Nat.add_sub_cancel]
        have e3 : lpP (fX9_common_l1 (some o) (some (b + 15 + a)) (some (b + 15 + c)) (wc σ G J)) FUEL (0, nI (aF N a)) = some (cmQ N a c) := by
          refine lpP_f (aM N a) (fun k => (nI (cntN (fun k => skN N (aF N a + k) && swB N c (N (127 + 13 * (aF N a + k))) (N (127 + 13 * (aF N a + k) + 1))) k), nI (aF N a + k))) rfl (by omega) (fun k hk => ?_) ?_
          · have hs : cntN (fun k => skN N (aF N a + k) && swB N c (N (127 + 13 * (aF N a + k))) (N (127 + 13 * (aF N a + k) + 1))) (k + 1) = cntN (fun k => skN N (aF N a + k) && swB N c (N (127 + 13 * (aF N a + k))) (N (127 + 13 * (aF N a + k) + 1))) k + (if (skN N (aF N a + k) && swB N c (N (127 + 13 * (aF N a + k))) (N (127 + 13 * (aF N a + k) + 1))) = true then 1 else 0) := rfl
            have wd := rb_wd r (g := aF N a + k) (by omega)
            unfold fX9_common_l1
            rw [bk_aI B p1, bnP_1, bk_aI B p1, bnP_1, hr.2.2.2.2.2.1, hr.2.2.2.2.2.2.1, p2, p3, nI_add]
            dsimp only
            rw [if_neg (nI_ge (by omega) (by omega)), nk_b h, bnP_1, bk_r8 B, bnP_1, sk_r4 (bk_S B), bnP_1, sk_a4 (bk_S B) (by omega), bnP_1, rb_sk r (by omega), hs]
            by_cases z : N (127 + 13 * (aF N a + k) + 2) = 0
            · rw [if_pos z, show skN N (aF N a + k) = true from decide_eq_true z, Bool.true_and]
              simp only [nk_b h, bk_r8 B, sk_r1 (bk_S B), bnP_1]
              rw [sk_a1 (bk_S B) (by omega), bnP_1, c_standsWritten B hw r hc wd, bnP_1]
              cases swB N c (N (127 + 13 * (aF N a + k))) (N (127 + 13 * (aF N a + k) + 1))
              · rw [if_neg (by decide), if_neg (by decide), nI_a1]
                rfl
              · rw [if_pos rfl, if_pos rfl, nI_a1, nI_a1]
                rfl
            · rw [if_neg z, show skN N (aF N a + k) = false from decide_eq_false z, Bool.false_and, if_neg (by decide), nI_a1]
              rfl
          · unfold fX9_common_l1
            rw [bk_aI B p1, bnP_1, bk_aI B p1, bnP_1, hr.2.2.2.2.2.1, hr.2.2.2.2.2.2.1, p2, p3, nI_add]
            dsimp only
            rw [if_pos (nI_le (Nat.le_refl _) (by omega))]
            rfl
        rw [e3, bnP_1]
        rfl
theorem mq_common (h : MK σ m) (hw : G m 6 ≠ 0 → WFN (G (m + 1))) (hr : G m 6 = 0 ∨ G m 6 = 1) (v w : Int32) : fX10_common (some m) v w (wi σ G) = some (if (decide (G m 6 ≠ 0) && isAA (G (m + 1)) v w) = true then cmQ (G (m + 1)) (v.toNatClampNeg - 1) (w.toNatClampNeg - 1) else 0, wi σ (up G m 0 (thr (decide (G m 6 ≠ 0)) (isAA (G (m + 1)) v w) true))) := by
  unfold fX10_common
  rw [mk_o h, bnP_1, mk_I h, bnP_1, m_isAct h, bnP_1, m_isAct h]
  have hj : (if isA G m v = true then bnP (some (isA G m w)) (fun x10 => (if x10 = true then some ((some m : Option Nat), G m 6, (1 : Int32)) else some (some m, G m 6, 0))) else some (some m, G m 6, 0)) = some (some m, G m 6, bI (decide (G m 6 ≠ 0) && isAA (G (m + 1)) v w)) := by
    rw [isA_e, isA_e]
    unfold isAA
    cases decide (G m 6 ≠ 0) <;> cases inR v (nI 1) (G (m + 1) 3) <;> cases inR w (nI 1) (G (m + 1) 3) <;> rfl
  rw [hj, bnP_1]
  dsimp only
  rw [m_may2 h hr, bnS_1, thr_pq]
  cases e : decide (G m 6 ≠ 0)
  · rw [Bool.false_and, Bool.false_and]
    rfl
  · have q : G m 6 ≠ 0 := of_decide_eq_true e
    rw [Bool.true_and, Bool.true_and]
    have hw := hw q
    cases e1 : isAA (G (m + 1)) v w
    · rfl
    · rw [if_pos rfl, if_pos rfl]
      unfold isAA at e1
      rw [Bool.and_eq_true] at e1
      obtain ⟨a, rfl, ha⟩ := inA_t hw.1 e1.1
      obtain ⟨c, rfl, hc⟩ := inA_t hw.1 e1.2
      clear hj e1
      generalize hG : up G m 0 (thr true true true) = G'
      have eG : G' (m + 1) = G (m + 1) := by rw [← hG]; exact up_a (by omega)
      rw [← eG] at hw ha hc ⊢
      clear hG
      have hb := w1_b hw.1
      have ok := (act_ok hw.1 hw.2.1 ha).1
      obtain ⟨p1, p2, p3, p4, p5⟩ := id ok
      have hle := act_le hw.1 hw.2.1 ha
      rw [nI_clamp (by omega), nI_clamp (by omega), Nat.add_sub_cancel, Nat.add_sub_cancel, nI_pred, li_5, m_ofAct h a 5 (by omega), bnP_1, p2]
      have e3 : lpP (fX10_common_l1 (some m) (nI (a + 1)) (nI (c + 1)) (wi σ G')) FUEL (0, nI (aF (G' (m + 1)) a)) = some (cmQ (G' (m + 1)) a c) := by
        refine lpP_f (aM (G' (m + 1)) a) (fun k => (nI (cntN (fun k => skN (G' (m + 1)) (aF (G' (m + 1)) a + k) && swB (G' (m + 1)) c (G' (m + 1) (127 + 13 * (aF (G' (m + 1)) a + k))) (G' (m + 1) (127 + 13 * (aF (G' (m + 1)) a + k) + 1))) k), nI (aF (G' (m + 1)) a + k))) rfl (by omega) (fun k hk => ?_) ?_
        · have hs : cntN (fun k => skN (G' (m + 1)) (aF (G' (m + 1)) a + k) && swB (G' (m + 1)) c (G' (m + 1) (127 + 13 * (aF (G' (m + 1)) a + k))) (G' (m + 1) (127 + 13 * (aF (G' (m + 1)) a + k) + 1))) (k + 1) = cntN (fun k => skN (G' (m + 1)) (aF (G' (m + 1)) a + k) && swB (G' (m + 1)) c (G' (m + 1) (127 + 13 * (aF (G' (m + 1)) a + k))) (G' (m + 1) (127 + 13 * (aF (G' (m + 1)) a + k) + 1))) k + (if (skN (G' (m + 1)) (aF (G' (m + 1)) a + k) && swB (G' (m + 1)) c (G' (m + 1) (127 + 13 * (aF (G' (m + 1)) a + k))) (G' (m + 1) (127 + 13 * (aF (G' (m + 1)) a + k) + 1))) = true then 1 else 0) := rfl
          unfold fX10_common_l1
          rw [nI_pred, m_lastOf h ok, bnP_1]
          dsimp only
          rw [if_neg (nI_nlt (by omega) (by omega)), m_stands h (by omega), bnP_1, hs]
          cases z : skN (G' (m + 1)) (aF (G' (m + 1)) a + k)
          · rw [if_neg (by decide), bnP_1]
            show bnP (fX10_one (bI false) (wi σ G')) _ = _
            rw [m_one, bnP_1, Bool.false_and, if_neg (by decide), show bI false = nI 0 from rfl, nI_add, nI_a1]
            rfl
          · rw [if_pos rfl, show fX10_ofWord (some m) (nI (aF (G' (m + 1)) a + k)) 0 (wi σ G') = some (G' (m + 1) (127 + 13 * (aF (G' (m + 1)) a + k))) from m_ofWord h _ 0 (by omega), bnP_1, show fX10_ofWord (some m) (nI (aF (G' (m + 1)) a + k)) 1 (wi σ G') = some (G' (m + 1) (127 + 13 * (aF (G' (m + 1)) a + k) + 1)) from m_ofWord h _ 1 (by omega), bnP_1, nI_pred, m_isWrittenIn h hw hc, bnP_1, Bool.true_and]
            cases swB (G' (m + 1)) c (G' (m + 1) (127 + 13 * (aF (G' (m + 1)) a + k))) (G' (m + 1) (127 + 13 * (aF (G' (m + 1)) a + k) + 1))
            · rw [if_neg (by decide), bnP_1]
              show bnP (fX10_one (bI false) (wi σ G')) _ = _
              rw [m_one, bnP_1, if_neg (by decide), show bI false = nI 0 from rfl, nI_add, nI_a1]
              rfl
            · rw [if_pos rfl, bnP_1]
              show bnP (fX10_one (bI true) (wi σ G')) _ = _
              rw [m_one, bnP_1, if_pos rfl, show bI true = nI 1 from rfl, nI_add, nI_a1]
              rfl
        · unfold fX10_common_l1
          rw [nI_pred, m_lastOf h ok, bnP_1]
          dsimp only
          rw [if_pos (nI_lt (by omega) (by omega))]
          rfl
      rw [e3, bnP_1]
/-- case 29: COMMON -/
theorem lc29 (h : LO σ G J o b m d) {Lx : Nat} {xs : Nat → Int32} {v5 v w : Int32} (hx : sld Lx xs (v5 + 1) = some v) (hy : sld Lx xs (v5 + 2) = some w) (v4 : Option Nat) : ∃ t y a c, fL_c29 Lx xs (some o) (some m) (some d) v4 v5 (wc σ G J) = some ((.ok () : Except Nat Unit), wc σ (up G m 0 t) (upJ J d 0 y), a, c) ∧ a ≤ 1 ∧ c ≤ 6 := by
  unfold fL_c29 fL_common
  simp only [hx, hy, bnP_1]
  have hr : G m 6 = 0 ∨ G m 6 = 1 := by rw [h.2.2.2.2.1]; exact h.2.2.2.1
  refine lq_int h (cq_common h.1 h.2.2.2.2.2 v w) (fun J' => mq_common (σ := wc σ G J') h.2.1 (fun q => (h.2.2.2.2.2 (by rw [← h.2.2.2.2.1]; exact q)).1) hr v w) ?_
  rw [h.2.2.2.2.1]
  refine lqR_ans2 (fun q1 q2 => ?_) rfl rfl
  rw [q1, q2]
  rfl
end LQ12
