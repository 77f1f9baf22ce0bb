/-! THE PURE LEVEL, 23: ACT, WORD, LETTER, INNERLETTER -/
/-- an answer, or which exception: the first of three that fails -/
def ansE {α : Type} (e1 e2 e3 : Nat) (p q r : Bool) (x : α) : Except Nat α := if p = false then .error e1 else if q = false then .error e2 else if r = false then .error e3 else .ok x
section LQ8
variable {σ : HpT} {G : Nat → Nat → Int32} {J : Nat → Nat → Int64} {o b m d : Nat} {N : Nat → Int32}
theorem inA_t (w1 : W1 N) {v : Int32} (e : inR v (nI 1) (N 3) = true) : ∃ a, v = nI (a + 1) ∧ a < nAc N := by
  have hb := w1_b w1
  rw [(w1_e w1).2.1] at e
  obtain ⟨j, hv, h1, hj⟩ := inR_t (by omega) (by omega) e
  exact ⟨j - 1, by rw [hv, Nat.sub_add_cancel h1], by omega⟩
def actW (N : Nat → Int32) (a : Nat) : Nat → Int32
  | 0 => N (9 + 9 * a)
  | 1 => N (9 + 9 * a + 1)
  | 2 => N (9 + 9 * a + 2)
  | 3 => N (9 + 9 * a + 3)
  | 4 => nI (aM N a)
  | 5 => stN N (aF N a) (aM N a)
  | 6 => nI (aC N a)
  | 7 => mxQ N a (aM N a)
  | 8 => nI (aF N a / nRm N)
  | 9 => nI ((aF N a + aM N a - 1) / nRm N)
  | 10 => N (9 + 9 * a + 4)
  | _ => nI (cntN (fun c => decide (oO N c = a)) (nCp N))
theorem cq_act (h : NK σ o b) (hwr : G o 4 ≠ 0 → WFN N ∧ RB G J b N) (v w : Int32) : fX9_act (some o) v w (wc σ G J) = some (ansE 0 1 2 (decide (G o 4 ≠ 0)) (inR v (nI 1) (N 3)) (inR w (nI 0) (nI 11)) (actW N (v.toNatClampNeg - 1) w.toNatClampNeg)) := by
  have B := nk_B h
  unfold fX9_act
  rw [nk_o h, bnP_1, c_requireBook h]
  by_cases q : G o 4 = 0
  · rw [if_pos q, bnX_e, decide_eq_false (fun e => e q)]
    rfl
  · obtain ⟨hw, r⟩ := hwr q
    have hb := w1_b hw.1
    rw [if_neg q, bnX_1, decide_eq_true q]
    cases e : inR v (nI 1) (N 3)
    · rw [c_requireAct0 h hw.1 r e, bnX_e]
      rfl
    · obtain ⟨a, rfl, ha⟩ := inA_t hw.1 e
      have ok := (act_ok hw.1 hw.2.1 ha).1
      obtain ⟨p1, p2, p3, p4, p5⟩ := id ok
      have hle : aF N a + aM N a ≤ nWd N := act_le hw.1 hw.2.1 ha
      have hr := rb_act r ha
      rw [c_requireAct1 h hw.1 r ha, bnX_1, c_requireUpTo, li_0, li_11]
      cases e2 : inR w (nI 0) (nI 11)
      · rfl
      · obtain ⟨j, rfl, -, hj⟩ := inR_t (by decide) (by decide) e2
        rw [if_pos rfl, bnX_1, nI_clamp (by omega), nI_clamp (by omega), Nat.add_sub_cancel]
        show _ = some (Except.ok (actW N a j))
        have hj : j = 0 ∨ j = 1 ∨ j = 2 ∨ j = 3 ∨ j = 4 ∨ j = 5 ∨ j = 6 ∨ j = 7 ∨ j = 8 ∨ j = 9 ∨ j = 10 ∨ j = 11 := by omega
        rcases hj with rfl | rfl | rfl | rfl | rfl | rfl | rfl | rfl | rfl | rfl | rfl | rfl
        · rw [if_pos (by decide), bk_aI B p1, bnP_1, hr.2.1]
          rfl
        · rw [if_neg (by decide), if_pos (by decide), bk_aI B p1, bnP_1, hr.2.2.1]
          rfl
        · rw [if_neg (by decide), if_neg (by decide), if_pos (by decide), bk_aI B p1, bnP_1, hr.2.2.2.1]
          rfl
        · rw [if_neg (by decide), if_neg (by decide), if_neg (by decide), if_pos (by decide), bk_aI B p1, bnP_1, hr.2.2.2.2.1]
          rfl
        · rw [if_neg (by decide), if_neg (by decide), if_neg (by decide), if_neg (by decide), if_pos (by decide), bk_aI B p1, bnP_1, hr.2.2.2.2.2.2.1, p3]
          rfl
        · rw [if_neg (by decide), if_neg (by decide), if_neg (by decide), if_neg (by decide), if_neg (by decide), if_pos (by decide), nk_b h, bnP_1, bk_r8 B, bnP_1, bk_aI B p1, bnP_1, bk_aI B p1, bnP_1, hr.2.2.2.2.2.1, hr.2.2.2.2.2.2.1, p2, p3, c_standingFrom B hw.1 r hle, bnP_1]
          rfl
        · rw [if_neg (by decide), if_neg (by decide), if_neg (by decide), if_neg (by decide), if_neg (by decide), if_neg (by decide), if_pos (by decide), nk_b h, bnP_1, bk_r8 B, bnP_1, bk_aI B p1, bnP_1, bk_aI B p1, bnP_1, hr.2.2.2.2.2.1, hr.2.2.2.2.2.2.1, p2, p3, c_clausesFrom B hw r ha, bnP_1]
          rfl
        · rw [if_neg (by decide), if_neg (by decide), if_neg (by decide), if_neg (by decide), if_neg (by decide), if_neg (by decide), if_neg (by decide), if_pos (by decide), nk_b h, bnP_1, bk_r8 B, bnP_1, bk_aI B p1, bnP_1, bk_aI B p1, bnP_1, hr.2.2.2.2.2.1, hr.2.2.2.2.2.2.1, p2, p3, c_greatestDepth B hw r ha, bnP_1]
          rfl
        · rw [if_neg (by decide), if_neg (by decide), if_neg (by decide), if_neg (by decide), if_neg (by decide), if_neg (by decide), if_neg (by decide), if_neg (by decide), if_pos (by decide), nk_b h, bnP_1, bk_aI B p1, bnP_1, hr.2.2.2.2.2.1, p2, c_leafOf B hw.1 r (by omega), bnP_1]
          rfl
        · rw [if_neg (by decide), if_neg (by decide), if_neg (by decide), if_neg (by decide), if_neg (by decide), if_neg (by decide), if_neg (by decide), if_neg (by decide), if_neg (by decide), if_pos (by decide), nk_b h, bnP_1, bk_aI B p1, bnP_1, bk_aI B p1, bnP_1, hr.2.2.2.2.2.1, hr.2.2.2.2.2.2.1, p2, p3, nI_add, nI_m1 (by omega), c_leafOf B hw.1 r (by omega), bnP_1]
          rfl
        · rw [if_neg (by decide), if_neg (by decide), if_neg (by decide), if_neg (by decide), if_neg (by decide), if_neg (by decide), if_neg (by decide), if_neg (by decide), if_neg (by decide), if_neg (by decide), if_pos (by decide), bk_aI B p1, bnP_1, hr.2.2.2.2.2.2.2]
          rfl
        · rw [if_neg (by decide), if_neg (by decide), if_neg (by decide), if_neg (by decide), if_neg (by decide), if_neg (by decide), if_neg (by decide), if_neg (by decide), if_neg (by decide), if_neg (by decide), if_neg (by decide), nk_b h, bnP_1, c_copiesOf B hw r ha, bnP_1]
          rfl
/-! words -/
def wrdW (N : Nat → Int32) (a g : Nat) : Nat → Int32
  | 0 => nI (g / nRm N)
  | 1 => N (127 + 13 * g + 2)
  | 2 => dpQ N a g
  | 3 => N (127 + 13 * g + 4)
  | 4 => nI (lenQ (N (127 + 13 * g)) (N (127 + 13 * g + 1)))
  | 5 => bI (knN N g)
  | 6 => inQ N a g
  | _ => nI (cwN N g)
/-- is w a word of the act with number v -/
def isW (N : Nat → Int32) (v w : Int32) : Bool := inR v (nI 1) (N 3) && inR w (nI 0) (nI (aM N (v.toNatClampNeg - 1) - 1))
theorem c_requireWord (h : BK σ b) (w1 : W1 N) (w2 : W2 N) (r : RB G J b N) {a : Nat} (ha : a < nAc N) (w : Int32) : fX9_requireWord (some (b + 15 + a)) w (wc σ G J) = some (if inR w (nI 0) (nI (aM N a - 1)) = true then .ok (nI (aF N a) + w) else .error 1) := by
  obtain ⟨p1, p2, p3, p4, p5⟩ := (act_ok w1 w2 ha).1
  have hr := rb_act r ha
  unfold fX9_requireWord
  by_cases h1 : w < 0
  · rw [if_pos h1]
    unfold inR
    rw [show decide (nI 0 ≤ w) = false from decide_eq_false (Int32.not_le.mpr h1), Bool.false_and]
    rfl
  · obtain ⟨i, hi, rfl⟩ := nI_of h1
    rw [if_neg h1, bk_aI h p1, bnP_1, hr.2.2.2.2.2.2.1, p3, inR_nI hi (by decide) (by omega), decide_eq_true (Nat.zero_le i), Bool.true_and]
    by_cases h2 : i < aM N a
    · rw [if_pos (nI_lt h2 (by omega)), decide_eq_true (show i ≤ aM N a - 1 by omega), if_pos rfl, bk_aI h p1, bnP_1, hr.2.2.2.2.2.1, p2]
    · rw [if_neg (nI_nlt (by omega) hi), decide_eq_false (show ¬ i ≤ aM N a - 1 by omega)]
      rfl
theorem rb_wd (r : RB G J b N) {g : Nat} (hg : g < nWd N) : wdR (N (127 + 13 * g)) (N (127 + 13 * g + 1)) (J (b + 3 + 1) g) := (r.2.1.1 g hg).1
theorem cq_word (h : NK σ o b) (hwr : G o 4 ≠ 0 → WFN N ∧ RB G J b N) (v w u : Int32) : fX9_word (some o) v w u (wc σ G J) = some (ansE 0 1 2 (decide (G o 4 ≠ 0)) (isW N v w) (inR u (nI 0) (nI 7)) (wrdW N (v.toNatClampNeg - 1) (aF N (v.toNatClampNeg - 1) + w.toNatClampNeg) u.toNatClampNeg)) := by
  have B := nk_B h
  unfold fX9_word
  rw [nk_o h, bnP_1, c_requireBook h]
  by_cases q : G o 4 = 0
  · rw [if_pos q, bnX_e, decide_eq_false (fun e => e q)]
    rfl
  · obtain ⟨hw, r⟩ := hwr q
    have hb := w1_b hw.1
    rw [if_neg q, bnX_1, decide_eq_true q]
    unfold isW
    cases e : inR v (nI 1) (N 3)
    · rw [c_requireAct0 h hw.1 r e, bnX_e]
      rfl
    · obtain ⟨a, rfl, ha⟩ := inA_t hw.1 e
      have ok := (act_ok hw.1 hw.2.1 ha).1
      obtain ⟨p1, p2, p3, p4, p5⟩ := id ok
      have hle : aF N a + aM N a ≤ nWd N := act_le hw.1 hw.2.1 ha
      have hr := rb_act r ha
      rw [c_requireAct1 h hw.1 r ha, bnX_1, c_requireWord B hw.1 hw.2.1 r ha, Bool.true_and, nI_clamp (show a + 1 < 2 ^ 31 by omega), Nat.add_sub_cancel]
      cases e2 : inR w (nI 0) (nI (aM N a - 1))
      · rfl
      · obtain ⟨i, rfl, -, hi⟩ := inR_t (by decide) (by omega) e2
        rw [if_pos rfl, bnX_1, c_requireUpTo, li_0, li_7, nI_add, nI_clamp (show i < 2 ^ 31 by omega)]
        cases e3 : inR u (nI 0) (nI 7)
        · rfl
        · obtain ⟨j, rfl, -, hj⟩ := inR_t (by decide) (by decide) e3
          have hg : aF N a + i < nWd N := by omega
          have hg1 : aF N a ≤ aF N a + i := by omega
          have hg2 : aF N a + i < aF N a + aM N a := by omega
          have h01 := (hw.2.2.2.1 _ hg).2
          rw [if_pos rfl, bnX_1, nI_clamp (by omega), nk_b h, bnP_1, bk_r8 B, bnP_1]
          show _ = some (Except.ok (wrdW N a (aF N a + i) j))
          generalize aF N a + i = g at hg hg1 hg2 h01 ⊢
          have hj : j = 0 ∨ j = 1 ∨ j = 2 ∨ j = 3 ∨ j = 4 ∨ j = 5 ∨ j = 6 ∨ j = 7 := by omega
          rcases hj with rfl | rfl | rfl | rfl | rfl | rfl | rfl | rfl
          · rw [if_pos (by decide), bnP_1, c_leafOf B hw.1 r (by omega), bnP_1]
            rfl
          · rw [if_neg (by decide), if_pos (by decide), sk_r4 (bk_S B), bnP_1, sk_a4 (bk_S B) (by omega), bnP_1, rb_sk r hg]
            show _ = some (Except.ok (N (127 + 13 * g + 2)))
            rcases h01 with h01 | h01
            · rw [h01]
              rfl
            · rw [h01]
              rfl
          · rw [if_neg (by decide), if_neg (by decide), if_pos (by decide), bk_aI B p1, bnP_1, hr.2.2.2.2.2.1, p2, c_depthOf B hw r ha hg1 hg2, bnP_1]
            rfl
          · rw [if_neg (by decide), if_neg (by decide), if_neg (by decide), if_pos (by decide), sk_r5 (bk_S B), bnP_1, sk_a5 (bk_S B) (by omega), bnP_1, rb_in r hg]
            rfl
          · rw [if_neg (by decide), if_neg (by decide), if_neg (by decide), if_neg (by decide), if_pos (by decide), sk_r1 (bk_S B), bnP_1, sk_a1 (bk_S B) (by omega), bnP_1, wd_clen (rb_wd r hg), bnP_1]
            rfl
          · rw [if_neg (by decide), if_neg (by decide), if_neg (by decide), if_neg (by decide), if_neg (by decide), if_pos (by decide), bnP_1, c_isKnown B hw r hg, bnP_1]
            show _ = some (Except.ok (bI (knN N g)))
            cases knN N g <;> rfl
          · rw [if_neg (by decide), if_neg (by decide), if_neg (by decide), if_neg (by decide), if_neg (by decide), if_neg (by decide), if_pos (by decide), bk_aI B p1, bnP_1, hr.2.2.2.2.2.1, p2, c_innermostOf B hw r ha hg1 hg2, bnP_1]
            rfl
          · rw [if_neg (by decide), if_neg (by decide), if_neg (by decide), if_neg (by decide), if_neg (by decide), if_neg (by decide), if_neg (by decide), bnP_1, c_copiesWith B hw r hg, bnP_1]
            rfl
/-! letters -/
theorem inN_t {n : Nat} (hn : n < 2 ^ 31) {k : Int32} (e : inR k (nI 0) (nI n - 1) = true) : ∃ j, k = nI j ∧ j < n := by
  by_cases z : n = 0
  · rw [z] at e
    have := inR_nO k
    rw [show nO = nI 0 - 1 from rfl, e] at this
    cases this
  · rw [nI_m1 (by omega)] at e
    obtain ⟨j, q1, -, q3⟩ := inR_t (by decide) (by omega) e
    exact ⟨j, q1, by omega⟩
end LQ8
