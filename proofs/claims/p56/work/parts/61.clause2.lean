/-! THE PURE LEVEL, 21: clauses, both sides -/
theorem nI_stp {a o x c : Nat} (h : a + o = x + c) : nI a + (nI o - nI c) = nI x := by
  rw [Int32.sub_eq_add_neg, ← Int32.add_assoc, nI_add, h, ← nI_add, ← Int32.sub_eq_add_neg, Int32.add_sub_cancel]
theorem lpP_e {α β : Type} {f : α → Option (α ⊕ β)} {a : α} {r : β} (F : Nat) (h : f a = some (.inr r)) : lpP f (F + 1) a = some r := by
  show (match f a with | none => none | some (.inl a') => lpP f F a' | some (.inr b) => some b) = _
  rw [h]
theorem lpS_s {α β : Type} {f : α → HpT → Option ((α ⊕ β) × HpT)} {a b : α} {σ σ2 : HpT} (F : Nat) (h : f a σ = some (.inl b, σ2)) : lpS f (F + 1) a σ = lpS f F b σ2 := by
  show (match f a σ with | none => none | some (.inl a', σ') => lpS f F a' σ' | some (.inr b, σ') => some (b, σ')) = _
  rw [h]
theorem lpS_e {α β : Type} {f : α → HpT → Option ((α ⊕ β) × HpT)} {a : α} {r : β} {σ σ2 : HpT} (F : Nat) (h : f a σ = some (.inr r, σ2)) : lpS f (F + 1) a σ = some (r, σ2) := by
  show (match f a σ with | none => none | some (.inl a', σ') => lpS f F a' σ' | some (.inr b, σ') => some (b, σ')) = _
  rw [h]
theorem w3_cl {N : Nat → Int32} (w3 : W3 N) {a : Nat} (ha : a < nAc N) : CLz (cF N) (cT N) (cA N) (aK N a) (aC N a) (aF N a) (aF N a + aM N a) := fun c h1 h2 =>
  have q := (w3 a ha).1 c h1 h2
  ⟨q.2.2.2.1, q.2.2.2.2.1, q.2.2.2.2.2.1, q.2.2.2.2.2.2.1, q.2.2.2.2.2.2.2⟩
theorem cl_enr0 {F T A : Nat → Nat} {k n lo hi : Nat} (h : CLz F T A k n lo hi) : enr F T k n lo = 0 := cntN_zero (fun i hi => by
  rw [decide_eq_false (show ¬ F (k + i) < lo by have := (h (k + i) (by omega) (by omega)).1; omega), Bool.false_and])
theorem cl_enrH {F T A : Nat → Nat} {k n lo hi v : Nat} (h : CLz F T A k n lo hi) (hv : hi ≤ v) : enr F T k n v = 0 := cntN_zero (fun i hi => by
  rw [decide_eq_false (show ¬ v ≤ T (k + i) by have := (h (k + i) (by omega) (by omega)).2.2.1; omega), Bool.and_false])
theorem cl_cntL0 {F T A : Nat → Nat} {k n lo hi : Nat} (h : CLz F T A k n lo hi) : cntL F k n lo = 0 := cntN_zero (fun i hi => decide_eq_false (by have := (h (k + i) (by omega) (by omega)).1; omega))
theorem cl_cntLH {F T A : Nat → Nat} {k n lo hi v : Nat} (h : CLz F T A k n lo hi) (hv : hi ≤ v) : cntL F k n v = n := cntN_all (fun i hi => decide_eq_true (by have := (h (k + i) (by omega) (by omega)).2; omega))
/-- the act's words, their clause -/
theorem w3_w {N : Nat → Int32} (w3 : W3 N) {a g : Nat} (ha : a < nAc N) (h1 : aF N a ≤ g) (h2 : g < aF N a + aM N a) : N (127 + 13 * g + 3) = nI (wW N g) ∧ wW N g < 961 ∧ ((wW N g = 0 ∧ cov (cF N) (cT N) (aK N a) (aC N a) g = 0) ∨ ∃ p, wW N g = p + 1 ∧ aK N a ≤ p ∧ p < aK N a + aC N a ∧ cF N p ≤ g ∧ g ≤ cT N p ∧ cov (cF N) (cT N) (aK N a) (aC N a) g = dep (cF N) (cT N) (aK N a) p) := by
  obtain ⟨q1, q2, -⟩ := (w3 a ha).2 g h1 h2
  refine ⟨q1.1, q1.2, ?_⟩
  rcases q2 with ⟨q2, q3⟩ | ⟨p, q2, q3, q4, q5, q6, q7⟩
  · exact Or.inl ⟨q2, cov_0 q3⟩
  · exact Or.inr ⟨p, q2, q3, q4, q5, q6, cov_dep (w3_cl w3 ha) q3 q4 q5 q6 q7⟩
theorem w3_kb {N : Nat → Int32} (w2 : W2 N) (w1 : W1 N) {a : Nat} (ha : a < nAc N) : aK N a + aC N a ≤ nCl N ∧ nCl N < 961 := by
  have hb := w1_b w1
  refine ⟨?_, hb.2.2.2.1⟩
  have key : ∀ j, a + j < nAc N → aK N a + aC N a ≤ aK N (a + j) + aC N (a + j) := by
    intro j
    induction j with
    | zero => intro _; exact Nat.le_refl _
    | succ j ih =>
      intro hj
      have e := (w2.2 (a + j) (by omega)).2.2.2.2.1 (by omega)
      have := ih (by omega)
      have e2 := e.2.1
      rw [show a + j + 1 = a + (j + 1) by omega] at e2
      omega
  have e := (w2.2 (nAc N - 1) (by omega)).2.2.2.2.2 (by omega)
  have := key (nAc N - 1 - a) (by omega)
  rw [show a + (nAc N - 1 - a) = nAc N - 1 by omega] at this
  omega
def inQ (N : Nat → Int32) (a g : Nat) : Int32 := if wW N g = 0 then nO else nI (wW N g - 1 - aK N a)
def dpQ (N : Nat → Int32) (a g : Nat) : Int32 := nI (cov (cF N) (cT N) (aK N a) (aC N a) g)
/-- the greatest depth of the first k words of an act -/
def mxQ (N : Nat → Int32) (a : Nat) : Nat → Int32
  | 0 => 0
  | k + 1 => mmx (mxQ N a k) (dpQ N a (aF N a + k))
section C5
variable {σ : HpT} {G : Nat → Nat → Int32} {J : Nat → Nat → Int64} {o b m d : Nat} {N : Nat → Int32}
theorem rb_op (r : RB G J b N) {a g : Nat} (ha : a < nAc N) (h1 : aF N a ≤ g) (h2 : g < aF N a + aM N a) : G (b + 3 + 2) g = nI (cntV (cF N) (aK N a) (aC N a) g) := (r.2.1.2 a ha g h1 h2).1
theorem rb_cs (r : RB G J b N) {a g : Nat} (ha : a < nAc N) (h1 : aF N a ≤ g) (h2 : g < aF N a + aM N a) : G (b + 3 + 3) g = nI (cntV (cT N) (aK N a) (aC N a) g) := (r.2.1.2 a ha g h1 h2).2
theorem c_depthOf (h : BK σ b) (hw : WFN N) (r : RB G J b N) {a g : Nat} (ha : a < nAc N) (h1 : aF N a ≤ g) (h2 : g < aF N a + aM N a) : fX8_depthOf (some (b + 3)) (nI (aF N a)) (nI g) (wc σ G J) = some (dpQ N a g) := by
  have hl := act_le hw.1 hw.2.1 ha
  have hb := w1_b hw.1
  have cl := w3_cl hw.2.2.1 ha
  have ft := cl_ft cl
  unfold fX8_depthOf dpQ
  have e : lpP (fX8_depthOf_l1 (some (b + 3)) (nI g) (wc σ G J)) FUEL (nI (cntV (cF N) (aK N a) (aC N a) g), nI (aF N a)) = some (nI (cov (cF N) (cT N) (aK N a) (aC N a) g)) := by
    refine lpP_f (g - aF N a) (fun k => (nI (cntV (cF N) (aK N a) (aC N a) g + enr (cF N) (cT N) (aK N a) (aC N a) (aF N a + k)), nI (aF N a + k))) (by rw [Nat.add_zero, cl_enr0 cl, Nat.add_zero]) (by omega) (fun k hk => ?_) ?_
    · unfold fX8_depthOf_l1
      have s1 := cov_ent ft (aF N a + k)
      have s2 := ent_succ ft (aF N a + k)
      dsimp only
      rw [if_neg (nI_ge (by omega) (by omega)), sk_r2 (bk_S h), bnP_1, sk_a2 (bk_S h) (by omega), bnP_1, sk_r3 (bk_S h), bnP_1, sk_a3 (bk_S h) (by omega), bnP_1, rb_op r ha (by omega) (by omega), rb_cs r ha (by omega) (by omega), nI_a1, nI_stp (x := cntV (cF N) (aK N a) (aC N a) g + enr (cF N) (cT N) (aK N a) (aC N a) (aF N a + (k + 1))) (by rw [show aF N a + (k + 1) = aF N a + k + 1 from rfl]; omega)]
      rfl
    · unfold fX8_depthOf_l1
      dsimp only
      rw [show aF N a + (g - aF N a) = g by omega, if_pos (nI_le (Nat.le_refl _) (by omega)), cov_ent ft g, Nat.add_comm]
  rw [sk_o (bk_S h), bnP_1, sk_r2 (bk_S h), bnP_1, sk_a2 (bk_S h) (by omega), bnP_1, rb_op r ha h1 h2, e, bnP_1]
theorem c_clausesFrom (h : BK σ b) (hw : WFN N) (r : RB G J b N) {a : Nat} (ha : a < nAc N) : fX8_clausesFrom (some (b + 3)) (nI (aF N a)) (nI (aM N a)) (wc σ G J) = some (nI (aC N a)) := by
  have hl := act_le hw.1 hw.2.1 ha
  have hb := w1_b hw.1
  have cl := w3_cl hw.2.2.1 ha
  unfold fX8_clausesFrom
  have e : lpP (fX8_clausesFrom_l1 (some (b + 3)) (nI (aF N a)) (nI (aM N a)) (wc σ G J)) FUEL (0, nI (aF N a)) = some (nI (aC N a)) := by
    refine lpP_f (aM N a) (fun k => (nI (cntL (cF N) (aK N a) (aC N a) (aF N a + k)), nI (aF N a + k))) (by rw [Nat.add_zero, cl_cntL0 cl]; rfl) (by omega) (fun k hk => ?_) ?_
    · unfold fX8_clausesFrom_l1
      dsimp only
      rw [nI_add, if_neg (nI_ge (by omega) (by omega)), sk_r2 (bk_S h), bnP_1, sk_a2 (bk_S h) (by omega), bnP_1, rb_op r ha (by omega) (by omega), nI_a1, nI_add, ← cntL_succ]
      rfl
    · unfold fX8_clausesFrom_l1
      dsimp only
      rw [nI_add, if_pos (nI_le (Nat.le_refl _) (by omega)), cl_cntLH cl (Nat.le_refl _)]
  rw [sk_o (bk_S h), bnP_1, e, bnP_1]
theorem c_greatestDepth (h : BK σ b) (hw : WFN N) (r : RB G J b N) {a : Nat} (ha : a < nAc N) : fX8_greatestDepth (some (b + 3)) (nI (aF N a)) (nI (aM N a)) (wc σ G J) = some (mxQ N a (aM N a)) := by
  have hl := act_le hw.1 hw.2.1 ha
  have hb := w1_b hw.1
  have cl := w3_cl hw.2.2.1 ha
  have ft := cl_ft cl
  unfold fX8_greatestDepth
  have e : lpP (fX8_greatestDepth_l1 (some (b + 3)) (nI (aF N a)) (nI (aM N a)) (wc σ G J)) FUEL (0, 0, nI (aF N a)) = some (mxQ N a (aM N a)) := by
    refine lpP_f (aM N a) (fun k => (mxQ N a k, nI (enr (cF N) (cT N) (aK N a) (aC N a) (aF N a + k)), nI (aF N a + k))) (by rw [Nat.add_zero, cl_enr0 cl]; rfl) (by omega) (fun k hk => ?_) ?_
    · unfold fX8_greatestDepth_l1
      have s1 := cov_ent ft (aF N a + k)
      have s2 := ent_succ ft (aF N a + k)
      dsimp only
      rw [nI_add, if_neg (nI_ge (by omega) (by omega)), sk_r2 (bk_S h), bnP_1, sk_a2 (bk_S h) (by omega), bnP_1, sk_r3 (bk_S h), bnP_1, sk_a3 (bk_S h) (by omega), bnP_1, rb_op r ha (by omega) (by omega), rb_cs r ha (by omega) (by omega), nI_a1, nI_add, ← s1, ← s2, nI_sub (by omega), Nat.add_sub_cancel]
      show some (Sum.inl (mmx (mxQ N a k) (nI (enr (cF N) (cT N) (aK N a) (aC N a) (aF N a + k + 1) + cntV (cT N) (aK N a) (aC N a) (aF N a + k))), _, _)) = _
      rw [s2]
      rfl
    · unfold fX8_greatestDepth_l1
      dsimp only
      rw [nI_add, if_pos (nI_le (Nat.le_refl _) (by omega))]
  rw [sk_o (bk_S h), bnP_1, e, bnP_1]
theorem c_innermostOf (h : BK σ b) (hw : WFN N) (r : RB G J b N) {a g : Nat} (ha : a < nAc N) (h1 : aF N a ≤ g) (h2 : g < aF N a + aM N a) : fX8_innermostOf (some (b + 3)) (nI (aF N a)) (nI g) (wc σ G J) = some (inQ N a g) := by
  have hl := act_le hw.1 hw.2.1 ha
  have hb := w1_b hw.1
  have cl := w3_cl hw.2.2.1 ha
  have ft := cl_ft cl
  have kb := w3_kb hw.2.1 hw.1 ha
  unfold fX8_innermostOf
  generalize hwd : cov (cF N) (cT N) (aK N a) (aC N a) g = wd
  have hwd2 : wd ≤ aC N a := by rw [← hwd]; exact cntN_le _ _
  have e : lpP (fX8_innermostOf_l1 (some (b + 3)) (nI g) (nI wd) (wc σ G J)) FUEL ((-1), 0, 0, nI (aF N a)) = some (inQ N a g) := by
    refine lpP_f (g + 1 - aF N a) (fun k => (innV (cF N) (cT N) (aK N a) (aC N a) (aF N a) wd k, nI (cntL (cF N) (aK N a) (aC N a) (aF N a + k)), nI (enr (cF N) (cT N) (aK N a) (aC N a) (aF N a + k)), nI (aF N a + k))) (by rw [Nat.add_zero, cl_enr0 cl, cl_cntL0 cl]; rfl) (by omega) (fun k hk => ?_) ?_
    · unfold fX8_innermostOf_l1
      have s1 := cov_ent ft (aF N a + k)
      have s2 := ent_succ ft (aF N a + k)
      have s3 := cntN_le (fun i => decide (cF N (aK N a + i) < aF N a + k) && decide (aF N a + k ≤ cT N (aK N a + i))) (aC N a)
      have s4 := cntN_le (fun i => decide (cF N (aK N a + i) = aF N a + k)) (aC N a)
      have s5 := cntN_le (fun i => decide (cF N (aK N a + i) < aF N a + k)) (aC N a)
      have t3 : enr (cF N) (cT N) (aK N a) (aC N a) (aF N a + k) ≤ aC N a := s3
      have t4 : cntV (cF N) (aK N a) (aC N a) (aF N a + k) ≤ aC N a := s4
      have t5 : cntL (cF N) (aK N a) (aC N a) (aF N a + k) ≤ aC N a := s5
      have hj : (if nI wd ≤ nI (enr (cF N) (cT N) (aK N a) (aC N a) (aF N a + k)) then some (innV (cF N) (cT N) (aK N a) (aC N a) (aF N a) wd k) else bnP (gR (wc σ G J) (some (b + 3)) 8 2) (fun x18 => bnP (aI (wc σ G J) x18 20 (nI (aF N a + k))) (fun x20 => (if (nI (enr (cF N) (cT N) (aK N a) (aC N a) (aF N a + k)) + x20) < nI wd then some (innV (cF N) (cT N) (aK N a) (aC N a) (aF N a) wd k) else some (((nI (cntL (cF N) (aK N a) (aC N a) (aF N a + k)) + nI wd) - nI (enr (cF N) (cT N) (aK N a) (aC N a) (aF N a + k))) - 1))))) = some (innV (cF N) (cT N) (aK N a) (aC N a) (aF N a) wd (k + 1)) := by
        show _ = some (if enr (cF N) (cT N) (aK N a) (aC N a) (aF N a + k) < wd ∧ wd ≤ enr (cF N) (cT N) (aK N a) (aC N a) (aF N a + k) + cntV (cF N) (aK N a) (aC N a) (aF N a + k) then nI (cntL (cF N) (aK N a) (aC N a) (aF N a + k) + wd - enr (cF N) (cT N) (aK N a) (aC N a) (aF N a + k) - 1) else innV (cF N) (cT N) (aK N a) (aC N a) (aF N a) wd k)
        by_cases q1 : wd ≤ enr (cF N) (cT N) (aK N a) (aC N a) (aF N a + k)
        · rw [if_pos (nI_le q1 (by omega)), if_neg (by omega)]
        · rw [if_neg (nI_ge (by omega) (by omega)), sk_r2 (bk_S h), bnP_1, sk_a2 (bk_S h) (by omega), bnP_1, rb_op r ha (by omega) (by omega), nI_add]
          by_cases q2 : enr (cF N) (cT N) (aK N a) (aC N a) (aF N a + k) + cntV (cF N) (aK N a) (aC N a) (aF N a + k) < wd
          · rw [if_pos (nI_lt q2 (by omega)), if_neg (by omega)]
          · rw [if_neg (nI_nlt (by omega) (by omega)), if_pos (by omega), nI_add, nI_sub (by omega), nI_m1 (by omega)]
      dsimp only
      rw [if_neg (nI_nlt (by omega) (by omega)), hj, bnP_1, sk_r2 (bk_S h), bnP_1, sk_a2 (bk_S h) (by omega), bnP_1, bnP_1, sk_a2 (bk_S h) (by omega), bnP_1, sk_r3 (bk_S h), bnP_1, sk_a3 (bk_S h) (by omega), bnP_1, rb_op r ha (by omega) (by omega), rb_cs r ha (by omega) (by omega), nI_a1, nI_add, nI_stp (x := enr (cF N) (cT N) (aK N a) (aC N a) (aF N a + (k + 1))) (by rw [show aF N a + (k + 1) = aF N a + k + 1 from rfl]; omega), ← cntL_succ]
      rfl
    · unfold fX8_innermostOf_l1
      dsimp only
      rw [show aF N a + (g + 1 - aF N a) = g + 1 by omega, if_pos (nI_lt (by omega) (by omega))]
      unfold inQ
      obtain ⟨-, -, q⟩ := w3_w hw.2.2.1 ha h1 h2
      rcases q with ⟨q1, q2⟩ | ⟨p, q1, q2, q3, q4, q5, q6⟩
      · rw [hwd] at q2
        rw [q2, innV_0, if_pos q1]
      · rw [hwd] at q6
        rw [q6, innV_p cl q2 q3 _ (by omega) (by omega), if_neg (by omega), q1, Nat.add_sub_cancel]
  have hd := c_depthOf h hw r ha h1 h2
  unfold dpQ at hd
  rw [hwd] at hd
  rw [sk_o (bk_S h), bnP_1, hd, bnP_1, e, bnP_1]
end C5
section M6
variable {σ : HpT} {G : Nat → Nat → Int32} {m : Nat}
end M6
