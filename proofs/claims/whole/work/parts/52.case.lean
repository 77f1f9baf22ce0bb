/-! THE PURE LEVEL, 11: a question of the law -/
section LQ
variable {σ : HpT} {G : Nat → Nat → Int32} {J : Nat → Nat → Int64} {o b m d : Nat}
/-- the law's objects: NotaryBook o with Book b, reference m, the long[1] d -/
def LO (σ : HpT) (G : Nat → Nat → Int32) (J : Nat → Nat → Int64) (o b m d : Nat) : Prop := NK σ o b ∧ MK σ m ∧ (hK σ d = 21 ∧ d < hN σ ∧ hZ σ d = 1) ∧ (G o 4 = 0 ∨ G o 4 = 1) ∧ G m 6 = G o 4 ∧ (G o 4 ≠ 0 → WFN (G (m + 1)) ∧ RB G J b (G (m + 1)))
theorem upJ_self (J : Nat → Nat → Int64) (a k : Nat) : upJ J a k (J a k) = J := funext fun b => funext fun j => by
  unfold upJ
  by_cases h : b = a ∧ j = k
  · rw [if_pos h, h.1, h.2]
  · rw [if_neg h]
theorem lo_aJ (h : LO σ G J o b m d) (G' : Nat → Nat → Int32) (J' : Nat → Nat → Int64) : aJ (wc σ G' J') (some d) 0 = some (J' d 0) := aJ_c (n := 0) h.2.2.1.1 h.2.2.1.2.1 h.2.2.1.2.2 (by decide) (by decide)
theorem lo_sJ (h : LO σ G J o b m d) (G' : Nat → Nat → Int32) (J' : Nat → Nat → Int64) (y : Int64) : sJ (wc σ G' J') (some d) 0 y = some (wc σ G' (upJ J' d 0 y)) := sJ_c (n := 0) h.2.2.1.1 h.2.2.1.2.1 h.2.2.1.2.2 (by decide) (by decide)
theorem lo_th (h : LO σ G J o b m d) (G' : Nat → Nat → Int32) (J' : Nat → Nat → Int64) : fX10_thrown (some m) (wc σ G' J') = some (G' m 0) := m_thrown (σ := wc σ G' J') (G := G') h.2.1
/-- the class's answer agrees with the reference's number and code -/
def lqR (g : Nat → HpT → AT Int32) (S : HpT) (x code : Int32) : Except Nat Int32 → Prop
  | .ok y => y = x ∧ code = 0
  | .error n => code ≠ 0 ∧ g n S = some (.ok code, S, 0, 0)
/-- the class's answer and the reference's, of a question with a number -/
theorem lq_int (h : LO σ G J o b m d) {C : Option (Except Nat Int32)} {M : HpT → Option (Int32 × HpT)} {g : Nat → HpT → AT Int32} {r : Except Nat Int32} {x code : Int32}
    (hC : C = some r) (hM : ∀ J', M (wc σ G J') = some (x, wc σ (up G m 0 code) J'))
    (hr : lqR g (wc σ G J) x code r) :
    ∃ t y a c, bnO (bnC (xA (wc σ G J) C) (fun x1 s2 => bnP (sJ s2 (some d) 0 x1.toInt64) (fun s11 => some (.ok 0, s11, 0, 0))) g) (fun x3 s5 => bnS (M s5) (fun x12 s14 => bnP (fX10_thrown (some m) s14) (fun x15 => (if x15 = x3 then (if x3 = 0 then bnP (aJ s14 (some d) 0) (fun x17 => (if (lg_cmp x17 ((x12).toInt64)) = 0 then some (.ok (), s14, 0, 0) else none)) else some (.ok (), s14, 0, 0)) else none)))) = some ((.ok () : Except Nat Unit), wc σ (up G m 0 t) (upJ J d 0 y), a, c) ∧ a ≤ 1 ∧ c ≤ 6 := by
  cases r with
  | ok y =>
    obtain ⟨hy, hc⟩ := hr
    subst hy
    subst hc
    refine ⟨0, y.toInt64, 0, 0, ?_, by decide, by decide⟩
    have e1 : bnC (xA (wc σ G J) C) (fun x1 s2 => bnP (sJ s2 (some d) 0 x1.toInt64) (fun s11 => some ((.ok 0 : Except Nat Int32), s11, 0, 0))) g = some (.ok 0, wc σ G (upJ J d 0 y.toInt64), 0, 0) := by
      rw [hC]
      exact bnC_1 (i := 0) (j := 0) (i2 := 0) (j2 := 0) (by rw [lo_sJ h, bnP_1])
    rw [e1]
    refine bnO_1 (i := 0) (j := 0) (i2 := 0) (j2 := 0) ?_
    rw [hM, bnS_1, lo_th h, bnP_1, up_eq, if_pos rfl, if_pos rfl, lo_aJ h, bnP_1, upJ_eq, if_pos ((lg_cmp_eq _ _).mpr rfl)]
  | error n =>
    obtain ⟨hc, hg⟩ := hr
    refine ⟨code, J d 0, 1, 6, ?_, by decide, by decide⟩
    have e1 : bnC (xA (wc σ G J) C) (fun x1 s2 => bnP (sJ s2 (some d) 0 x1.toInt64) (fun s11 => some ((.ok 0 : Except Nat Int32), s11, 0, 0))) g = some (.ok code, wc σ G J, 1, 6) := by
      rw [hC]
      exact bnC_e (i := 1) (j := 6) (i2 := 0) (j2 := 0) hg
    rw [e1, upJ_self]
    refine bnO_1 (i := 1) (j := 6) (i2 := 0) (j2 := 0) ?_
    rw [hM, bnS_1, lo_th h, bnP_1, up_eq, if_pos rfl, if_neg hc]
/-- case 5: COUNT -/
theorem lc5 (h : LO σ G J o b m d) {Lx : Nat} {xs : Nat → Int32} {v5 v : Int32} (hx : sld Lx xs (v5 + 1) = some v) (v4 : Option Nat) : ∃ t y a c, fL_c5 Lx xs (some o) (some m) (some d) v4 v5 (wc σ G J) = some ((.ok () : Except Nat Unit), wc σ (up G m 0 t) (upJ J d 0 y), a, c) ∧ a ≤ 1 ∧ c ≤ 6 := by
  unfold fL_c5 fL_count
  simp only [hx, bnP_1]
  have hr : G m 6 = 0 ∨ G m 6 = 1 := by rw [h.2.2.2.2.1]; exact h.2.2.2.1
  refine lq_int h (cq_count h.1 h.2.2.2.2.2 v) (fun J' => mq_count (σ := wc σ G J') h.2.1 (fun q => (h.2.2.2.2.2 (by rw [← h.2.2.2.2.1]; exact q)).1) hr v) ?_
  rw [h.2.2.2.2.1]
  by_cases q : G o 4 = 0
  · rw [if_pos q, decide_eq_false (fun e => e q)]
    exact ⟨show (1 : Int32) ≠ 0 by decide, rfl⟩
  · rw [if_neg q, decide_eq_true q]
    cases e : inR v 0 15
    · exact ⟨by decide, rfl⟩
    · exact ⟨rfl, rfl⟩
end LQ
