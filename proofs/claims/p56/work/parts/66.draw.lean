/-! THE PURE LEVEL, 26: a copy is drawn; what a Book's scratch cells don't touch -/
theorem rb_cong {G G' : Nat → Nat → Int32} {J J' : Nat → Nat → Int64} {b : Nat} {N : Nat → Int32} (w1 : W1 N) (hG : ∀ a, b ≤ a → a < b + 33 → a ≠ b + 12 → a ≠ b + 13 → a ≠ b + 14 → ¬ b + 25 + nCp N ≤ a → G' a = G a) (hJ : ∀ a, b ≤ a → a < b + 33 → J' a = J a) (r : RB G J b N) : RB G' J' b N := by
  have hb := w1_b w1
  have h12 := nlv_12 w1
  obtain ⟨⟨a1, a2, a3, a4, a5, a6, a7, a8, a9, a10, a11⟩, ⟨b1, b2⟩, c1⟩ := r
  have e0 := hG b (by omega) (by omega) (by omega) (by omega) (by omega) (by omega)
  have e3 := hG (b + 3) (by omega) (by omega) (by omega) (by omega) (by omega) (by omega)
  have e5 := hG (b + 5) (by omega) (by omega) (by omega) (by omega) (by omega) (by omega)
  have e6 := hG (b + 6) (by omega) (by omega) (by omega) (by omega) (by omega) (by omega)
  have e7 := hG (b + 7) (by omega) (by omega) (by omega) (by omega) (by omega) (by omega)
  have e8 := hG (b + 8) (by omega) (by omega) (by omega) (by omega) (by omega) (by omega)
  have e10 := hG (b + 10) (by omega) (by omega) (by omega) (by omega) (by omega) (by omega)
  have e11 := hG (b + 11) (by omega) (by omega) (by omega) (by omega) (by omega) (by omega)
  have j4 := hJ (b + 4) (by omega) (by omega)
  have j9 := hJ (b + 9) (by omega) (by omega)
  refine ⟨⟨by rw [e0]; exact a1, by rw [e0]; exact a2, by rw [e0]; exact a3, by rw [e0]; exact a4, by rw [e0]; exact a5, by rw [e0]; exact a6, by rw [e3]; exact a7, by rw [e10]; exact a8, by rw [e10]; exact a9, fun a ha => ?_, fun l hl => by rw [e11]; exact a11 l hl⟩, ⟨fun g hg => by rw [j4, e7, e8, j9]; exact b1 g hg, fun a ha g h1 h2 => by rw [e5, e6]; exact b2 a ha g h1 h2⟩, fun c hc => ?_⟩
  · rw [hG (b + 15 + a) (by omega) (by omega) (by omega) (by omega) (by omega) (by omega)]
    exact a10 a ha
  · have e := hG (b + 25 + c) (by omega) (by omega) (by omega) (by omega) (by omega) (by omega)
    have q := c1 c hc
    unfold RC at *
    rw [e]
    exact q
/-- the ints of one cell, all of them -/
def cw (G : Nat → Nat → Int32) (a : Nat) (f : Nat → Int32) : Nat → Nat → Int32 := fun b j => if b = a then f j else G b j
theorem cw_a (G : Nat → Nat → Int32) (a : Nat) (f : Nat → Int32) : cw G a f a = f := funext fun _ => if_pos rfl
theorem cw_b {G : Nat → Nat → Int32} {a b : Nat} {f : Nat → Int32} (h : b ≠ a) : cw G a f b = G b := funext fun _ => if_neg h
theorem cw_self (G : Nat → Nat → Int32) (a : Nat) : cw G a (G a) = G := funext fun b => funext fun j => by
  unfold cw
  by_cases h : b = a
  · rw [if_pos h, h]
  · rw [if_neg h]
def u1 (f : Nat → Int32) (k : Nat) (x : Int32) : Nat → Int32 := fun j => if j = k then x else f j
theorem u1_e (f : Nat → Int32) (k : Nat) (x : Int32) : u1 f k x k = x := if_pos rfl
theorem u1_k {f : Nat → Int32} {k j : Nat} {x : Int32} (h : j ≠ k) : u1 f k x j = f j := if_neg h
theorem up_cw (G : Nat → Nat → Int32) (a : Nat) (f : Nat → Int32) (k : Nat) (x : Int32) : up (cw G a f) a k x = cw G a (u1 f k x) := funext fun b => funext fun j => by
  unfold up cw u1
  by_cases h : b = a
  · by_cases h2 : j = k
    · rw [if_pos ⟨h, h2⟩, if_pos h, if_pos h2]
    · rw [if_neg (fun q => h2 q.2), if_pos h, if_pos h, if_neg h2]
  · rw [if_neg (fun q => h q.1), if_neg h, if_neg h]
theorem up_is (G : Nat → Nat → Int32) (a k : Nat) (x : Int32) : up G a k x = cw G a (u1 (G a) k x) := by
  rw [← up_cw, cw_self]
theorem cw_cw (G : Nat → Nat → Int32) (a : Nat) (f g : Nat → Int32) : cw (cw G a f) a g = cw G a g := funext fun b => funext fun j => by
  unfold cw
  by_cases h : b = a
  · rw [if_pos h, if_pos h]
  · rw [if_neg h, if_neg h, if_neg h]
/-- has a copy of grade gr of act a word g -/
def hwA (N : Nat → Int32) (a gr g : Nat) : Bool := decide (aF N a ≤ g) && decide (g < aF N a + aM N a) && hbN N (aF N a) (aM N a) gr g
/-- words of a copy of grade gr of act a -/
def wbA (N : Nat → Int32) (a gr : Nat) : Int32 := sumI (fun k => bI (hbN N (aF N a) (aM N a) gr (aF N a + k)) + (if gr = 0 then N (127 + 13 * (aF N a + k) + 4) else 0)) (aM N a)
/-- the cell of a drawn copy: ahead of its size, and whole -/
def dr3 (N : Nat → Int32) (a gr : Nat) (f : Nat → Int32) : Prop := f 0 = nI (a + 1) ∧ f 1 = nI gr ∧ (match fsN N (aF N a) (aM N a) with | none => f 2 = 0 ∧ f 3 = nO | some (x, y) => f 2 = nI x ∧ f 3 = nI y)
def drC (N : Nat → Int32) (a gr : Nat) (f : Nat → Int32) : Prop := dr3 N a gr f ∧ f 4 = wbA N a gr
def fi2 (N : Nat → Int32) (f k : Nat) : Int32 := match fsN N f k with | none => 0 | some (x, _) => nI x
section DRW
variable {σ : HpT} {G : Nat → Nat → Int32} {J : Nat → Nat → Int64} {o b m d x : Nat} {N : Nat → Int32}
theorem c_holdsX (h : BK σ b) (w1 : W1 N) (w2 : W2 N) (hk : hK σ x = 3) (hx : x < hN σ) {a gr g : Nat} (ha : a < nAc N) (hgr : gr < 3) (hg : g < nWd N) (r1 : G x 1 = nI gr) (r3 : match fsN N (aF N a) (aM N a) with | none => G x 2 = 0 ∧ G x 3 = nO | some (p, q) => G x 2 = nI p ∧ G x 3 = nI q) (rs : G (b + 3 + 4) g = N (127 + 13 * g + 2)) : fX3_holds (some x) (some (b + 3)) (nI g) (wc σ G J) = some (hwA N a gr g) := by
  have hb := w1_b w1
  have ho := (act_ok w1 w2 ha).1
  have hle : aF N a + aM N a ≤ 240 := ho.2.2.2.2
  have xo : isK (wc σ G J) (some x) 3 = some () := isK_c hk
  have xI : ∀ k, gI (wc σ G J) (some x) 3 k = some (G x k) := fun k => gI_c hk hx
  unfold fX3_holds hwA
  rw [xo, bnP_1, xI, bnP_1]
  cases e : fsN N (aF N a) (aM N a) with
  | none =>
    rw [e] at r3
    have r3 : G x 2 = 0 ∧ G x 3 = nO := r3
    rw [r3.1, if_neg (nI_lt0 (by omega)), xI, bnP_1, r3.2, if_pos (nO_lt (by omega))]
    by_cases h1 : aF N a ≤ g
    · by_cases h2 : g < aF N a + aM N a
      · have := fsN_none e (g - aF N a) (by omega)
        rw [show aF N a + (g - aF N a) = g by omega] at this
        unfold hbN
        rw [this, Bool.false_and, Bool.and_false]
      · rw [decide_eq_false h2, Bool.and_false, Bool.false_and]
    · rw [decide_eq_false h1, Bool.false_and, Bool.false_and]
  | some xy =>
    obtain ⟨p, q⟩ := xy
    rw [e] at r3
    have r3 : G x 2 = nI p ∧ G x 3 = nI q := r3
    obtain ⟨p1, p2, p3, p4, p5⟩ := fsN_some e
    have hlow : g < p → (decide (aF N a ≤ g) && decide (g < aF N a + aM N a) && hbN N (aF N a) (aM N a) gr g) = false := fun hx => by
      by_cases h1 : aF N a ≤ g
      · unfold hbN
        rw [p4 g h1 hx, Bool.false_and, Bool.and_false]
      · rw [decide_eq_false h1, Bool.false_and, Bool.false_and]
    have hhigh : q < g → (decide (aF N a ≤ g) && decide (g < aF N a + aM N a) && hbN N (aF N a) (aM N a) gr g) = false := fun hx => by
      by_cases h1 : g < aF N a + aM N a
      · unfold hbN
        rw [p5 g hx h1, Bool.false_and, Bool.and_false]
      · rw [decide_eq_false h1, Bool.and_false, Bool.false_and]
    rw [r3.1]
    by_cases h1 : g < p
    · rw [if_pos (nI_lt h1 (by omega)), hlow h1]
    · rw [if_neg (nI_nlt (by omega) (by omega)), xI, bnP_1, r3.2]
      by_cases h2 : q < g
      · rw [if_pos (nI_lt h2 (by omega)), hhigh h2]
      · rw [if_neg (nI_nlt (by omega) (by omega)), sk_r4 (bk_S h), bnP_1, sk_a4 (bk_S h) (by omega), bnP_1, rs, decide_eq_true (show aF N a ≤ g by omega), decide_eq_true (show g < aF N a + aM N a by omega)]
        unfold hbN skN fstS lstS
        rw [e]
        dsimp only
        by_cases h3 : N (127 + 13 * g + 2) = 0
        · rw [if_pos h3, decide_eq_true h3, xI, bnP_1, r1]
          by_cases h4 : gr < 2
          · rw [if_neg (by rw [li_2, nI_eq (by omega) (by omega)]; omega), decide_eq_true h4]
            rfl
          · rw [if_pos (by rw [show gr = 2 by omega]; rfl), decide_eq_false h4, bnP_1]
            by_cases h5 : nI g = nI p
            · rw [if_pos h5, decide_eq_true h5]
              rfl
            · rw [if_neg h5, decide_eq_false h5, bnP_1]
              by_cases h6 : nI g = nI q
              · rw [if_pos h6, decide_eq_true h6]
                rfl
              · rw [if_neg h6, decide_eq_false h6]
                rfl
        · rw [if_neg h3, decide_eq_false h3]
          rfl
/-- a copy is drawn into cell x -/
theorem c_draw (h : BK σ b) (w1 : W1 N) (w2 : W2 N) (w4 : W4 N) (r : RB G J b N) (hx : x = b + 14 ∨ (b + 25 + nCp N ≤ x ∧ x < b + 33)) {a gr : Nat} (ha : a < nAc N) (hgr : gr < 3) : ∃ f, fX3_draw (some x) (some (b + 3)) (some (b + 15 + a)) (nI gr) (wc σ G J) = some (wc σ (cw G x f) J) ∧ drC N a gr f := by
  obtain ⟨p1, p2, p3, p4, p5⟩ := (act_ok w1 w2 ha).1
  have hr := rb_act r ha
  have hb := w1_b w1
  have hk : hK σ x = 3 := by
    rcases hx with hx | hx
    · rw [hx]
      exact h.2.1.2.2.2.2
    · have := (h.2.2.2.2.2.1 (x - (b + 25)) (by omega)).1
      rw [show b + 25 + (x - (b + 25)) = x by omega] at this
      exact this
  have hxn : x < hN σ := by have := h.1; omega
  have hle := act_le w1 w2 ha
  have xo : ∀ G', isK (wc σ G' J) (some x) 3 = some () := fun G' => isK_c hk
  have xI : ∀ f k, gI (wc σ (cw G x f) J) (some x) 3 k = some (f k) := fun f k => by
    rw [gI_c hk hxn, cw_a]
  have xP : ∀ f k v, pI (wc σ (cw G x f) J) (some x) 3 k v = some (wc σ (cw G x (u1 f k v)) J) := fun f k v => by
    rw [pI_c hk hxn, up_cw]
  have aG : ∀ f k, gI (wc σ (cw G x f) J) (some (b + 15 + a)) 0 k = some (G (b + 15 + a) k) := fun f k => by
    rw [bk_aI h p1, cw_b (by omega)]
  have e4 : ∀ f, cw G x f (b + 3 + 4) = G (b + 3 + 4) := fun f => cw_b (by omega)
  have e5 : ∀ f, cw G x f (b + 3 + 5) = G (b + 3 + 5) := fun f => cw_b (by omega)
  unfold fX3_draw
  rw [xo, bnP_1, bk_aI h p1, bnP_1, hr.1]
  have xP0 : ∀ k v, pI (wc σ G J) (some x) 3 k v = some (wc σ (cw G x (u1 (G x) k v)) J) := fun k v => by
    rw [pI_c hk hxn, up_is]
  rw [xP0, bnP_1, xP, bnP_1, xP, bnP_1, xP, bnP_1, xP, bnP_1, aG, bnP_1, hr.2.2.2.2.2.1, p2]
  generalize hf0 : u1 (u1 (u1 (u1 (u1 (G x) 0 (nI (a + 1))) 1 (nI gr)) 2 0) 3 (-1)) 4 0 = f0
  have z0 : f0 0 = nI (a + 1) := by rw [← hf0]; rfl
  have z1 : f0 1 = nI gr := by rw [← hf0]; rfl
  have z2 : f0 2 = 0 := by rw [← hf0]; rfl
  have z3 : f0 3 = nO := by rw [← hf0]; rfl
  have z4 : f0 4 = 0 := by rw [← hf0]; rfl
  clear hf0
  -- the first and the last
  have l1 : ∃ f1, lpS (fX3_draw_l1 (some x) (some (b + 3)) (some (b + 15 + a))) FUEL (nI (aF N a)) (wc σ (cw G x f0) J) = some ((), wc σ (cw G x f1) J) ∧ dr3 N a gr f1 ∧ f1 4 = 0 := by
    generalize ht : (fun k => u1 (u1 f0 2 (fi2 N (aF N a) k)) 3 (lstS N (aF N a) k)) = t
    have t0 : t 0 = f0 := by
      rw [← ht]
      funext j
      show u1 (u1 f0 2 0) 3 nO j = f0 j
      unfold u1
      by_cases q3 : j = 3
      · rw [if_pos q3, q3, z3]
      · rw [if_neg q3]
        by_cases q2 : j = 2
        · rw [if_pos q2, q2, z2]
        · rw [if_neg q2]
    refine ⟨t (aM N a), lpS_f (aM N a) (fun k => nI (aF N a + k)) (fun k => wc σ (cw G x (t k)) J) rfl (by rw [t0]) (by omega) (fun k hk2 => ?_) ?_, ?_, ?_⟩
    · have t2 : t k 2 = fi2 N (aF N a) k := by rw [← ht]; rfl
      have t3 : t k 3 = lstS N (aF N a) k := by rw [← ht]; rfl
      unfold fX3_draw_l1
      rw [aG, bnP_1, aG, bnP_1, hr.2.2.2.2.2.1, hr.2.2.2.2.2.2.1, p2, p3, nI_add, if_neg (nI_ge (by omega) (by omega)), sk_r4 (bk_S h), bnP_1, sk_a4 (bk_S h) (by omega), bnP_1, e4, rb_sk r (by omega)]
      have hfs : fsN N (aF N a) (k + 1) = if skN N (aF N a + k) = true then (match fsN N (aF N a) k with | none => some (aF N a + k, aF N a + k) | some (x, _) => some (x, aF N a + k)) else fsN N (aF N a) k := rfl
      by_cases q : N (127 + 13 * (aF N a + k) + 2) = 0
      · have qs : skN N (aF N a + k) = true := decide_eq_true q
        rw [if_pos q, xI, bnP_1, t3]
        rw [qs, if_pos rfl] at hfs
        have tk : t (k + 1) = u1 (u1 (t k) 2 (fi2 N (aF N a) (k + 1))) 3 (lstS N (aF N a) (k + 1)) := by
          rw [← ht]
          funext j
          show u1 (u1 f0 2 (fi2 N (aF N a) (k + 1))) 3 (lstS N (aF N a) (k + 1)) j = u1 (u1 (u1 (u1 f0 2 (fi2 N (aF N a) k)) 3 (lstS N (aF N a) k)) 2 (fi2 N (aF N a) (k + 1))) 3 (lstS N (aF N a) (k + 1)) j
          unfold u1
          by_cases q3 : j = 3
          · rw [if_pos q3, if_pos q3]
          · rw [if_neg q3, if_neg q3]
            by_cases q2 : j = 2
            · rw [if_pos q2, if_pos q2]
            · rw [if_neg q2, if_neg q2, if_neg q3, if_neg q2]
        cases e : fsN N (aF N a) k with
        | none =>
          have el : lstS N (aF N a) k = nO := by unfold lstS; rw [e]
          rw [e] at hfs
          have f2 : fi2 N (aF N a) (k + 1) = nI (aF N a + k) := by unfold fi2; rw [hfs]
          have f3 : lstS N (aF N a) (k + 1) = nI (aF N a + k) := by unfold lstS; rw [hfs]
          rw [el, if_pos (by decide), bnP_1]
          dsimp only
          rw [xP, bnP_1, xP, bnP_1, nI_a1, tk, f2, f3]
          rfl
        | some xy =>
          obtain ⟨u, v⟩ := xy
          have el : lstS N (aF N a) k = nI v := by unfold lstS; rw [e]
          have ef : fi2 N (aF N a) k = nI u := by unfold fi2; rw [e]
          have hv := (fsN_some e).1
          rw [e] at hfs
          have f2 : fi2 N (aF N a) (k + 1) = nI u := by unfold fi2; rw [hfs]
          have f3 : lstS N (aF N a) (k + 1) = nI (aF N a + k) := by unfold lstS; rw [hfs]
          rw [el, if_neg (show ¬ nI v = -1 from nI_nO (by omega)), xI, bnP_1, bnP_1, t2, ef]
          dsimp only
          rw [xP, bnP_1, xP, bnP_1, nI_a1, tk, f2, f3]
          rfl
      · have qs : skN N (aF N a + k) = false := decide_eq_false q
        rw [if_neg q, nI_a1]
        rw [qs, if_neg (by decide)] at hfs
        have tk : t (k + 1) = t k := by
          rw [← ht]
          dsimp only
          unfold fi2 lstS
          rw [hfs]
        rw [tk]
        rfl
    · unfold fX3_draw_l1
      rw [aG, bnP_1, aG, bnP_1, hr.2.2.2.2.2.1, hr.2.2.2.2.2.2.1, p2, p3, nI_add, if_pos (nI_le (Nat.le_refl _) (by omega))]
    · refine ⟨by rw [← ht]; exact z0, by rw [← ht]; exact z1, ?_⟩
      have t2 : t (aM N a) 2 = fi2 N (aF N a) (aM N a) := by rw [← ht]; rfl
      have t3 : t (aM N a) 3 = lstS N (aF N a) (aM N a) := by rw [← ht]; rfl
      rw [t2, t3]
      unfold fi2 lstS
      cases e : fsN N (aF N a) (aM N a) with
      | none => exact ⟨rfl, rfl⟩
      | some xy => exact ⟨rfl, rfl⟩
    · rw [← ht]
      exact z4
  obtain ⟨f1, hl1, d1, y4⟩ := l1
  rw [hl1, bnS_1, aG, bnP_1, hr.2.2.2.2.2.1, p2]
  -- the size
  generalize hS : (fun k => sumI (fun k => bI (hbN N (aF N a) (aM N a) gr (aF N a + k)) + (if gr = 0 then N (127 + 13 * (aF N a + k) + 4) else 0)) k) = S
  have l2 : lpS (fX3_draw_l2 (some x) (some (b + 3)) (some (b + 15 + a))) FUEL (nI (aF N a)) (wc σ (cw G x f1) J) = some ((), wc σ (cw G x (u1 f1 4 (S (aM N a)))) J) := by
    have t0 : u1 f1 4 (S 0) = f1 := by
      rw [← hS]
      funext j
      show u1 f1 4 0 j = f1 j
      unfold u1
      by_cases q : j = 4
      · rw [if_pos q, q, y4]
      · rw [if_neg q]
    refine lpS_f (aM N a) (fun k => nI (aF N a + k)) (fun k => wc σ (cw G x (u1 f1 4 (S k))) J) rfl (by rw [t0]) (by omega) (fun k hk2 => ?_) ?_
    · have hs : S (k + 1) = S k + (bI (hbN N (aF N a) (aM N a) gr (aF N a + k)) + (if gr = 0 then N (127 + 13 * (aF N a + k) + 4) else 0)) := by rw [← hS]; rfl
      have uu : ∀ u v, u1 (u1 f1 4 u) 4 v = u1 f1 4 v := fun u v => by
        funext j
        unfold u1
        by_cases q : j = 4
        · rw [if_pos q, if_pos q]
        · rw [if_neg q, if_neg q, if_neg q]
      have hh : fX3_holds (some x) (some (b + 3)) (nI (aF N a + k)) (wc σ (cw G x (u1 f1 4 (S k))) J) = some (hbN N (aF N a) (aM N a) gr (aF N a + k)) := by
        rw [c_holdsX h w1 w2 hk hxn ha hgr (show aF N a + k < nWd N by omega) (by rw [cw_a]; exact d1.2.1) (by rw [cw_a]; exact d1.2.2) (by rw [e4]; exact rb_sk r (by omega))]
        unfold hwA
        rw [decide_eq_true (show aF N a ≤ aF N a + k by omega), decide_eq_true (show aF N a + k < aF N a + aM N a by omega)]
        rfl
      unfold fX3_draw_l2
      rw [aG, bnP_1, aG, bnP_1, hr.2.2.2.2.2.1, hr.2.2.2.2.2.2.1, p2, p3, nI_add, if_neg (nI_ge (by omega) (by omega)), xI, bnP_1, u1_e, hh, bnP_1]
      have hj : (if hbN N (aF N a) (aM N a) gr (aF N a + k) = true then some ((some x : Option Nat), S k, (1 : Int32)) else some (some x, S k, 0)) = some (some x, S k, bI (hbN N (aF N a) (aM N a) gr (aF N a + k))) := by
        cases hbN N (aF N a) (aM N a) gr (aF N a + k) <;> rfl
      rw [hj, bnP_1]
      dsimp only
      rw [xP, bnP_1, uu, xI, bnP_1, xI, bnP_1, u1_e, u1_k (show 1 ≠ 4 by decide), d1.2.1]
      have hj2 : (if nI gr = 0 then bnP (gR (wc σ (cw G x (u1 f1 4 (S k + bI (hbN N (aF N a) (aM N a) gr (aF N a + k))))) J) (some (b + 3)) 8 5) (fun x91 => bnP (aI (wc σ (cw G x (u1 f1 4 (S k + bI (hbN N (aF N a) (aM N a) gr (aF N a + k))))) J) x91 20 (nI (aF N a + k))) (fun x93 => some ((some x : Option Nat), S k + bI (hbN N (aF N a) (aM N a) gr (aF N a + k)), x93))) else some (some x, S k + bI (hbN N (aF N a) (aM N a) gr (aF N a + k)), 0)) = some (some x, S k + bI (hbN N (aF N a) (aM N a) gr (aF N a + k)), (if gr = 0 then N (127 + 13 * (aF N a + k) + 4) else 0)) := by
        by_cases q : gr = 0
        · rw [if_pos (by rw [q]; rfl), sk_r5 (bk_S h), bnP_1, sk_a5 (bk_S h) (by omega), bnP_1, e5, rb_in r (by omega), if_pos q]
        · rw [if_neg (by rw [li_0, nI_eq (by omega) (by omega)]; exact q), if_neg q]
      rw [hj2, bnP_1]
      dsimp only
      rw [xP, bnP_1, uu, nI_a1, Int32.add_assoc, ← hs]
      rfl
    · unfold fX3_draw_l2
      rw [aG, bnP_1, aG, bnP_1, hr.2.2.2.2.2.1, hr.2.2.2.2.2.2.1, p2, p3, nI_add, if_pos (nI_le (Nat.le_refl _) (by omega))]
  refine ⟨u1 f1 4 (S (aM N a)), by rw [l2, bnS_1], ?_, ?_⟩
  · exact ⟨d1.1, d1.2.1, d1.2.2⟩
  · rw [u1_e, ← hS]
    rfl
end DRW
