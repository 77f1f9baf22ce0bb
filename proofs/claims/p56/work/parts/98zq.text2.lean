/-! THE PURE LEVEL, 101: a text -/
def nwN (r t q : Nat) : tN := u1 (u1 (u1 (fun _ => 0) 0 (nI r)) 1 (nI t)) 2 (nI q)
/-- the head of a text, from its first token -/
def hdS (f : Nat → Int32) (e : Nat) : PRes := if kw f e 0 1 = true then (match nmS f e (tkX f e 0) 4 21 with
  | .error x => .error x
  | .ok r => match nmS f e (tkX f e (tkX f e 0)) 0 5 with
    | .error x => .error x
    | .ok t => match nmS f e (tkX f e (tkX f e (tkX f e 0))) 2 5 with
      | .error x => .error x
      | .ok q => .ok (tkX f e (tkX f e (tkX f e (tkX f e 0))), nwN r t q)) else .error (1, tkS f e 0)
/-- the lines of a text -/
def txS (f : Nat → Int32) (e : Nat) : Nat → tN → Nat → PRes
  | 0, _, _ => .error (0, 0)
  | n + 1, N, p => if tkK f e p = 0 then .ok (p, N) else if tkK f e p = 3 then (match lnLine f e (tkX f e p) N with
    | .error x => .error x
    | .ok r => txS f e n r.2 r.1) else .error (1, tkS f e p)
def ldS (f : Nat → Int32) (e : Nat) : PRes := match hdS f e with
  | .error x => .error x
  | .ok r => txS f e (e + 1) r.2 r.1
section TXP
variable {f : Nat → Int32} {e p a n : Nat} {N : tN} {r : Nat × tN}
theorem tkx_le (h : p ≤ e) : p ≤ tkX f e p ∧ tkX f e p ≤ e := by
  have := tk_b (f := f) h
  omega
theorem tkx_2 (h : p ≤ e) : p ≤ tkX f e (tkX f e p) := by
  have h1 := tkx_le (f := f) h
  have h2 := tkx_le (f := f) h1.2
  omega
theorem tkx_3 (h : p ≤ e) : p ≤ tkX f e (tkX f e (tkX f e p)) := by
  have h1 := tkx_le (f := f) h
  have h2 := tkx_2 (f := f) h1.2
  omega
theorem bd_pos : ∀ (n : Nat) (N : tN) (p cur d : Nat), p ≤ e → bdS f e a n N p cur d = .ok r → p ≤ r.1 := by
  intro n
  induction n with
  | zero =>
    intro N p cur d hp h
    cases h
  | succ n ih =>
    intro N p cur d hp h
    unfold bdS at h
    split at h
    · cases h
      exact Nat.le_refl _
    · cases q : itS f e a N p cur d with
      | error x =>
        rw [q] at h
        cases h
      | ok s =>
        rw [q] at h
        have h1 := tkx_le (f := f) hp
        have := ih s.1 (tkX f e p) s.2.1 s.2.2 h1.2 h
        omega
theorem ln_pos (hp : p ≤ e) (h : lnLine f e p N = .ok r) : p ≤ r.1 := by
  have h1 := (tkx_le (f := f) hp).1
  have h2 := tkx_2 (f := f) hp
  have h3 := tkx_3 (f := f) hp
  have hx := (tkx_le (f := f) hp).2
  unfold lnLine at h
  split at h
  · unfold lnAct at h
    split at h
    · cases h
    · split at h
      · cases h
      · split at h
        · cases h
        · have := bd_pos _ _ _ _ _ (tkx_le (f := f) hx).2 h
          omega
  · split at h
    · unfold lnStrike at h
      split at h
      · cases h
      · split at h
        · cases h
          exact h2
        · cases h
    · split at h
      · unfold lnOut at h
        split at h
        · cases h
        · split at h
          · cases h
          · cases h
            exact h2
      · split at h
        · unfold lnInsert at h
          split at h
          · cases h
          · split at h
            · split at h
              · cases h
                exact h3
              · cases h
            · cases h
        · split at h
          · unfold lnSeal at h
            split at h
            · cases h
            · split at h
              · cases h
              · split at h
                · cases h
                  exact h3
                · cases h
          · split at h
            · unfold lnCancel at h
              split at h
              · cases h
                exact h1
              · cases h
            · split at h
              · unfold lnCopy at h
                split at h
                · cases h
                · split at h
                  · cases h
                  · split at h
                    · cases h
                    · split at h
                      · cases h
                        exact h3
                      · cases h
              · split at h
                · unfold lnShake at h
                  cases h
                  exact h1
                · unfold lnLeaf at h
                  split at h
                  · unfold lnLose at h
                    split at h
                    · cases h
                    · split at h
                      · cases h
                      · cases h
                        exact h2
                  · split at h
                    · unfold lnFind at h
                      split at h
                      · cases h
                      · split at h
                        · cases h
                          exact h2
                        · cases h
                    · split at h
                      · unfold lnSew at h
                        split at h
                        · cases h
                        · split at h
                          · cases h
                            exact h2
                          · cases h
                      · cases h
theorem nw_wf {r t q : Nat} (h1 : 4 ≤ r) (h2 : r < 21) (h3 : t < 5) (h4 : 2 ≤ q) (h5 : q < 5) : WFN (nwN r t q) ∧ nLv (nwN r t q) = 0 ∧ nwN r t q 0 = nI r ∧ nwN r t q 1 = nI t ∧ nwN r t q 2 = nI q ∧ ∀ j, 3 ≤ j → nwN r t q j = 0 := by
  have e0 : nwN r t q 0 = nI r := by
    unfold nwN
    rw [u1_k (by decide), u1_k (by decide), u1_e]
  have e1 : nwN r t q 1 = nI t := by
    unfold nwN
    rw [u1_k (by decide), u1_e]
  have e2 : nwN r t q 2 = nI q := u1_e _ _ _
  have eo : ∀ j, 3 ≤ j → nwN r t q j = 0 := fun j hj => by
    unfold nwN
    rw [u1_k (by omega), u1_k (by omega), u1_k (by omega)]
  generalize nwN r t q = N at *
  have c0 : nRm N = r := nv_n e0 (by omega)
  have c2 : nv N 2 = q := nv_n e2 (by omega)
  have z : ∀ j, 3 ≤ j → nv N j = 0 := fun j hj => nv_n (n := 0) (eo j hj) (by decide)
  have z3 : nAc N = 0 := z 3 (by decide)
  have z4 : nWd N = 0 := z 4 (by decide)
  have z5 : nCl N = 0 := z 5 (by decide)
  have z6 : nCp N = 0 := z 6 (by decide)
  have zl : nLv N = 0 := by
    show (nWd N + nRm N - 1) / nRm N = 0
    rw [z4, c0]
    exact Nat.div_eq_of_lt (by omega)
  refine ⟨⟨⟨⟨isN_n e0 h2 (by decide), by rw [c0]; exact h1⟩, isN_n e1 h3 (by decide), ⟨isN_n e2 h5 (by decide), by rw [c2]; exact h4⟩, isN_n (n := 0) (eo 3 (by decide)) (by decide) (by decide), ⟨isN_n (n := 0) (eo 4 (by decide)) (by decide) (by decide), by rw [z4]; exact Nat.zero_le _⟩, isN_n (n := 0) (eo 5 (by decide)) (by decide) (by decide), isN_n (n := 0) (eo 6 (by decide)) (by decide) (by decide)⟩, ⟨fun _ => ⟨z4, z5⟩, fun a ha => by omega⟩, fun a ha => by omega, ⟨fun g hg => by omega, fun l hl => by omega, fun c hc => by omega⟩⟩, zl, e0, e1, e2, eo⟩
end TXP
