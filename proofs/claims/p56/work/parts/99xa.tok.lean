/-! p56, pure: the text's tokens -/
def ATT (f : Nat → Int32) (e p : Nat) (l : List Nat) : Prop := (∀ k, k < l.length → f (p + k) = nI (l.getD k 0)) ∧ p + l.length = e ∧ ∀ b ∈ l, b < 128
theorem b_t : ∀ b, b < 128 → (ltB (nI b) = decide (97 ≤ b ∧ b ≤ 122) ∧ inR (nI b) (nI 48) (nI 57) = decide (48 ≤ b ∧ b ≤ 57) ∧ (nI b = 32 ↔ b = 32) ∧ (nI b).toNatClampNeg = b) := by decide +kernel
section P56X
variable {f : Nat → Int32} {e p q c : Nat} {l w : List Nat}
theorem at_hd (h : ATT f e p (c :: l)) : f p = nI c ∧ p < e ∧ c < 128 ∧ ATT f e (p + 1) l := by
  obtain ⟨h1, h2, h3⟩ := h
  have h2 : p + (l.length + 1) = e := h2
  refine ⟨h1 0 (Nat.succ_pos _), by omega, h3 c List.mem_cons_self, fun k hk => ?_, by omega, fun b hb => h3 b (List.mem_cons_of_mem _ hb)⟩
  rw [show p + 1 + k = p + (k + 1) by omega]
  exact h1 (k + 1) (Nat.succ_lt_succ hk)
theorem at_ap : ∀ {w : List Nat} {p : Nat}, ATT f e p (w ++ l) → (∀ k, k < w.length → f (p + k) = nI (w.getD k 0)) ∧ p + w.length ≤ e ∧ ATT f e (p + w.length) l
  | [], p, h => ⟨fun k hk => absurd hk (Nat.not_lt_zero _), by have := h.2.1; show p ≤ e; omega, h⟩
  | c :: w, p, h => by
    obtain ⟨h1, h2, h3, h4⟩ := at_hd (c := c) (l := w ++ l) h
    obtain ⟨q1, q2, q3⟩ := at_ap h4
    refine ⟨fun k hk => ?_, by show p + (w.length + 1) ≤ e; omega, by rw [show p + (c :: w).length = p + 1 + w.length by show p + (w.length + 1) = _; omega]; exact q3⟩
    cases k with
    | zero => exact h1
    | succ k =>
      rw [show p + (k + 1) = p + 1 + k by omega]
      exact q1 k (Nat.lt_of_succ_lt_succ hk)
theorem at_le (h : ATT f e p l) : p ≤ e := by have := h.2.1; omega
theorem tk_sm (h : tkS f e p = tkS f e q) : tkX f e p = tkX f e q ∧ tkK f e p = tkK f e q ∧ tkV f e p = tkV f e q := by
  have hx : tkX f e p = tkX f e q := by
    unfold tkX
    rw [h]
  refine ⟨hx, ?_, ?_⟩
  · unfold tkK
    rw [h, hx]
  · unfold tkV
    rw [h, hx]
theorem tk_bl (h : ATT f e p (32 :: l)) : tkS f e p = tkS f e (p + 1) := by
  obtain ⟨h1, h2, h3, h4⟩ := at_hd h
  obtain ⟨r1, r2, r3, r4⟩ := ruE_sp (blB f) (show p + 1 ≤ e from h2)
  symm
  refine ruE_uniq (blB f) (show p ≤ e by omega) (by show p ≤ ruE (blB f) (p + 1) e; omega) r2 (fun k q1 q2 => ?_) r4
  by_cases z : k = p
  · rw [z]
    exact decide_eq_true h1
  · exact r3 k (by omega) q2
theorem tk_nb (h : ATT f e p (c :: l)) (hc : c ≠ 32) : tkS f e p = p := by
  obtain ⟨h1, h2, h3, h4⟩ := at_hd h
  symm
  refine ruE_uniq (blB f) (Nat.le_of_lt h2) (Nat.le_refl _) (Nat.le_of_lt h2) (fun k q1 q2 => absurd q2 (by omega)) (fun _ => ?_)
  refine decide_eq_false (fun q => hc ?_)
  rw [h1] at q
  exact (b_t c h3).2.2.1.1 q
theorem tk_en (h : ATT f e p []) : tkK f e p = 0 ∧ tkX f e p = e := by
  have hp : p = e := h.2.1
  have hs : tkS f e p = e := by
    symm
    exact ruE_uniq (blB f) (by omega) (by omega) (Nat.le_refl _) (fun k q1 q2 => absurd q2 (by omega)) (fun q => absurd q (Nat.lt_irrefl _))
  exact ⟨(tk_0 hs).2, (tk_0 hs).1⟩
/-- a sign -/
theorem tk_si (h : ATT f e p (c :: l)) (hc : c = 40 ∨ c = 41 ∨ c = 59) : tkS f e p = p ∧ tkX f e p = p + 1 ∧ tkK f e p = (if c = 40 then 4 else if c = 41 then 5 else 3) ∧ ATT f e (p + 1) l := by
  obtain ⟨h1, h2, h3, h4⟩ := at_hd h
  have hs := tk_nb h (by omega)
  obtain ⟨b1, b2, -⟩ := b_t c h3
  have z1 : lrB f (tkS f e p) = false := by
    rw [hs]
    show ltB (f p) = false
    rw [h1, b1]
    exact decide_eq_false (by omega)
  have z2 : dgB f (tkS f e p) = false := by
    rw [hs]
    show inR (f p) (nI 48) (nI 57) = false
    rw [h1, b2]
    exact decide_eq_false (by omega)
  obtain ⟨x1, x2⟩ := tk_g (by rw [hs]; omega) z1 z2
  rw [hs] at x1 x2
  refine ⟨hs, x1, ?_, h4⟩
  rw [x2, h1]
  rcases hc with rfl | rfl | rfl <;> decide
/-- a digit -/
theorem tk_di (h : ATT f e p (c :: l)) (hc : 48 ≤ c ∧ c ≤ 57) (hl : ∀ x l', l = x :: l' → ¬ (48 ≤ x ∧ x ≤ 57)) : tkS f e p = p ∧ tkX f e p = p + 1 ∧ tkK f e p = 2 ∧ tkV f e p = c - 48 ∧ ATT f e (p + 1) l := by
  obtain ⟨h1, h2, h3, h4⟩ := at_hd h
  have hs := tk_nb h (by omega)
  obtain ⟨b1, b2, -, b4⟩ := b_t c h3
  have z1 : lrB f (tkS f e p) = false := by
    rw [hs]
    show ltB (f p) = false
    rw [h1, b1]
    exact decide_eq_false (by omega)
  have z2' : dgB f p = true := by
    show inR (f p) (nI 48) (nI 57) = true
    rw [h1, b2]
    exact decide_eq_true hc
  have z2 : dgB f (tkS f e p) = true := by
    rw [hs]
    exact z2'
  obtain ⟨x1, x2⟩ := tk_d (by rw [hs]; omega) z1 z2
  have ex : p + 1 = ruE (dgB f) p e := ruE_uniq (dgB f) (by omega) (by omega) h2 (fun k q1 q2 => by rw [show k = p by omega]; exact z2') (fun q => by
    cases l with
    | nil =>
      have := h4.2.1
      have : p + 1 + 0 = e := this
      omega
    | cons x l' =>
      obtain ⟨g1, g2, g3, g4⟩ := at_hd h4
      show inR (f (p + 1)) (nI 48) (nI 57) = false
      rw [g1, (b_t x g3).2.1]
      exact decide_eq_false (hl x l' rfl))
  rw [hs, ← ex] at x1
  rw [hs, x1, if_pos (by omega)] at x2
  refine ⟨hs, x1, x2, ?_, h4⟩
  unfold tkV dgV
  rw [hs, x1, if_pos (by omega), h1, b4]
/-- a word -/
theorem tk_wo (h : ATT f e p (w ++ l)) (h0 : 0 < w.length) (h8 : w.length ≤ 8) (hw : ∀ b ∈ w, 97 ≤ b ∧ b ≤ 122) (hl : ∀ x l', l = x :: l' → ¬ (97 ≤ x ∧ x ≤ 122)) : tkS f e p = p ∧ tkX f e p = p + w.length ∧ tkK f e p = 1 ∧ (∀ k, k < w.length → f (p + k) = nI (w.getD k 0)) ∧ ATT f e (p + w.length) l := by
  obtain ⟨a1, a2, a3⟩ := at_ap h
  have hb : ∀ k, k < w.length → 97 ≤ w.getD k 0 ∧ w.getD k 0 ≤ 122 := fun k hk => by
    rw [List.getD_eq_getElem?_getD, List.getElem?_eq_getElem hk, Option.getD_some]
    exact hw _ (List.getElem_mem hk)
  have hr : ∀ k, k < w.length → lrB f (p + k) = true := fun k hk => by
    show ltB (f (p + k)) = true
    rw [a1 k hk, (b_t _ (by have := hb k hk; omega)).1]
    exact decide_eq_true (hb k hk)
  have hs : tkS f e p = p := by
    cases w with
    | nil => exact absurd h0 (Nat.lt_irrefl 0)
    | cons c w => exact tk_nb (c := c) (l := w ++ l) h (by have := hw c List.mem_cons_self; omega)
  obtain ⟨x1, x2⟩ := tk_w (f := f) (e := e) (p := p) (by rw [hs]; omega) (by rw [hs]; exact hr 0 h0)
  have ex : p + w.length = ruE (lrB f) p e := ruE_uniq (lrB f) (by omega) (by omega) a2 (fun k q1 q2 => by
    have := hr (k - p) (by omega)
    rw [show p + (k - p) = k by omega] at this
    exact this) (fun q => by
    cases l with
    | nil =>
      have := a3.2.1
      have : p + w.length + 0 = e := this
      omega
    | cons x l' =>
      obtain ⟨g1, g2, g3, g4⟩ := at_hd a3
      show ltB (f (p + w.length)) = false
      rw [g1, (b_t x g3).1]
      exact decide_eq_false (hl x l' rfl))
  rw [hs, ← ex] at x1
  rw [hs, x1, if_pos (by omega)] at x2
  exact ⟨hs, x1, x2, a1, a3⟩
theorem kw_t (h : ATT f e p (w ++ l)) (h0 : 0 < w.length) (h8 : w.length ≤ 8) (hw : ∀ b ∈ w, 97 ≤ b ∧ b ≤ 122) (hl : ∀ x l', l = x :: l' → ¬ (97 ≤ x ∧ x ≤ 122)) (j : Nat) : kw f e p j = decide (byS j = w.map nI) := by
  obtain ⟨h1, h2, h3, h4, -⟩ := tk_wo h h0 h8 hw hl
  have hm : ∀ k, k < w.length → (w.map nI).getD k 0 = nI (w.getD k 0) := fun k hk => by
    rw [List.getD_eq_getElem?_getD, List.getD_eq_getElem?_getD, List.getElem?_map, List.getElem?_eq_getElem hk]
    rfl
  have hq : kw f e p j = true ↔ byS j = w.map nI := by
    unfold kw
    rw [kwB_t, h1, h2, h3, show p + w.length - p = w.length by omega]
    constructor
    · rintro ⟨-, q1, q2⟩
      refine List.ext_getElem (by rw [List.length_map]; exact q1.symm) (fun k k1 k2 => ?_)
      have k3 : k < w.length := by omega
      have e1 := q2 k k1
      rw [h4 k k3, ← hm k k3, List.getD_eq_getElem?_getD, List.getD_eq_getElem?_getD, List.getElem?_eq_getElem k1, List.getElem?_eq_getElem k2] at e1
      exact e1.symm
    · intro q
      rw [q]
      exact ⟨rfl, (List.length_map _).symm, fun k hk => by
        rw [List.length_map] at hk
        rw [h4 k hk, hm k hk]⟩
  cases hk : kw f e p j with
  | true => exact (decide_eq_true (hq.mp hk)).symm
  | false => exact (decide_eq_false (fun q => by rw [hq.mpr q] at hk; cases hk)).symm
end P56X
