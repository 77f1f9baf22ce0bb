/-! THE PURE LEVEL, 39: rows with the same acts, words and clauses -/
def SM (N N' : Nat → Int32) : Prop := (∀ k, k < 6 → N' k = N k) ∧ (∀ a, a < nAc N → ∀ k, k = 0 ∨ 5 ≤ k ∧ k < 9 → N' (9 + 9 * a + k) = N (9 + 9 * a + k)) ∧ (∀ g, g < nWd N → N' (127 + 13 * g + 3) = N (127 + 13 * g + 3)) ∧ ∀ j, 3247 ≤ j → N' j = N j
section SM
variable {N N' : Nat → Int32}
theorem isN_eq {k B : Nat} (h : N' k = N k) : isN N' k B ↔ isN N k B := by
  unfold isN
  rw [show nv N' k = nv N k from congrArg Int32.toNatClampNeg h, h]
theorem sm_a (s : SM N N') {a : Nat} (ha : a < nAc N) : aF N' a = aF N a ∧ aM N' a = aM N a ∧ aK N' a = aK N a ∧ aC N' a = aC N a := ⟨congrArg Int32.toNatClampNeg (s.2.1 a ha 5 (by omega)), congrArg Int32.toNatClampNeg (s.2.1 a ha 6 (by omega)), congrArg Int32.toNatClampNeg (s.2.1 a ha 7 (by omega)), congrArg Int32.toNatClampNeg (s.2.1 a ha 8 (by omega))⟩
theorem sm_n (s : SM N N') : nRm N' = nRm N ∧ nAc N' = nAc N ∧ nWd N' = nWd N ∧ nCl N' = nCl N ∧ nLv N' = nLv N ∧ nv N' 2 = nv N 2 := by
  have e0 : nRm N' = nRm N := congrArg Int32.toNatClampNeg (s.1 0 (by decide))
  have e4 : nWd N' = nWd N := congrArg Int32.toNatClampNeg (s.1 4 (by decide))
  refine ⟨e0, congrArg Int32.toNatClampNeg (s.1 3 (by decide)), e4, congrArg Int32.toNatClampNeg (s.1 5 (by decide)), ?_, congrArg Int32.toNatClampNeg (s.1 2 (by decide))⟩
  show (nWd N' + nRm N' - 1) / nRm N' = (nWd N + nRm N - 1) / nRm N
  rw [e0, e4]
theorem sm_c (s : SM N N') : cF N' = cF N ∧ cT N' = cT N ∧ cA N' = cA N := ⟨funext fun c => congrArg Int32.toNatClampNeg (s.2.2.2 _ (by omega)), funext fun c => congrArg Int32.toNatClampNeg (s.2.2.2 _ (by omega)), funext fun c => congrArg Int32.toNatClampNeg (s.2.2.2 _ (by omega))⟩
theorem sm_1 (s : SM N N') (w : W1 N) (h : isN N' 6 9) : W1 N' := by
  have n := sm_n s
  obtain ⟨⟨a1, a2⟩, b, ⟨c1, c2⟩, d, ⟨e1, e2⟩, f, -⟩ := w
  refine ⟨⟨(isN_eq (s.1 0 (by decide))).mpr a1, by rw [n.1]; exact a2⟩, (isN_eq (s.1 1 (by decide))).mpr b, ⟨(isN_eq (s.1 2 (by decide))).mpr c1, by rw [n.2.2.2.2.2]; exact c2⟩, (isN_eq (s.1 3 (by decide))).mpr d, ⟨(isN_eq (s.1 4 (by decide))).mpr e1, by rw [n.1, n.2.2.1]; exact e2⟩, (isN_eq (s.1 5 (by decide))).mpr f, h⟩
theorem sm_2 (s : SM N N') (w : W2 N) (h : ∀ a, a < nAc N → isN N' (9 + 9 * a + 1) 3 ∧ (a + 1 < nAc N → nv N' (9 + 9 * a + 1) ≠ 0)) : W2 N' := by
  have n := sm_n s
  refine ⟨fun q => ?_, fun a ha => ?_⟩
  · rw [n.2.1] at q
    rw [n.2.2.1, n.2.2.2.1]
    exact w.1 q
  · rw [n.2.1] at ha
    have e := sm_a s ha
    obtain ⟨⟨a1, a2⟩, ⟨b1, b2, b3, b4⟩, c, d1, d2, d3⟩ := w.2 a ha
    refine ⟨⟨(isN_eq (s.2.1 a ha 0 (by omega))).mpr a1, (h a ha).1⟩, ⟨(isN_eq (s.2.1 a ha 5 (by omega))).mpr b1, (isN_eq (s.2.1 a ha 6 (by omega))).mpr b2, (isN_eq (s.2.1 a ha 7 (by omega))).mpr b3, (isN_eq (s.2.1 a ha 8 (by omega))).mpr b4⟩, by rw [e.2.1]; exact c, fun q => ?_, fun q => ?_, fun q => ?_⟩
    · rw [e.1, e.2.2.1]
      exact d1 q
    · rw [n.2.1] at q
      have e2 := sm_a s q
      rw [e.1, e.2.1, e.2.2.1, e.2.2.2, e2.1, e2.2.2.1]
      exact ⟨(d2 q).1, (d2 q).2.1, (h a ha).2 q⟩
    · rw [n.2.1] at q
      rw [e.1, e.2.1, e.2.2.1, e.2.2.2, n.2.2.1, n.2.2.2.1]
      exact d3 q
theorem sm_3 (s : SM N N') (w1 : W1 N) (w2 : W2 N) (w : W3 N) : W3 N' := by
  have n := sm_n s
  have c := sm_c s
  intro a ha
  rw [n.2.1] at ha
  have e := sm_a s ha
  have hl := act_le w1 w2 ha
  rw [e.1, e.2.1, e.2.2.1, e.2.2.2, c.1, c.2.1, c.2.2]
  obtain ⟨h1, h2⟩ := w a ha
  refine ⟨fun d p1 p2 => ?_, fun g p1 p2 => ?_⟩
  · obtain ⟨i1, i2, i3, i4⟩ := h1 d p1 p2
    exact ⟨(isN_eq (s.2.2.2 _ (by omega))).mpr i1, (isN_eq (s.2.2.2 _ (by omega))).mpr i2, (isN_eq (s.2.2.2 _ (by omega))).mpr i3, i4⟩
  · obtain ⟨i1, i2⟩ := h2 g p1 p2
    have q := s.2.2.1 g (by omega)
    rw [show wW N' g = wW N g from congrArg Int32.toNatClampNeg q]
    exact ⟨(isN_eq q).mpr i1, i2⟩
theorem fsN_cg {f n : Nat} (h : ∀ k, k < n → N' (127 + 13 * (f + k) + 2) = N (127 + 13 * (f + k) + 2)) : fsN N' f n = fsN N f n := by
  induction n with
  | zero => rfl
  | succ n ih =>
    have e : skN N' (f + n) = skN N (f + n) := by
      unfold skN
      rw [h n (by omega)]
    show (if skN N' (f + n) = true then (match fsN N' f n with | none => some (f + n, f + n) | some (x, _) => some (x, f + n)) else fsN N' f n) = (if skN N (f + n) = true then (match fsN N f n with | none => some (f + n, f + n) | some (x, _) => some (x, f + n)) else fsN N f n)
    rw [ih (fun k hk => h k (by omega)), e]
/-- the copies stay: their acts' words stay -/
theorem rc_cg {G G' : Nat → Nat → Int32} {b : Nat} (s : SM N N') (hw : WFN N) (hc : ∀ c, c < nCp N → N' (111 + 2 * c) = N (111 + 2 * c) ∧ N' (111 + 2 * c + 1) = N (111 + 2 * c + 1) ∧ (∀ k, k < 5 → G' (b + 25 + c) k = G (b + 25 + c) k) ∧ ∀ g, aF N (oO N c) ≤ g → g < aF N (oO N c) + aM N (oO N c) → N' (127 + 13 * g + 2) = N (127 + 13 * g + 2) ∧ N' (127 + 13 * g + 4) = N (127 + 13 * g + 4)) (h6 : nCp N' = nCp N) (r : RC G b N) : RC G' b N' := by
  intro c hcc
  rw [h6] at hcc
  obtain ⟨e0, e1, eg, ew⟩ := hc c hcc
  have o0 : oO N' c = oO N c := congrArg Int32.toNatClampNeg e0
  have o1 : oG N' c = oG N c := congrArg Int32.toNatClampNeg e1
  have ho := (w4_c hw.2.2.2 hcc).1.1
  have ea := sm_a s ho
  have ef : fsN N' (aF N (oO N c)) (aM N (oO N c)) = fsN N (aF N (oO N c)) (aM N (oO N c)) := fsN_cg fun k hk => (ew _ (by omega) (by omega)).1
  obtain ⟨r1, r2, r3, r4⟩ := r c hcc
  rw [o0, o1, ea.1, ea.2.1, ef, e1, eg 0 (by decide), eg 1 (by decide), eg 2 (by decide), eg 3 (by decide), eg 4 (by decide)]
  refine ⟨r1, r2, r3, ?_⟩
  rw [r4]
  refine sumI_cong fun k hk => ?_
  have q := ew (aF N (oO N c) + k) (by omega) (by omega)
  have hbq : hbN N' (aF N (oO N c)) (aM N (oO N c)) (oG N c) (aF N (oO N c) + k) = hbN N (aF N (oO N c)) (aM N (oO N c)) (oG N c) (aF N (oO N c) + k) := by
    unfold hbN fstS lstS skN
    rw [ef, q.1]
  rw [hbq, q.2]
/-- a copy's act is not the open one -/
theorem cp_no (hw : WFN N) (q : isO N) {c : Nat} (hc : c < nCp N) : oO N c + 1 < nAc N := by
  have h := (hw.2.2.2.2.2 c hc)
  have ho := h.2.1
  have h1 : N (9 + 9 * oO N c + 1) = 1 := h.2.2.2
  by_cases z : oO N c + 1 = nAc N
  · have h2 := q.2
    rw [show nAc N - 1 = oO N c by omega, h1] at h2
    cases h2
  · omega
theorem act_ap (w1 : W1 N) (w2 : W2 N) {a c : Nat} (h : a < c) (hc : c < nAc N) : aF N a + aM N a ≤ aF N c := by
  induction c with
  | zero => exact absurd h (Nat.not_lt_zero _)
  | succ c ih =>
    have e := (act_ok w1 w2 (a := c) (by omega)).2.1 hc
    rcases Nat.lt_or_ge a c with z | z
    · have := ih z (by omega)
      omega
    · obtain rfl : a = c := by omega
      omega
end SM
