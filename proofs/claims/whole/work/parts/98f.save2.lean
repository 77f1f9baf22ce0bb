/-! THE PURE LEVEL, 64: SAVE, whole -/
def savF (N : tN) (k : Nat) (f : Nat → Int32) : Nat → Int32 := fun j => if k * 6139 ≤ j ∧ j < k * 6139 + 6139 then N (0 + (j - k * 6139)) else f j
section SAV2
variable {σ : HpT} {G : Nat → Nat → Int32} {J : Nat → Nat → Int64} {b bs ps tx k : Nat} {P : Nat → Option Nat} {E : tE} {I T : tI} {N : Nat → Int32} {U : tU} {V : tV}
theorem m_save0 (hM : MR σ G E I N U V T) (hA : AW E I N U V T) (v : Int32) (h : (decide (E.1 ≠ 0) && inR v 0 1) = false) : fX10_save (some 80) v (wi σ G) = some (0, wi σ (up G 80 0 (thr (decide (E.1 ≠ 0)) (inR v 0 1) true))) := by
  have mk := hM.1
  have f6 := hM.2.1.1
  unfold fX10_save fX10_isSlot
  rw [mk_o mk, bnP_1, mk_I mk, bnP_1, m_in, bnP_1, bnP_1, m_may2 mk (by rw [f6]; exact hA.1.1), bnS_1, f6, h]
  rfl
theorem m_save1 (hM : MR σ G E I N U V T) (hA : AW E I N U V T) (hE : E.1 ≠ 0) (hk : k < 2) : fX10_save (some 80) (nI k) (wi σ G) = some (N 3, wi σ (up (cw (up G 80 0 0) 84 (savF N k (G 84))) 85 k 1)) := by
  have mk := hM.1
  have f6 := hM.2.1.1
  have f81 := hM.2.2.2.1.1
  have kz : inR (nI k) 0 1 = true := by
    have : k = 0 ∨ k = 1 := by omega
    rcases this with rfl | rfl <;> decide
  obtain ⟨f1, e1, k1⟩ := m_lays (σ := σ) (G := up G 80 0 0) (x := 81) (y := 84) (p := 0) (q := k * 6139) mk.2.2.1.1 mk.2.2.1.2.2.2.1 (by have := mk.1; omega) (by have := mk.1; omega) mk.2.2.2.1.1 mk.2.2.2.1.2.2.2.1 (by decide) (by decide) (by omega) (by decide) (by decide)
  have q1 : f1 = savF N k (G 84) := by
    rw [funext k1, up_a (by decide), up_a (by decide), f81]
    rfl
  rw [q1] at e1
  unfold fX10_save fX10_isSlot
  rw [mk_o mk, bnP_1, mk_I mk, bnP_1, m_in, bnP_1, bnP_1, m_may2 mk (by rw [f6]; exact hA.1.1), bnS_1, f6, kz, decide_eq_true hE, if_pos (show (true && true) = true from rfl), mk_r1 mk, bnP_1, mk_r4 mk, bnP_1, show nI k * 6139 = nI (k * 6139) from pk_mul k 6139, show fX10_lays (some (80 + 1)) 0 (some (80 + 4)) (nI (k * 6139)) (wi σ (up G 80 0 (thr true true true))) = _ from e1, bnP_1, mk_r5 mk, bnP_1, mk_s5 mk hk, bnP_1, mk_r1 mk, bnP_1, show aI (wi σ (up (cw (up G 80 0 0) 84 (savF N k (G 84))) (80 + 5) k (vp_nar .boolean 1))) (some (80 + 1)) 20 3 = _ from mk_a1 mk (n := 3) (by decide), bnP_1, up_a (by decide), cw_b (by decide), up_a (by decide), show G (80 + 1) = N from f81]
  rfl
theorem mr_save (hM : MR σ G E I N U V T) (hk : k < 2) : MR σ (up (cw (up G 80 0 0) 84 (savF N k (G 84))) 85 k 1) E I N U (savV V k N) T := by
  obtain ⟨mk, ⟨e1, e2, e3⟩, ⟨i1, i2⟩, ⟨n1, n2⟩, ⟨u1, u2⟩, hV, ⟨t1, t2⟩⟩ := hM
  have o : ∀ j, j ≠ 0 → up (cw (up G 80 0 0) 84 (savF N k (G 84))) 85 k 1 80 j = G 80 j := fun j hj => by rw [up_a (by decide), cw_b (by decide), up_k hj]
  have g : ∀ a, a ≠ 80 → a ≠ 84 → a ≠ 85 → up (cw (up G 80 0 0) 84 (savF N k (G 84))) 85 k 1 a = G a := fun a h1 h2 h3 => by rw [up_a h3, cw_b h2, up_a h1]
  refine ⟨mk, ⟨by rw [o 6 (by decide)]; exact e1, by rw [o 10 (by decide)]; exact e2, by rw [o 11 (by decide)]; exact e3⟩, ⟨by rw [o 9 (by decide)]; exact i1, by rw [g 86 (by decide) (by decide) (by decide)]; exact i2⟩, ⟨by rw [g 81 (by decide) (by decide) (by decide)]; exact n1, n2⟩, ⟨by rw [o 7 (by decide)]; exact u1, by rw [g 83 (by decide) (by decide) (by decide)]; exact u2⟩, fun n hn => ⟨?_, fun e => ?_⟩, ⟨by rw [o 23 (by decide)]; exact t1, by rw [g 88 (by decide) (by decide) (by decide)]; exact t2⟩⟩
  · show _ = bI (if n = k then true else V.1 n)
    by_cases z : n = k
    · rw [z, up_eq, if_pos rfl]
      rfl
    · rw [up_k z, if_neg z, cw_b (by decide), up_a (by decide)]
      exact (hV n hn).1
  · show (if n = k then N else V.2 n) = _
    rw [up_a (by decide), cw_a]
    by_cases z : n = k
    · rw [if_pos z, z]
      refine rwN_of n2 fun j hj => ?_
      unfold savF
      rw [if_pos (by omega)]
      congr 1
      omega
    · rw [if_neg z]
      have e' : V.1 n = true := by
        have e2 : (if n = k then true else V.1 n) = true := e
        rw [if_neg z] at e2
        exact e2
      rw [(hV n hn).2 e']
      refine rwN_of (rwN_z _ _) fun j hj => ?_
      unfold savF rwN
      rw [if_neg (by omega), if_pos hj]
end SAV2
