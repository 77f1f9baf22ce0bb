/-! THE PURE LEVEL, 66: RESTORE, the reference -/
section RST
variable {σ : HpT} {G : Nat → Nat → Int32} {J : Nat → Nat → Int64} {b bs ps tx k : Nat} {P : Nat → Option Nat} {E : tE} {I T : tI} {N : Nat → Int32} {U : tU} {V : tV}
theorem m_restore1 (hM : MR σ G E I N U V T) (hk : k < 2) (hv : V.1 k = true) : fX10_restore (some 80) (nI k) (wi σ G) = some (V.2 k 3, wi σ (up (cw (up G 80 0 0) 81 (V.2 k)) 80 7 0)) := by
  have mk := hM.1
  have n2 := hM.2.2.2.1.2
  have f81 := hM.2.2.2.1.1
  obtain ⟨v1, v2⟩ := hM.2.2.2.2.2.1 k hk
  have v2 := v2 hv
  rw [hv] at v1
  have kz : inR (nI k) 0 1 = true := by
    have : k = 0 ∨ k = 1 := by omega
    rcases this with rfl | rfl <;> decide
  obtain ⟨f1, e1, k1⟩ := m_lays (σ := σ) (G := up G 80 0 0) (x := 84) (y := 81) (p := k * 6139) (q := 0) mk.2.2.1.2.2.2.1 mk.2.2.1.1 (by have := mk.1; omega) (by have := mk.1; omega) mk.2.2.2.1.2.2.2.1 mk.2.2.2.1.1 (by decide) (by omega) (by decide) (by decide) (by decide)
  have q1 : f1 = V.2 k := by
    rw [v2, funext k1, up_a (by decide), up_a (by decide), f81]
    funext j
    unfold rwN
    by_cases z : j < 6139
    · rw [if_pos (by omega), if_pos z]
      congr 1
      omega
    · rw [if_neg (by omega), if_neg z]
      exact n2 j (by omega)
  rw [q1] at e1
  unfold fX10_restore fX10_isSlot
  rw [mk_o mk, bnP_1, m_in, bnP_1, bnP_1, kz, if_pos rfl, mk_r5 mk, bnP_1, mk_a5 mk hk, bnP_1, show G (80 + 5) k = bI true from v1, if_neg (show ¬ bI true = 0 by decide), bnP_1]
  dsimp only
  rw [show (1 : Int32) = bI true from rfl, m_mayTwo mk, bnS_1, if_pos (show (true && true) = true from rfl), mk_r4 mk, bnP_1, mk_r1 mk, bnP_1, show nI k * 6139 = nI (k * 6139) from pk_mul k 6139, show fX10_lays (some (80 + 4)) (nI (k * 6139)) (some (80 + 1)) 0 (wi σ (up G 80 0 (thr true true true))) = _ from e1, bnP_1, mk_P mk, bnP_1, mk_r1 mk, bnP_1, show aI (wi σ (up (cw (up G 80 0 0) 81 (V.2 k)) 80 7 0)) (some (80 + 1)) 20 3 = _ from mk_a1 mk (n := 3) (by decide), bnP_1, up_a (by decide), show cw (up G 80 0 0) 81 (V.2 k) (80 + 1) = V.2 k from cw_a _ _ _]
end RST
