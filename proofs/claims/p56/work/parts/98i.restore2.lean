/-! THE PURE LEVEL, 67: RESTORE, the class -/
section RST2
variable {σ : HpT} {G : Nat → Nat → Int32} {J : Nat → Nat → Int64} {b bs ps tx k : Nat} {P : Nat → Option Nat} {E : tE} {I T : tI} {N : Nat → Int32} {U : tU} {V : tV}
theorem c_restore (hC : CR σ G J b bs ps P tx E I N U V T) (hA : AW E I N U V T) (hb : hN σ + 40 < BIG) (hk : k < 2) (hv : V.1 k = true) : ∃ σ' G' J' P' i j, fX9_restore (some 0) (nI k) (wc σ G J) = some (.ok (V.2 k 3), wc σ' G' J', i, j) ∧ CR σ' G' J' b bs 0 P' tx E I (V.2 k) (0, U.2) V T ∧ EXM σ σ' G G' J J' ∧ i ≤ 33 ∧ j ≤ 2354 ∧ WX σ J J' := by
  obtain ⟨σ', G', J', x, i, j, P', e2, hC2, hx, hX, hi, hj, hW⟩ := c_rowAt hC hA hb (ra := 72) (Or.inr ⟨rfl, rfl, rfl⟩) hk
  have nk := cr_nk hC
  have nk2 := cr_nk hC2
  have pb2 := hC2.1.2.2.2.2.2
  have ck := hC.1.1
  have ck2 := hC2.1.1
  have c3 := hC2.1.2.2.2.1
  have hn2 := ck2.1.1
  obtain ⟨y, hy, ry⟩ := (hC2.2.2.2.2.2.1 k hk).2 hv
  rw [hx] at hy
  cases hy
  have hw := hA.2.2.2 k hk hv
  have hbx : b + 33 ≤ x ∨ x + 33 ≤ b := pb2.2.1 0 _ b x (by omega) (by omega) c3 hx
  obtain ⟨G2, J2, e3, g3, j3, r3⟩ := c_take (pb2.1 _ x (by omega) hx).1 (pb2.1 0 b (by decide) c3).1 hw ry hbx.symm
  have ht := ck2.2.2.2.2.2.2.2.2.1
  have lo : ∀ a, a < 2 ∨ 68 ≤ a ∧ a < 91 ∨ a = tx → G2 a = G' a := fun a ha => g3 a (pb_lo pb2 (by omega) c3 ht ha)
  have loJ : ∀ a, a < 2 ∨ 68 ≤ a ∧ a < 91 ∨ a = tx → J2 a = J' a := fun a ha => j3 a (pb_lo pb2 (by omega) c3 ht ha)
  have hb2 := cr_b hC2
  have kz : inR (nI k) 0 1 = true := by
    have : k = 0 ∨ k = 1 := by omega
    rcases this with rfl | rfl <;> decide
  have v1 := (hC.2.2.2.2.2.1 k hk).1
  rw [hv] at v1
  refine ⟨σ', up (up G2 0 9 0) 0 10 0, J2, P', i, j, ?_, cr_new hC2 (fun n hn => ?_) (fun a ha => ?_) (fun _ => ?_) ⟨up_eq _ _ _ _, ?_, by decide, fun n hn => absurd hn (Nat.not_lt_zero n)⟩ (fun n hn e => ?_), ⟨hX.1, hX.2.1, fun a h1 h2 => ?_⟩, hi, hj, fun a q1 q2 q3 => (j3 a (bk_out (pb2.1 _ b (by omega) c3).1 (by rw [(hX.2.1 a q1).1]; exact q2) (by rw [(hX.2.1 a q1).2.1]; exact q3))).trans (hW a q1 q2 q3)⟩
  · unfold fX9_restore fX9_forgetPast
    rw [nk_o nk, bnP_1, c_requireSlot, kz, if_pos rfl, bnXA_1, gR_c ck.1.2.1 ck.2.1.2.2.2.1, bnP_1, aI_c (z := 2) ck.2.2.2.1.2.2.2.2.1 (by have := ck.1.1; omega) ck.2.2.2.1.2.2.2.2.2 hk (by decide), bnP_1, v1, if_neg (show ¬ bI true = 0 by decide), nk_b nk, bnP_1, gR_c ck.1.2.1 ck.2.1.2.2.1, bnP_1, e2, bnA_ok, e3, bnP_1, nk_o nk2, bnP_1, cr_P hC2, bnP_1, cr_P hC2, bnP_1, bnP_1, nk_b nk2, bnP_1, bk_I (nk_B nk2), bnP_1, up_a (by omega), up_a (by omega), r3.1.2.2.1, addC_1]
    rfl
  · rw [up_k (by omega), up_k (by omega), lo 0 (by omega)]
  · rw [up_a (by omega), up_a (by omega), lo a (by omega)]
  · exact rb_same pb2 hw.1 (by decide) c3 (fun a h1 h2 => by rw [up_a (by omega), up_a (by omega)]) (fun _ _ _ => rfl) r3
  · rw [up_k (by decide), up_eq]
    rfl
  · obtain ⟨z, hz, rz⟩ := (hC2.2.2.2.2.2.1 n hn).2 e
    have w1 := (hA.2.2.2 n hn e).1
    exact ⟨z, hz, rb_same pb2 w1 (by omega) hz (fun a h1 h2 => by
      have := (pb2.1 _ z (by omega) hz).2.1
      rw [up_a (by omega), up_a (by omega)]) (fun _ _ _ => rfl) (rb_oth pb2 w1 (by decide) c3 (by omega) hz (by omega) (fun a _ h => g3 a h) j3 rz)⟩
  · have q := hX.2.2 a h1 h2
    rw [up_a (by omega), up_a (by omega), lo a (by omega), loJ a (by omega)]
    exact q
end RST2
