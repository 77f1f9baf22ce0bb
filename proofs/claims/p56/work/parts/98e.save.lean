/-! THE PURE LEVEL, 63: SAVE, the class -/
def savV (V : tV) (k : Nat) (N : tN) : tV := (fun i => if i = k then true else V.1 i, fun i => if i = k then N else V.2 i)
section SAV
variable {σ : HpT} {G : Nat → Nat → Int32} {J : Nat → Nat → Int64} {b bs ps tx k : Nat} {P : Nat → Option Nat} {E : tE} {I T : tI} {N : Nat → Int32} {U : tU} {V : tV}
theorem c_requireSlot (v : Int32) : fX9_requireSlot v σ = some (if inR v 0 1 = true then .ok () else .error 1) := by
  unfold fX9_requireSlot inR
  by_cases h1 : v < 0
  · rw [if_pos h1, decide_eq_false (Int32.not_le.mpr h1)]
    rfl
  · obtain ⟨i, hi, rfl⟩ := nI_of h1
    rw [if_neg h1, decide_eq_true (Int32.not_lt.mp h1), Bool.true_and]
    by_cases h2 : i < 2
    · rw [if_pos (show nI i < 2 from nI_lt (b := 2) h2 (by decide)), decide_eq_true (show nI i ≤ 1 from nI_le (b := 1) (by omega) (by decide)), if_pos rfl]
    · rw [if_neg (show ¬ nI i < 2 from nI_nlt (a := i) (b := 2) (by omega) hi), decide_eq_false (show ¬ nI i ≤ 1 from nI_ge (a := 1) (by omega) hi), if_neg (by decide)]
theorem c_save (hC : CR σ G J b bs ps P tx E I N U V T) (hA : AW E I N U V T) (hE : E.1 ≠ 0) (hb : hN σ + 40 < BIG) (hk : k < 2) : ∃ σ' G' J' P' i j, fX9_save (some 0) (nI k) (wc σ G J) = some (.ok (N 3), wc σ' G' J', i, j) ∧ CR σ' G' J' b bs ps P' tx E I N U (savV V k N) T ∧ EXM σ σ' G G' J J' ∧ i ≤ 33 ∧ j ≤ 2354 ∧ WX σ J J' := by
  obtain ⟨σ', G', J', x, i, j, P', e2, hC2, hx, hX, hi, hj, hW⟩ := c_rowAt hC hA hb (ra := 72) (Or.inr ⟨rfl, rfl, rfl⟩) hk
  have nk := cr_nk hC
  have nk2 := cr_nk hC2
  have e4 := hC.2.1.1
  have pb2 := hC2.1.2.2.2.2.2
  have ck2 := hC2.1.1
  have c3 := hC2.1.2.2.2.1
  have u2 := hC2.2.2.2.2.1
  have hbx : b + 33 ≤ x ∨ x + 33 ≤ b := pb2.2.1 0 _ b x (by omega) (by omega) c3 hx
  obtain ⟨G2, J2, e3, g3, j3, r3⟩ := c_take (pb2.1 0 b (by decide) c3).1 (pb2.1 _ x (by omega) hx).1 (hA.2.1 hE) (hC2.2.2.2.1 hE) hbx
  have ht := ck2.2.2.2.2.2.2.2.2.1
  have hn2 := ck2.1.1
  have lo : ∀ a, a < 2 ∨ 68 ≤ a ∧ a < 91 ∨ a = tx → G2 a = G' a := fun a ha => g3 a (pb_lo pb2 (by omega) hx ht ha)
  have loJ : ∀ a, a < 2 ∨ 68 ≤ a ∧ a < 91 ∨ a = tx → J2 a = J' a := fun a ha => j3 a (pb_lo pb2 (by omega) hx ht ha)
  have hx2 := (pb2.1 _ x (by omega) hx).2.1
  have hb2 := cr_b hC2
  have rbx : ∀ i y M, i < 12 → P' i = some y → i ≠ 10 + k → W1 M → RB G' J' y M → RB (up G2 73 k 1) J2 y M := fun i y M hi hy hne w1 r => rb_same pb2 w1 hi hy (fun a h1 h2 => up_a (by have := (pb2.1 _ y hi hy).2.1; omega)) (fun _ _ _ => rfl) (rb_oth pb2 w1 (by omega) hx hi hy hne (fun a _ h => g3 a h) j3 r)
  have g : ∀ a, (a < 2 ∨ 68 ≤ a ∧ a < 91 ∨ a = tx) → a ≠ 73 → up G2 73 k 1 a = G' a := fun a h1 h2 => by rw [up_a h2, lo a h1]
  have kz : inR (nI k) 0 1 = true := by
    have : k = 0 ∨ k = 1 := by omega
    rcases this with rfl | rfl <;> decide
  have r2 := hC2.2.2.2.1 hE
  obtain ⟨q, ⟨e1, e2', e3'⟩, ⟨i1, i2⟩, hN, ⟨u1, u2', u3, u4⟩, hV, ⟨t1, t2, t3, t4⟩⟩ := hC2
  refine ⟨σ', up G2 73 k 1, J2, P', i, j, ?_, ⟨q, ⟨?_, ?_, ?_⟩, ⟨?_, fun n hn => ?_⟩, fun e => rbx 0 b N (by decide) c3 (by omega) (hA.2.1 e).1 (hN e), ⟨?_, ?_, u3, fun n hn => ?_⟩, fun n hn => ⟨?_, fun e => ?_⟩, ⟨?_, ?_, t3, fun n hn => ?_⟩⟩, ⟨hX.1, hX.2.1, fun a h1 h2 => ?_⟩, hi, hj, fun a q1 q2 q3 => (j3 a (bk_out (pb2.1 _ x (by omega) hx).1 (by rw [(hX.2.1 a q1).1]; exact q2) (by rw [(hX.2.1 a q1).2.1]; exact q3))).trans (hW a q1 q2 q3)⟩
  · unfold fX9_save
    rw [nk_o nk, bnP_1, c_requireBook nk, if_neg (by rw [e4]; exact hE), bnXA_1, c_requireSlot, kz, if_pos rfl, bnXA_1, gR_c hC.1.1.1.2.1 hC.1.1.2.1.2.2.1, bnP_1, e2, bnA_ok, nk_b nk2, bnP_1, e3, bnP_1, gR_c ck2.1.2.1 ck2.2.1.2.2.2.1, bnP_1, sZ_c (z := 2) ck2.2.2.2.1.2.2.2.2.1 (by omega) ck2.2.2.2.1.2.2.2.2.2 hk (by decide), bnP_1, nk_b nk2, bnP_1, bk_I (nk_B nk2), bnP_1, up_a (by omega), g3 b (by omega), r2.1.2.2.1, addC_1]
    rfl
  · rw [g 0 (by omega) (by decide)]
    exact e1
  · rw [g 0 (by omega) (by decide)]
    exact e2'
  · rw [g 0 (by omega) (by decide)]
    exact e3'
  · rw [g 0 (by omega) (by decide)]
    exact i1
  · rw [g 1 (by omega) (by decide)]
    exact i2 n hn
  · rw [g 0 (by omega) (by decide)]
    exact u1
  · rw [g 0 (by omega) (by decide)]
    exact u2'
  · obtain ⟨y, hy, ry⟩ := u4 n hn
    have hm := Nat.mod_lt (ps + n) (show 0 < 8 by decide)
    exact ⟨y, hy, rbx _ y _ (by omega) hy (by omega) (hA.2.2.1 n hn).1 ry⟩
  · show _ = bI (if n = k then true else V.1 n)
    by_cases z : n = k
    · rw [z, up_eq, if_pos rfl]
      rfl
    · rw [up_k z, if_neg z, lo 73 (by omega)]
      exact (hV n hn).1
  · show ∃ y, P' (10 + n) = some y ∧ RB (up G2 73 k 1) J2 y (if n = k then N else V.2 n)
    by_cases z : n = k
    · rw [if_pos z, z]
      exact ⟨x, hx, rb_same pb2 (hA.2.1 hE).1 (by omega) hx (fun a h1 h2 => up_a (by omega)) (fun _ _ _ => rfl) r3⟩
    · rw [if_neg z]
      have e' : V.1 n = true := by
        have e2 : (if n = k then true else V.1 n) = true := e
        rw [if_neg z] at e2
        exact e2
      obtain ⟨y, hy, ry⟩ := (hV n hn).2 e'
      exact ⟨y, hy, rbx _ y _ (by omega) hy (by omega) (hA.2.2.2 n hn e').1 ry⟩
  · rw [g 78 (by omega) (by decide)]
    exact t1
  · rw [g 78 (by omega) (by decide)]
    exact t2
  · rw [g tx (by omega) (by omega)]
    exact t4 n hn
  · have q := hX.2.2 a h1 h2
    rw [up_a (by omega), lo a (by omega), loJ a (by omega)]
    exact q
end SAV
