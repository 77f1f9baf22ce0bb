/-! THE PURE LEVEL, 71: BURN -/
def brK (N : Nat → Int32) (c k : Nat) : Nat → Int32 := fun j => if j = 8 then N 8 + (3 - nI (oG N c)) else if 111 + 2 * c ≤ j ∧ j < 111 + 2 * c + k then N (j + 2) else N j
def brN (N : Nat → Int32) (c : Nat) : Nat → Int32 := fun j => if j = 6 then N 6 - 1 else if j = 8 then N 8 + (3 - nI (oG N c)) else if 111 + 2 * c ≤ j ∧ j < 111 + 2 * (nCp N - 1) then N (j + 2) else N j
section BRN
variable {σ : HpT} {G G2 : Nat → Nat → Int32} {J : Nat → Nat → Int64} {b bs ps tx c : Nat} {P : Nat → Option Nat} {E : tE} {I T : tI} {N : Nat → Int32} {U : tU} {V : tV}
theorem br_o {j : Nat} (h6 : j ≠ 6) (h8 : j ≠ 8) (h : ¬ (111 + 2 * c ≤ j ∧ j < 111 + 2 * (nCp N - 1))) : brN N c j = N j := by
  unfold brN
  rw [if_neg h6, if_neg h8, if_neg h]
theorem br_cc (hw : WFN N) : CC N (brN N c) := by
  have hb := w1_b hw.1
  exact fun j h6 h7 h8 h => br_o h6 h8 (by omega)
theorem br_6 (hw : WFN N) (hc : c < nCp N) : brN N c 6 = nI (nCp N - 1) ∧ nCp (brN N c) = nCp N - 1 := by
  have hb := w1_b hw.1
  have e : brN N c 6 = nI (nCp N - 1) := by
    show N 6 - 1 = _
    rw [(w1_e hw.1).2.2.2.2, nI_m1 (by omega)]
  refine ⟨e, ?_⟩
  show (brN N c 6).toNatClampNeg = _
  rw [e, nI_clamp (by omega)]
theorem br_cp (hw : WFN N) {k : Nat} (hk : k < nCp N - 1) : ∀ i, i < 2 → brN N c (111 + 2 * k + i) = N (111 + 2 * (if k < c then k else k + 1) + i) := by
  have hb := w1_b hw.1
  intro i hi
  unfold brN
  rw [if_neg (by omega), if_neg (by omega)]
  by_cases z : k < c
  · rw [if_neg (by omega), if_pos z]
  · rw [if_pos (by omega), if_neg z]
    congr 1
    omega
theorem br_s (hw : WFN N) (hc : c < nCp N) {k : Nat} (hk : k < nCp N - 1) : ∃ s, s = (if k < c then k else k + 1) ∧ s < nCp N ∧ brN N c (111 + 2 * k) = N (111 + 2 * s) ∧ brN N c (111 + 2 * k + 1) = N (111 + 2 * s + 1) ∧ oO (brN N c) k = oO N s ∧ oG (brN N c) k = oG N s := by
  have e0 := br_cp (c := c) hw hk 0 (by decide)
  have e1 := br_cp (c := c) hw hk 1 (by decide)
  refine ⟨_, rfl, ?_, e0, e1, congrArg Int32.toNatClampNeg e0, congrArg Int32.toNatClampNeg e1⟩
  split <;> omega
theorem br_wf (hw : WFN N) (hc : c < nCp N) : WFN (brN N c) := by
  have hb := w1_b hw.1
  obtain ⟨e6, n6⟩ := br_6 hw hc
  refine cc_wf (br_cc hw) hw ⟨?_, ?_⟩ fun k hk => ?_
  · rw [show nv (brN N c) 6 = nCp N - 1 from n6]
    exact e6
  · rw [show nv (brN N c) 6 = nCp N - 1 from n6]
    omega
  · rw [n6] at hk
    obtain ⟨s, -, hs, s1, s2, s3, s4⟩ := br_s hw hc hk
    obtain ⟨w1, w2, w3, w4⟩ := hw.2.2.2.2.2 s hs
    rw [s3]
    refine ⟨?_, w2, ?_, w4⟩
    · unfold isN at w1 ⊢
      rw [show nv (brN N c) (111 + 2 * k) = nv N (111 + 2 * s) from s3, s1]
      exact w1
    · unfold isN at w3 ⊢
      rw [show nv (brN N c) (111 + 2 * k + 1) = nv N (111 + 2 * s + 1) from s4, s2]
      exact w3
theorem c_burnCopy (h : BK σ b) (hw : WFN N) (r : RB G J b N) (hc : c < nCp N) : ∃ G2, fX1_burnCopy (some b) (nI c) (wc σ G J) = some (wc σ G2 J) ∧ (∀ a, a < b ∨ b + 33 ≤ a → G2 a = G a) ∧ RB G2 J b (brN N c) := by
  have hb := w1_b hw.1
  have hp := rb_p r hw.1
  obtain ⟨e6, n6⟩ := br_6 hw hc
  generalize hG1 : up G b 5 (G b 5 + (3 - nI (oG N c))) = G1
  have g1 : ∀ a, a ≠ b → G1 a = G a := fun a ha => by rw [← hG1, up_a ha]
  have g1k : ∀ k, k ≠ 5 → G1 b k = G b k := fun k hk => by rw [← hG1, up_k hk]
  have g15 : G1 b 5 = G b 5 + (3 - nI (oG N c)) := by rw [← hG1, up_eq]
  obtain ⟨rr, S1, e1, G2, rfl, f1, f2⟩ := lpS_i (f := fX1_burnCopy_l1 (some b)) (fun n (q : Int32) S => ∃ d G', d + n = nCp N - 1 - c ∧ q = nI (c + d) ∧ S = wc σ G' J ∧ (∀ a, ¬ (b + 25 + c ≤ a ∧ a < b + 25 + c + d) → G' a = G1 a) ∧ ∀ i, i < d → ∀ j, j < 5 → G' (b + 25 + c + i) j = G1 (b + 25 + c + i + 1) j) (fun (_ : Unit) S => ∃ G', S = wc σ G' J ∧ (∀ a, ¬ (b + 25 + c ≤ a ∧ a < b + 25 + c + (nCp N - 1 - c)) → G' a = G1 a) ∧ ∀ i, i < nCp N - 1 - c → ∀ j, j < 5 → G' (b + 25 + c + i) j = G1 (b + 25 + c + i + 1) j) (nCp N - 1 - c) FUEL (nI c) (wc σ G1 J) (show nCp N - 1 - c < 200000 by omega) ⟨0, G1, Nat.zero_add _, rfl, rfl, fun _ _ => rfl, fun i hi => absurd hi (Nat.not_lt_zero i)⟩ (by
    rintro k q S ⟨d, G', hd, rfl, rfl, q1, q2⟩
    left
    have kx := h.2.2.2.2.2.1 (c + d + 1) (by omega)
    have ky := h.2.2.2.2.2.1 (c + d) (by omega)
    obtain ⟨f, ef, hf⟩ := c_take3 (σ := σ) (J := J) (x := b + 25 + (c + d + 1)) (y := b + 25 + (c + d)) kx.1 ky.1 (by have := h.1; omega) (by have := h.1; omega) (by omega) G'
    refine ⟨nI (c + (d + 1)), _, ?_, d + 1, cw G' (b + 25 + (c + d)) f, by omega, rfl, rfl, fun a ha => ?_, fun i hi j hj => ?_⟩
    · unfold fX1_burnCopy_l1
      rw [bk_I h, bnP_1, q1 b (by omega), g1k 3 (by decide), hp, nI_a1, if_neg (show ¬ nI (nCp N) ≤ nI (c + d + 1) from nI_ge (by omega) (by omega)), bk_r7 h, bnP_1, bk_pR h (by omega), bnP_1, bnP_1, bk_pR h (by omega), bnP_1, ef, bnP_1]
      rfl
    · rw [cw_b (by omega)]
      exact q1 a (by omega)
    · by_cases z : i = d
      · rw [z, show b + 25 + c + d = b + 25 + (c + d) by omega, cw_a, hf j hj, q1 _ (by omega)]
        rfl
      · rw [cw_b (by omega)]
        exact q2 i (by omega) j hj) (by
    rintro q S ⟨d, G', hd, rfl, rfl, q1, q2⟩
    refine ⟨(), _, ?_, G', rfl, ?_, ?_⟩
    · unfold fX1_burnCopy_l1
      rw [bk_I h, bnP_1, q1 b (by omega), g1k 3 (by decide), hp, nI_a1, if_pos (show nI (nCp N) ≤ nI (c + d + 1) from nI_le (by omega) (by omega))]
    · rw [show nCp N - 1 - c = d by omega]
      exact q1
    · rw [show nCp N - 1 - c = d by omega]
      exact q2)
  have cr : ∀ k, k < nCp N - 1 → ∀ j, j < 5 → G2 (b + 25 + k) j = G (b + 25 + (if k < c then k else k + 1)) j := fun k hk j hj => by
    by_cases z : k < c
    · rw [if_pos z, f1 _ (by omega), g1 _ (by omega)]
    · have := f2 (k - c) (by omega) j hj
      rw [if_neg z, show b + 25 + k = b + 25 + c + (k - c) by omega, this, g1 _ (by omega)]
      congr 1
      omega
  have rc := r.2.2
  refine ⟨up G2 b 3 (nI (nCp N - 1)), ?_, fun a ha => by rw [up_a (by omega), f1 a (by omega), g1 a (by omega)], cc_rb (br_cc hw) hw r (fun k hk => by rw [up_k (by omega), f1 b (by omega), g1k k (by omega)]) (by rw [up_eq, e6]) ?_ ?_ (fun a h1 h2 => by rw [up_a (by omega), f1 a (by omega), g1 a (by omega)]) ?_⟩
  · unfold fX1_burnCopy
    rw [bk_o h, bnP_1, if_neg (nI_lt0 (by omega)), bk_I h, bnP_1, hp, if_neg (nI_ge hc (by omega)), bk_I h, bnP_1, bk_r7 h, bnP_1, bk_pR h (by omega), bnP_1, c_fee h hw r hc, bnP_1, bk_P h, bnP_1, hG1, e1, bnS_1, bk_I h, bnP_1, f1 b (by omega), g1k 3 (by decide), hp, nI_m1 (by omega), bk_P h, bnP_1]
  · rw [up_k (by decide), f1 b (by omega), g1k 4 (by decide), r.1.2.2.2.2.1, br_o (by decide) (by decide) (by omega)]
  · rw [up_k (by decide), f1 b (by omega), g15, r.1.2.2.2.2.2.1]
    rfl
  · refine dr_rc fun k hk => ?_
    rw [n6] at hk
    obtain ⟨s, rfl, hs, s1, s2, s3, s4⟩ := br_s hw hc hk
    rw [s2, s3, s4, up_a (by omega)]
    exact ⟨(w4_c hw.2.2.2 hs).2.2, cc_dr (br_cc hw) hw (w4_c hw.2.2.2 hs).1.1 (dr_cg (cr k hk) (rc_dr hw.2.2.2 rc hs))⟩
/-- the reference burns a copy -/
theorem m_burns (h : MK σ 80) (hw : WFN N) (e : G 81 = N) (hc : c < nCp N) : bnP (gR (wi σ G) (some 80) 10 1) (fun x7 => bnP (aI (wi σ G) x7 20 8) (fun x9 => bnP (fX10_ofCopy (some 80) (nI c) 1 (wi σ G)) (fun x11 => bnP (fX10_feeOf x11 (wi σ G)) (fun x13 => bnP (sI (wi σ G) x7 8 (x9 + x13)) (fun s17 => bnS (lpS (fX10_burn_l1 (some 80)) FUEL (2 * nI c) s17) (fun r19 s41 => bnP (gR s41 (some 80) 10 1) (fun x42 => bnP (aI s41 x42 20 6) (fun x44 => bnP (sI s41 x42 6 (x44 - 1)) (fun s48 => bnP (gR s48 (some 80) 10 1) (fun x49 => bnP (aI s48 x49 20 6) (fun x51 => some (x51, s48)))))))))))) = some (nI (nCp N - 1), wi σ (cw G 81 (brN N c))) := by
  have hb := w1_b hw.1
  have n6 := (w1_e hw.1).2.2.2.2
  have w4 := w4_c hw.2.2.2 hc
  have k6 : ∀ k, brK N c k 6 = nI (nCp N) := fun k => by
    unfold brK
    rw [if_neg (by decide), if_neg (by omega), n6]
  have key := lpS_f (f := fX10_burn_l1 (some 80)) (a := nI (2 * c)) (σ := wi σ (cw G 81 (u1 N 8 (N 8 + (3 - nI (oG N c)))))) (r := ()) (2 * (nCp N - 1 - c)) (fun k => nI (2 * c + k)) (fun k => wi σ (cw G 81 (brK N c k))) rfl (by
    show wi σ (cw G 81 _) = wi σ (cw G 81 _)
    congr 2
    funext j
    unfold u1 brK
    by_cases z : j = 8
    · rw [if_pos z, if_pos z]
    · rw [if_neg z, if_neg z, if_neg (by omega)]) (by omega) (fun k hk => by
    unfold fX10_burn_l1
    have c81 : ∀ f, cw G 81 f (80 + 1) = f := fun f => cw_a _ _ _
    rw [mk_r1 h, bnP_1, show (6 : Int32) = nI 6 from rfl, mk_a1 h (by decide), bnP_1, c81, k6, nI_m1 (by omega), show (2 : Int32) * nI (nCp N - 1) = nI (2 * (nCp N - 1)) from by rw [Int32.mul_comm, show (2 : Int32) = nI 2 from rfl, pk_mul, Nat.mul_comm], if_neg (nI_ge (by omega) (by omega)), bnP_1, bnP_1, show (111 + nI (2 * c + k)) + 2 = nI (111 + (2 * c + k) + 2) from by rw [show (111 : Int32) = nI 111 from rfl, show (2 : Int32) = nI 2 from rfl, nI_add, nI_add], mk_a1 h (by omega), bnP_1, c81, show 111 + nI (2 * c + k) = nI (111 + (2 * c + k)) from nI_add 111 _, mk_s1 h (by omega), bnP_1, nI_a1, show 80 + 1 = 81 from rfl, up_cw]
    congr 4
    funext j
    unfold u1 brK
    by_cases z : j = 111 + (2 * c + k)
    · rw [if_pos z, if_neg (by omega), if_neg (by omega), if_neg (by omega), if_pos (by omega), z]
    · rw [if_neg z]
      by_cases z8 : j = 8
      · rw [if_pos z8, if_pos z8]
      · rw [if_neg z8, if_neg z8]
        by_cases z2 : 111 + 2 * c ≤ j ∧ j < 111 + 2 * c + k
        · rw [if_pos z2, if_pos (by omega)]
        · rw [if_neg z2, if_neg (by omega)]) (by
    unfold fX10_burn_l1
    have c81 : ∀ f, cw G 81 f (80 + 1) = f := fun f => cw_a _ _ _
    rw [mk_r1 h, bnP_1, show (6 : Int32) = nI 6 from rfl, mk_a1 h (by decide), bnP_1, c81, k6, nI_m1 (by omega), show (2 : Int32) * nI (nCp N - 1) = nI (2 * (nCp N - 1)) from by rw [Int32.mul_comm, show (2 : Int32) = nI 2 from rfl, pk_mul, Nat.mul_comm], if_pos (nI_le (by omega) (by omega))])
  have e1 : (80 + 1 : Nat) = 81 := rfl
  have c81 : ∀ f, cw G 81 f 81 = f := fun f => cw_a _ _ _
  have a1 : ∀ G' : Nat → Nat → Int32, ∀ n, n < 6139 → aI (wi σ G') (some 81) 20 (nI n) = some (G' 81 n) := fun G' n hn => mk_a1 h hn
  have s1 : ∀ G' : Nat → Nat → Int32, ∀ n x, n < 6139 → sI (wi σ G') (some 81) (nI n) x = some (wi σ (up G' 81 n x)) := fun G' n x hn => mk_s1 h hn
  rw [mk_r1 h, bnP_1, e1, show (8 : Int32) = nI 8 from rfl, a1 _ 8 (by decide), bnP_1, show fX10_ofCopy (some 80) (nI c) 1 (wi σ G) = _ from m_ofCopy h c 1 (by omega), bnP_1, e1, e, w4.2.2]
  unfold fX10_feeOf
  rw [bnP_1, s1 _ 8 _ (by decide), bnP_1, up_is, e, show (2 : Int32) * nI c = nI (2 * c) from by rw [Int32.mul_comm, show (2 : Int32) = nI 2 from rfl, pk_mul, Nat.mul_comm], key, bnS_1, mk_r1 h, bnP_1, e1, show (6 : Int32) = nI 6 from rfl, a1 _ 6 (by decide), bnP_1, c81, k6, nI_m1 (by omega), s1 _ 6 _ (by decide), bnP_1, mk_r1 h, bnP_1, e1, a1 _ 6 (by decide), bnP_1, up_eq, up_cw]
  congr 4
  funext j
  unfold u1 brN brK
  by_cases z6 : j = 6
  · rw [if_pos z6, if_pos z6, n6, nI_m1 (by omega)]
  · rw [if_neg z6, if_neg z6]
    by_cases z8 : j = 8
    · rw [if_pos z8, if_pos z8]
    · rw [if_neg z8, if_neg z8]
      by_cases z2 : 111 + 2 * c ≤ j ∧ j < 111 + 2 * (nCp N - 1)
      · rw [if_pos z2, if_pos (by omega)]
      · rw [if_neg z2, if_neg (by omega)]
/-- case 44: BURN -/
theorem sc44 (hC : CR σ G J b bs ps P tx E I N U V T) (hM : MR σ G E I N U V T) (hA : AW E I N U V T) (hD : DK σ) (hb : hN σ + 40 < BIG) {Lx : Nat} {xs : Nat → Int32} {v5 v : Int32} (h1 : sld Lx xs (v5 + 1) = some v) (v4 : Option Nat) : STEP σ (fL_c44 Lx xs (some 0) (some 80) (some 89) v4 v5 (wc σ G J)) := by
  have lo := lo_of hC hM hA hD
  have e4 := hC.2.1.1
  unfold fL_c44 fL_burn
  simp only [h1, bnP_1]
  have hwr : E.1 ≠ 0 → WFN N ∧ RB G J b N := fun q => ⟨hA.2.1 q, hC.2.2.2.1 q⟩
  have ms : ∀ S G1, MR S G1 E I N U V T → fX10_burn (some 80) v (wi S G1) = if (decide (E.1 ≠ 0) && inR v (nI 0) (N 6 - 1) && true) = true then bnP (fX10_remembers (some 80) (wi S (up G1 80 0 0))) (fun s6 => bnP (gR s6 (some 80) 10 1) (fun x7 => bnP (aI s6 x7 20 8) (fun x9 => bnP (fX10_ofCopy (some 80) v 1 s6) (fun x11 => bnP (fX10_feeOf x11 s6) (fun x13 => bnP (sI s6 x7 8 (x9 + x13)) (fun s17 => bnS (lpS (fX10_burn_l1 (some 80)) FUEL (2 * v) s17) (fun r19 s41 => bnP (gR s41 (some 80) 10 1) (fun x42 => bnP (aI s41 x42 20 6) (fun x44 => bnP (sI s41 x42 6 (x44 - 1)) (fun s48 => bnP (gR s48 (some 80) 10 1) (fun x49 => bnP (aI s48 x49 20 6) (fun x51 => some (x51, s48))))))))))))) else some (0, wi S (up G1 80 0 (thr (decide (E.1 ≠ 0)) (inR v (nI 0) (N 6 - 1)) true))) := by
    intro S G1 hM1
    have mk := hM1.1
    have f6 := hM1.2.1.1
    have f81 := hM1.2.2.2.1.1
    have ei : isC G1 80 v = (decide (E.1 ≠ 0) && inR v (nI 0) (N 6 - 1)) := by
      unfold isC
      rw [f6, show G1 (80 + 1) = N from f81]
    unfold fX10_burn
    rw [mk_o mk, bnP_1, m_mayCopy mk (by rw [f6]; exact hA.1.1), bnS_1, ei, f6, thr_pq, Bool.and_true]
    cases e0 : decide (E.1 ≠ 0)
    · rfl
    · cases e1 : inR v (nI 0) (N 6 - 1)
      · rfl
      · rfl
  refine chg3 (inR v (nI 0) (N 6 - 1)) true (e1 := 1) (e2 := 2) hC hM hA hD (fun S => rfl) (fun S => rfl) (fun _ _ h => by cases h) ?_ ?_ (fun _ _ h => by cases h) ms ?_
  · intro qE
    unfold fX9_burn
    rw [nk_o lo.1, bnP_1, c_requireBook lo.1, if_pos (by rw [e4]; exact qE), bnXA_e]
  · intro qE z
    obtain ⟨hw, r⟩ := hwr qE
    unfold fX9_burn
    rw [nk_o lo.1, bnP_1, c_requireBook lo.1, if_neg (by rw [e4]; exact qE), bnXA_1, c_requireCopy lo.1 hw.1 r, z, if_neg (by decide), bnXA_e]
  · intro qE z _
    obtain ⟨hw, r⟩ := hwr qE
    have z' := z
    obtain ⟨c, rfl, hc⟩ := inC_t hw.1 z
    have hbb := w1_b hw.1
    refine chg (x := nI (nCp N - 1)) (N' := brN N c) false hC hM hA hD qE hb (br_wf hw hc) (fun j hj => ?_) ?_ ?_
    · rw [br_o (by omega) (by omega) (by omega)]
      exact hM.2.2.2.1.2 j hj
    · intro σ' G' J' ps' P' ii jj eR hC'
      have nk' := cr_nk hC'
      have B' := nk_B nk'
      have r' := hC'.2.2.2.1 qE
      obtain ⟨G2, e2, f2, r2⟩ := c_burnCopy B' hw r' hc
      refine ⟨G2, J', ?_, fun a ha => by rw [f2 a ha]; rfl, fun a _ => rfl, r2⟩
      unfold fX9_burn
      rw [nk_o lo.1, bnP_1, c_requireBook lo.1, if_neg (by rw [e4]; exact qE), bnXA_1, c_requireCopy lo.1 hw.1 r, z', if_pos rfl, bnXA_1, eR, bnA_ok, nk_b nk', bnP_1, e2, bnP_1, nk_b nk', bnP_1, bk_I B', bnP_1, r2.1.2.2.2.1, (br_6 hw hc).1, addC_1]
      rfl
    · intro S G1 G1' hM1 eR e81 _ _
      have mk := hM1.1
      rw [ms S G1 hM1, decide_eq_true qE, z', if_pos (show (true && true && true) = true from rfl), eR, bnP_1]
      exact m_burns mk hw e81 hc
end BRN
