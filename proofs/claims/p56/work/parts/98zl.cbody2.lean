/-! THE PURE LEVEL, 96: the class reads an act's body, item by item -/
section CB2
variable {σ : HpT} {G G' G3 : Nat → Nat → Int32} {J J' J3 : Nat → Nat → Int64} {f : Nat → Int32} {e p c n i o : Nat} {N0 N N' M R : tN} {kd lo hi : Int32} {cur d cur' d' a l W : Nat} {w : Int64}
theorem bc_word (hw : WFN N0) (ha : nAc N0 < 10) (b : BI N0 N kd cur d) (q : BC G J c N0 N) (hW : nWd N < 12 * nRm N0) (wd : wdR lo hi w) (g68 : G3 68 2 = nI (nWd N - nWd N0 + 1)) (j4 : J3 (c + 4) = upJ J (c + 4) (nWd N) w (c + 4)) (g5 : G3 (c + 5) = u1 (G (c + 5)) (nWd N) (nI (cntV (cF N) (nCl N0) (nCl N - nCl N0) (nWd N)))) (g6 : G3 (c + 6) = u1 (G (c + 6)) (nWd N) 0) (g7 : G3 (c + 7) = u1 (G (c + 7)) (nWd N) 0) (g8 : G3 (c + 8) = u1 (G (c + 8)) (nWd N) 0) : BC G3 J3 c N0 (adW N (nAc N0) cur lo hi) ∧ nWd (adW N (nAc N0) cur lo hi) = nWd N + 1 ∧ cntV (cF (adW N (nAc N0) cur lo hi)) (nCl N0) (nCl (adW N (nAc N0) cur lo hi) - nCl N0) (nWd N + 1) = 0 := by
  have hb := bi_b hw b
  have hb0 := w1_b hw.1
  have hrm := (bi_rm hw b).1
  have hbv := b.2.2.2.2.2.1
  have hlt : nWd N / nRm N < 12 := by
    rw [hrm]
    exact Nat.div_lt_of_lt_mul (by rw [Nat.mul_comm]; exact hW)
  obtain ⟨e1, e2, e4⟩ := adw_n (cur := cur) (lo := lo) (hi := hi) hlt ha
  have oN : ∀ j, (j < 99 ∨ 111 ≤ j) → j ≠ 0 → (j < 127 + 13 * nWd N ∨ 140 + 13 * nWd N ≤ j) → j ≠ 4 → j ≠ 15 + 9 * nAc N0 → adW N (nAc N0) cur lo hi j = N j := fun j h1 h0 h2 h3 h4 => adw_o hlt h1 h0 ha h2 h3 h4
  generalize adW N (nAc N0) cur lo hi = K at *
  have c4 : nWd K = nWd N + 1 := nv_n e4 (by omega)
  have c5 : nCl K = nCl N := nv_e (oN 5 (by omega) (by omega) (by omega) (by omega) (by omega))
  have oC : ∀ c i, i < 3 → K (3247 + 3 * c + i) = N (3247 + 3 * c + i) := fun c i hi => oN _ (by omega) (by omega) (by omega) (by omega) (by omega)
  have eF : ∀ c, cF K c = cF N c := fun c => nv_e (oC c 0 (by decide))
  have etO : ∀ c, tO K c = tO N c := fun c => by
    unfold tO
    rw [oC c 1 (by decide), show cT K c = cT N c from nv_e (oC c 1 (by decide))]
  refine ⟨⟨by rw [g68, c4]; congr 1; omega, fun g h1 h2 => ?_⟩, c4, ?_⟩
  · rw [j4, g5, g6, g7, g8, c5, cntV_cong (fun c _ _ => eF c), cntV_cong (fun c _ _ => etO c)]
    by_cases z : g = nWd N
    · subst z
      rw [e1, e2, upJ_eq, u1_e, u1_e, u1_e, u1_e, bv_T hbv]
      exact ⟨wd, rfl, rfl, rfl, rfl⟩
    · rw [oN (127 + 13 * g) (by omega) (by omega) (by omega) (by omega) (by omega), oN (127 + 13 * g + 1) (by omega) (by omega) (by omega) (by omega) (by omega), upJ_k z, u1_k z, u1_k z, u1_k z, u1_k z]
      exact q.2 g h1 (by omega)
  · rw [c5, cntV_cong (fun c _ _ => eF c)]
    exact cntN_zero fun i hi => decide_eq_false (by
      have := (hbv.2.1 (nCl N0 + i) (by omega) (by omega)).1
      omega)
theorem bc_open (hw : WFN N0) (ha : nAc N0 < 10) (b : BI N0 N kd cur d) (hd : d < 4) (q : BC G J c N0 N) (g68 : G3 68 2 = G 68 2) (j4 : J3 (c + 4) = J (c + 4)) (gg : ∀ a, c + 5 ≤ a → a ≤ c + 8 → G3 a = G a) : BC G3 J3 c N0 (obN N (nAc N0) cur) ∧ cntV (cF (obN N (nAc N0) cur)) (nCl N0) (nCl (obN N (nAc N0) cur) - nCl N0) (nWd (obN N (nAc N0) cur)) = cntV (cF N) (nCl N0) (nCl N - nCl N0) (nWd N) + 1 := by
  have hb := bi_b hw b
  have hk0 := b.2.1.2.2.2.1
  have n4 := b.2.1.2.1
  have oN : ∀ j, j ≠ 3247 + 3 * nCl N → j ≠ 3248 + 3 * nCl N → j ≠ 3249 + 3 * nCl N → j ≠ 5 → j ≠ 17 + 9 * nAc N0 → obN N (nAc N0) cur j = N j := fun j h1 h2 h3 h4 h5 => by
    unfold obN
    rw [if_neg h1, if_neg h2, if_neg h3, if_neg h4, if_neg h5]
  have e0 : obN N (nAc N0) cur (3247 + 3 * nCl N) = N 4 := if_pos rfl
  have e1 : obN N (nAc N0) cur (3247 + 3 * nCl N + 1) = nO := by
    unfold obN
    rw [if_neg (by omega), if_pos (by omega)]
  have e5 : obN N (nAc N0) cur 5 = nI (nCl N + 1) := by
    unfold obN
    rw [if_neg (by omega), if_neg (by omega), if_neg (by omega), if_pos rfl]
  generalize obN N (nAc N0) cur = M at *
  have c4 : nWd M = nWd N := nv_e (oN 4 (by omega) (by omega) (by omega) (by omega) (by omega))
  have c5 : nCl M = nCl N + 1 := nv_n e5 (by omega)
  have eC : nCl M - nCl N0 = (nCl N - nCl N0) + 1 := by omega
  have oC : ∀ c, c < nCl N → ∀ i, i < 3 → M (3247 + 3 * c + i) = N (3247 + 3 * c + i) := fun c hc i hi => oN _ (by omega) (by omega) (by omega) (by omega) (by omega)
  have eF : ∀ c, c < nCl N → cF M c = cF N c := fun c hc => nv_e (oC c hc 0 (by decide))
  have etO : ∀ c, c < nCl N → tO M c = tO N c := fun c hc => by
    unfold tO
    rw [oC c hc 1 (by decide), show cT M c = cT N c from nv_e (oC c hc 1 (by decide))]
  have hk : nCl N0 + (nCl N - nCl N0) = nCl N := by omega
  have f0 : cF M (nCl N) = nWd N := nv_n (e0.trans n4) (by omega)
  have t0 : tO M (nCl N) = 1000 := by
    unfold tO
    rw [if_pos e1]
  have cs : ∀ (X : Nat → Nat) (g : Nat), cntV X (nCl N0) ((nCl N - nCl N0) + 1) g = cntV X (nCl N0) (nCl N - nCl N0) g + if X (nCl N) = g then 1 else 0 := fun X g => by
    show cntN _ _ + (if decide (X (nCl N0 + (nCl N - nCl N0)) = g) = true then 1 else 0) = _
    rw [hk]
    congr 1
    by_cases z : X (nCl N) = g
    · rw [if_pos z, if_pos (decide_eq_true z)]
    · rw [if_neg z, if_neg (by rw [decide_eq_false z]; decide)]
  refine ⟨⟨by rw [g68, c4]; exact q.1, fun g h1 h2 => ?_⟩, ?_⟩
  · have hx := q.2 g h1 (by omega)
    rw [j4, gg (c + 5) (by omega) (by omega), gg (c + 6) (by omega) (by omega), gg (c + 7) (by omega) (by omega), gg (c + 8) (by omega) (by omega), oN (127 + 13 * g) (by omega) (by omega) (by omega) (by omega) (by omega), oN (127 + 13 * g + 1) (by omega) (by omega) (by omega) (by omega) (by omega), eC, cs, cs, f0, t0, if_neg (by omega), if_neg (by omega), Nat.add_zero, Nat.add_zero, cntV_cong (fun c _ hc => eF c (by omega)), cntV_cong (fun c _ hc => etO c (by omega))]
    exact hx
  · rw [eC, cs, c4, f0, if_pos rfl, cntV_cong (fun c _ hc => eF c (by omega))]
theorem bc_close (hw : WFN N0) (ha : nAc N0 < 10) (b : BI N0 N kd (n + 1) d) (hp : cF N n ≠ nWd N) (q : BC G J c N0 N) (g68 : G3 68 2 = G 68 2) (j4 : J3 (c + 4) = J (c + 4)) (g5 : G3 (c + 5) = G (c + 5)) (g6 : G3 (c + 6) = u1 (G (c + 6)) (nWd N - 1) (G (c + 6) (nWd N - 1) + 1)) (g7 : G3 (c + 7) = G (c + 7)) (g8 : G3 (c + 8) = G (c + 8)) : BC G3 J3 c N0 (cbN N n) ∧ cntV (cF (cbN N n)) (nCl N0) (nCl (cbN N n) - nCl N0) (nWd (cbN N n)) = cntV (cF N) (nCl N0) (nCl N - nCl N0) (nWd N) ∧ nWd N0 < nWd N := by
  have hb := bi_b hw b
  obtain ⟨-, -, p1, p2⟩ := bi_close hw ha b hp
  have hbv := b.2.2.2.2.2.1
  have hcl := (hbv.2.1 n p1 (by omega)).1
  have top : tO N n = 1000 := by
    rcases hbv.2.2.2.2 with ⟨b1, -⟩ | ⟨p', b1, b2, b3, b4, b5⟩
    · omega
    · obtain rfl : p' = n := by omega
      exact b4
  have oN : ∀ j, j ≠ 3248 + 3 * n → cbN N n j = N j := fun j h1 => u1_k h1
  have e1 : cbN N n (3247 + 3 * n + 1) = nI (nWd N - 1) := by
    rw [show 3247 + 3 * n + 1 = 3248 + 3 * n by omega]
    exact u1_e _ _ _
  generalize cbN N n = M at *
  have c4 : nWd M = nWd N := nv_e (oN 4 (by omega))
  have c5 : nCl M = nCl N := nv_e (oN 5 (by omega))
  have eF : ∀ c, cF M c = cF N c := fun c => nv_e (oN _ (by omega))
  have etp : tO M n = nWd N - 1 := by
    unfold tO
    rw [if_neg (by rw [e1]; exact nI_nO (by omega))]
    exact nv_n e1 (by omega)
  have etO : ∀ c, c ≠ n → tO M c = tO N c := fun c hc => by
    unfold tO
    rw [oN (3247 + 3 * c + 1) (by omega), show cT M c = cT N c from nv_e (oN _ (by omega))]
  refine ⟨⟨by rw [g68, c4]; exact q.1, fun g h1 h2 => ?_⟩, by rw [c4, c5, cntV_cong (fun c _ _ => eF c)], by omega⟩
  have hx := q.2 g h1 (by omega)
  rw [j4, g5, g6, g7, g8, oN (127 + 13 * g) (by omega), oN (127 + 13 * g + 1) (by omega), c5, cntV_cong (fun c _ _ => eF c)]
  refine ⟨hx.1, hx.2.1, ?_, hx.2.2.2⟩
  by_cases z : g = nWd N - 1
  · subst z
    have e : cntV (tO M) (nCl N0) (nCl N - nCl N0) (nWd N - 1) = cntV (tO N) (nCl N0) (nCl N - nCl N0) (nWd N - 1) + 1 := by
      refine cntN_up (j := n - nCl N0) (by omega) ?_ ?_ fun i hi hne => ?_
      · rw [show nCl N0 + (n - nCl N0) = n by omega, top]
        exact decide_eq_false (by omega)
      · rw [show nCl N0 + (n - nCl N0) = n by omega, etp]
        exact decide_eq_true rfl
      · rw [etO _ (by omega)]
    rw [u1_e, hx.2.2.1, e, nI_a1]
  · rw [u1_k z, hx.2.2.1]
    congr 1
    refine cntN_cong fun i hi => ?_
    by_cases y : nCl N0 + i = n
    · rw [y, top, etp, decide_eq_false (show ¬ 1000 = g by omega), decide_eq_false (show ¬ nWd N - 1 = g by omega)]
    · rw [etO _ y]
theorem c_failX (h : PC σ c) (g : CGd f e p c N0 G J) (n : Nat) : ∃ G', fX5_fail (some 68) (nI n) (wc σ G J) = some (false, wc σ G' J) ∧ PFR c G G' J J ∧ CBR f e c N0 kd (.error (n, tkS f e p)) false G' J := by
  refine ⟨cw G 68 (u1 (u1 (G 68) 0 (nI n)) 1 (nI (tkS f e p))), ?_, fun a a1 a2 a3 => ⟨cw_b a1, rfl⟩, p, ?_, Or.inl ⟨rfl, ?_, ?_⟩⟩
  · unfold fX5_fail
    rw [pc_o h, bnP_1, pc_P h, bnP_1, pc_s h, bnP_1, pk_I h.1, bnP_1, cw_b (by decide), g.2.1.2.2.2.1, pc_P h, bnP_1, cw_a, cw_cw]
  · have hc := h.2.2.2.2
    exact (cg_stg h g (fun a a1 _ _ _ _ => cw_b a1) (fun a k a1 a2 _ => by rw [cw_b (by omega)]) (fun a _ => rfl) (fun _ _ => rfl)).1
  · rw [cw_a, u1_k (by decide), u1_e]
  · rw [cw_a, u1_e]
theorem c_mostW (B : BK σ c) (w1 : W1 N0) (r : RB G J c N0) : fX1_mostWords (some c) (wc σ G J) = some (nI (12 * nRm N0)) := by
  have hb := w1_b w1
  unfold fX1_mostWords
  rw [bk_o B, bnP_1, bk_I B, bnP_1, r.1.1, (w1_e w1).1, show (12 : Int32) * nI (nRm N0) = nI (12 * nRm N0) from pk_mul 12 _]
  unfold mmn
  rw [if_neg (show ¬ 240 < nI (12 * nRm N0) from nI_nlt (a := 240) (by omega) (by decide))]
end CB2
