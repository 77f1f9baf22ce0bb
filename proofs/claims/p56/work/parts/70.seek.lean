/-! THE PURE LEVEL, 30: a clause is looked for -/
section SEEK
variable {σ : HpT} {G : Nat → Nat → Int32} {J : Nat → Nat → Int64} {o b m d : Nat} {N : Nat → Int32}
theorem rb_s13 (w1 : W1 N) (r : RB G J b N) (f : Nat → Int32) : RB (cw G (b + 13) f) J b N := rb_cong w1 (fun a _ _ _ q _ _ => cw_b q) (fun _ _ _ => rfl) r
theorem c_follow (h : BK σ b) (hw : WFN N) (r : RB G J b N) {a c : Nat} (ha : a < nAc N) (h1 : aK N a ≤ c) (h2 : c < aK N a + aC N a) {f : Nat → Int32} (f0 : f 0 = nI (cF N c)) (f2 : f 2 = nI (dep (cF N) (cT N) (aK N a) c)) :
    ∃ f', fX2_followFrom (some (b + 13)) (some (b + 3)) (some (b + 15 + a)) (nI (cov (cF N) (cT N) (aK N a) (aC N a) (cF N c))) (wc σ (cw G (b + 13) f) J) = some (wc σ (cw G (b + 13) f') J) ∧ f' 0 = nI (cF N c) ∧ f' 1 = nI (cT N c - cF N c + 1) ∧ f' 2 = nI (dep (cF N) (cT N) (aK N a) c) ∧ f' 3 = nI (cntN (fun i => decide (cA N (aK N a + i) = c + 1)) (aC N a)) := by
  have hl := act_le hw.1 hw.2.1 ha
  have hb := w1_b hw.1
  obtain ⟨p1, p2, p3, p4, p5⟩ := (act_ok hw.1 hw.2.1 ha).1
  have cl := w3_cl hw.2.2.1 ha
  have ft := cl_ft cl
  have kb := w3_kb hw.2.1 hw.1 ha
  obtain ⟨c1, c2, c3, -, -⟩ := cl c h1 h2
  have hd : dep (cF N) (cT N) (aK N a) c < 2 ^ 31 := by
    have := cntN_le (fun i => decide (cF N c ≤ cT N (aK N a + i))) (c - aK N a)
    unfold dep
    omega
  have hcv : ∀ v, cov (cF N) (cT N) (aK N a) (aC N a) v ≤ aC N a := fun v => cntN_le _ _
  have hen : ∀ v, enr (cF N) (cT N) (aK N a) (aC N a) v ≤ aC N a := fun v => cntN_le _ _
  have hcV : ∀ v, cntV (cT N) (aK N a) (aC N a) v ≤ aC N a := fun v => cntN_le _ _
  have hoV : ∀ v, cntV (cF N) (aK N a) (aC N a) v ≤ aC N a := fun v => cntN_le _ _
  have hch : ∀ j, chC (cF N) (cT N) (aK N a) (aC N a) c j ≤ j + 1 := by
    intro j
    induction j with
    | zero =>
      show (if dep (cF N) (cT N) (aK N a) c < cov (cF N) (cT N) (aK N a) (aC N a) (cF N c) then 1 else 0) ≤ 1
      split <;> omega
    | succ j ih =>
      show chC (cF N) (cT N) (aK N a) (aC N a) c j + (if enr (cF N) (cT N) (aK N a) (aC N a) (cF N c + j + 1) = dep (cF N) (cT N) (aK N a) c ∧ 0 < cntV (cF N) (aK N a) (aC N a) (cF N c + j + 1) then 1 else 0) ≤ j + 2
      split <;> omega
  have cG : ∀ f k, gI (wc σ (cw G (b + 13) f) J) (some (b + 13)) 2 k = some (f k) := fun f k => by
    rw [bk_cI h, cw_a]
  have cP : ∀ f k v, pI (wc σ (cw G (b + 13) f) J) (some (b + 13)) 2 k v = some (wc σ (cw G (b + 13) (u1 f k v)) J) := fun f k v => by
    rw [bk_cP h, up_cw]
  have rf : ∀ f, RB (cw G (b + 13) f) J b N := fun f => rb_s13 hw.1 r f
  have uu : ∀ u v, u1 (u1 f 3 u) 3 v = u1 f 3 v := fun u v => by
    funext j
    unfold u1
    by_cases q : j = 3
    · rw [if_pos q, if_pos q]
    · rw [if_neg q, if_neg q, if_neg q]
  have e1 := ent_succ ft (cF N c)
  have l1 : lpS (fX2_followFrom_l1 (some (b + 13)) (some (b + 3)) (some (b + 15 + a))) FUEL (nI (enr (cF N) (cT N) (aK N a) (aC N a) (cF N c + 1)), nI (cF N c)) (wc σ (cw G (b + 13) (u1 f 3 (nI (chC (cF N) (cT N) (aK N a) (aC N a) c 0)))) J) = some (nI (cT N c), wc σ (cw G (b + 13) (u1 f 3 (nI (chC (cF N) (cT N) (aK N a) (aC N a) c (cT N c - cF N c))))) J) := by
    refine lpS_f (cT N c - cF N c) (fun j => (nI (enr (cF N) (cT N) (aK N a) (aC N a) (cF N c + j + 1)), nI (cF N c + j))) (fun j => wc σ (cw G (b + 13) (u1 f 3 (nI (chC (cF N) (cT N) (aK N a) (aC N a) c j)))) J) rfl rfl (by omega) (fun j hj => ?_) ?_
    · have q1 := enr_ge cl h1 h2 (v := cF N c + j + 1) (by omega) (by omega)
      have s1 := cov_ent ft (cF N c + j + 1)
      have s2 := ent_succ ft (cF N c + j + 1)
      have hr := rb_act (rf (u1 f 3 (nI (chC (cF N) (cT N) (aK N a) (aC N a) c j)))) ha
      have o1 := hoV (cF N c + j + 1)
      have o2 := hen (cF N c + j + 1)
      have o3 := hch j
      have hs : chC (cF N) (cT N) (aK N a) (aC N a) c (j + 1) = chC (cF N) (cT N) (aK N a) (aC N a) c j + (if enr (cF N) (cT N) (aK N a) (aC N a) (cF N c + j + 1) = dep (cF N) (cT N) (aK N a) c ∧ 0 < cntV (cF N) (aK N a) (aC N a) (cF N c + j + 1) then 1 else 0) := rfl
      have fin : ∀ u, bnP (gR (wc σ (cw G (b + 13) (u1 f 3 u)) J) (some (b + 3)) 8 2) (fun x52 => bnP (aI (wc σ (cw G (b + 13) (u1 f 3 u)) J) x52 20 (nI (cF N c + j) + 1)) (fun x54 => bnP (gR (wc σ (cw G (b + 13) (u1 f 3 u)) J) (some (b + 3)) 8 3) (fun x56 => bnP (aI (wc σ (cw G (b + 13) (u1 f 3 u)) J) x56 20 (nI (cF N c + j) + 1)) (fun x58 => some ((Sum.inl ((nI (enr (cF N) (cT N) (aK N a) (aC N a) (cF N c + j + 1)) + (x54 - x58)), (nI (cF N c + j) + 1)) : (Int32 × Int32) ⊕ Int32), wc σ (cw G (b + 13) (u1 f 3 u)) J))))) = some (Sum.inl (nI (enr (cF N) (cT N) (aK N a) (aC N a) (cF N c + (j + 1) + 1)), nI (cF N c + (j + 1))), wc σ (cw G (b + 13) (u1 f 3 u)) J) := fun u => by
        rw [nI_a1, sk_r2 (bk_S h), bnP_1, sk_a2 (bk_S h) (by omega), bnP_1, sk_r3 (bk_S h), bnP_1, sk_a3 (bk_S h) (by omega), bnP_1, rb_op (rf _) ha (by omega) (by omega), rb_cs (rf _) ha (by omega) (by omega), nI_stp (x := enr (cF N) (cT N) (aK N a) (aC N a) (cF N c + (j + 1) + 1)) (by rw [show cF N c + (j + 1) = cF N c + j + 1 from rfl]; omega)]
        rfl
      unfold fX2_followFrom_l1
      rw [cG, bnP_1, u1_k (by decide), f2]
      dsimp only
      rw [if_neg (nI_nlt q1 (by omega)), bk_aI h p1, bnP_1, bk_aI h p1, bnP_1, hr.2.2.2.2.2.1, hr.2.2.2.2.2.2.1, p2, p3, nI_add]
      rw [if_neg (show ¬ nI (aF N a + aM N a) ≤ nI (cF N c + j) + 1 by rw [nI_a1]; exact nI_ge (by omega) (by omega)), bnP_1]
      by_cases q2 : enr (cF N) (cT N) (aK N a) (aC N a) (cF N c + j + 1) = dep (cF N) (cT N) (aK N a) c
      · rw [if_pos (congrArg nI q2), sk_r2 (bk_S h), bnP_1]
        rw [show aI (wc σ (cw G (b + 13) (u1 f 3 (nI (chC (cF N) (cT N) (aK N a) (aC N a) c j)))) J) (some (b + 3 + 2)) 20 (nI (cF N c + j) + 1) = some (nI (cntV (cF N) (aK N a) (aC N a) (cF N c + j + 1))) by rw [nI_a1, sk_a2 (bk_S h) (by omega), rb_op (rf _) ha (by omega) (by omega)], bnP_1]
        by_cases q3 : 0 < cntV (cF N) (aK N a) (aC N a) (cF N c + j + 1)
        · rw [if_neg (nI_nle q3 (by omega)), cG, bnP_1, cP, bnP_1, bnS_1, u1_e, uu, nI_a1, hs, if_pos ⟨q2, q3⟩]
          exact fin _
        · rw [if_pos (by rw [show cntV (cF N) (aK N a) (aC N a) (cF N c + j + 1) = 0 by omega]; decide), bnS_1, hs, if_neg (fun q => q3 q.2), Nat.add_zero]
          exact fin _
      · rw [if_neg (by rw [nI_eq (by omega) hd]; exact q2), bnS_1, hs, if_neg (fun q => q2 q.1), Nat.add_zero]
        exact fin _
    · have q1 := enr_end cl h1 h2
      unfold fX2_followFrom_l1
      rw [cG, bnP_1, u1_k (by decide), f2]
      dsimp only
      rw [show cF N c + (cT N c - cF N c) = cT N c by omega, if_pos (nI_lt q1 hd)]
  refine ⟨u1 (u1 f 3 (nI (chC (cF N) (cT N) (aK N a) (aC N a) c (cT N c - cF N c)))) 1 (nI (cT N c - cF N c + 1)), ?_, ?_, ?_, ?_, ?_⟩
  · have hc0 := hcv (cF N c)
    have e0 : (if nI (cov (cF N) (cT N) (aK N a) (aC N a) (cF N c)) ≤ nI (dep (cF N) (cT N) (aK N a) c) then some ((some (b + 13) : Option Nat), (0 : Int32)) else some (some (b + 13), 1)) = some (some (b + 13), nI (chC (cF N) (cT N) (aK N a) (aC N a) c 0)) := by
      show _ = some ((some (b + 13) : Option Nat), nI (if dep (cF N) (cT N) (aK N a) c < cov (cF N) (cT N) (aK N a) (aC N a) (cF N c) then 1 else 0))
      by_cases q : dep (cF N) (cT N) (aK N a) c < cov (cF N) (cT N) (aK N a) (aC N a) (cF N c)
      · rw [if_neg (nI_ge q (by omega)), if_pos q]
        rfl
      · rw [if_pos (nI_le (by omega) hd), if_neg q]
        rfl
    have oc := hcV (cF N c)
    unfold fX2_followFrom
    rw [bk_co h, bnP_1, cG, bnP_1, f2, e0, bnP_1]
    dsimp only
    rw [cP, bnP_1, sk_r3 (bk_S h), bnP_1, cG, bnP_1, u1_k (by decide), f0, sk_a3 (bk_S h) (by omega), bnP_1, bnP_1, rb_cs (rf _) ha (by omega) (by omega), nI_sub (by omega), show cov (cF N) (cT N) (aK N a) (aC N a) (cF N c) - cntV (cT N) (aK N a) (aC N a) (cF N c) = enr (cF N) (cT N) (aK N a) (aC N a) (cF N c + 1) by omega, l1, bnS_1, cG, bnP_1, u1_k (by decide), f0, nI_sub c2, nI_a1, cP, bnP_1]
  · rw [u1_k (by decide), u1_k (by decide)]
    exact f0
  · rw [u1_e]
  · rw [u1_k (by decide), u1_k (by decide)]
    exact f2
  · rw [u1_k (by decide), u1_e, ch_all cl h1 h2]
theorem seek_step (h : BK σ b) (hw : WFN N) (r : RB G J b N) {a k : Nat} (ha : a < nAc N) (hk : k < aM N a) {v : Int32} (hv : v < nI (cntL (cF N) (aK N a) (aC N a) (aF N a + k)) ∨ (¬ v < nI (cntL (cF N) (aK N a) (aC N a) (aF N a + k)) ∧ nI (cntL (cF N) (aK N a) (aC N a) (aF N a + k + 1)) ≤ v)) : fX2_seek_l1 (some (b + 13)) (some (b + 3)) (some (b + 15 + a)) v (nI (cntL (cF N) (aK N a) (aC N a) (aF N a + k)), nI (enr (cF N) (cT N) (aK N a) (aC N a) (aF N a + k)), nI (aF N a + k)) (wc σ G J) = some (.inl (nI (cntL (cF N) (aK N a) (aC N a) (aF N a + (k + 1))), nI (enr (cF N) (cT N) (aK N a) (aC N a) (aF N a + (k + 1))), nI (aF N a + (k + 1))), wc σ G J) := by
  have hl := act_le hw.1 hw.2.1 ha
  have hb := w1_b hw.1
  obtain ⟨p1, p2, p3, p4, p5⟩ := (act_ok hw.1 hw.2.1 ha).1
  have hr := rb_act r ha
  have ft := cl_ft (w3_cl hw.2.2.1 ha)
  have s1 := cov_ent ft (aF N a + k)
  have s2 := ent_succ ft (aF N a + k)
  have s3 := cntL_succ (cF N) (aK N a) (aC N a) (aF N a + k)
  have e2 : nI (enr (cF N) (cT N) (aK N a) (aC N a) (aF N a + k)) + (nI (cntV (cF N) (aK N a) (aC N a) (aF N a + k)) - nI (cntV (cT N) (aK N a) (aC N a) (aF N a + k))) = nI (enr (cF N) (cT N) (aK N a) (aC N a) (aF N a + (k + 1))) := nI_stp (by rw [show aF N a + (k + 1) = aF N a + k + 1 from rfl]; omega)
  have e3 : nI (cntL (cF N) (aK N a) (aC N a) (aF N a + k)) + nI (cntV (cF N) (aK N a) (aC N a) (aF N a + k)) = nI (cntL (cF N) (aK N a) (aC N a) (aF N a + (k + 1))) := by rw [nI_add, ← s3]; rfl
  unfold fX2_seek_l1
  rw [bk_aI h p1, bnP_1, bk_aI h p1, bnP_1, hr.2.2.2.2.2.1, hr.2.2.2.2.2.2.1, p2, p3, nI_add]
  dsimp only
  rw [if_neg (nI_ge (by omega) (by omega))]
  have q2 := sk_a2 (G := G) (J := J) (bk_S h) (show aF N a + k < 240 by omega)
  have q3 := sk_a3 (G := G) (J := J) (bk_S h) (show aF N a + k < 240 by omega)
  rw [rb_op r ha (by omega) (by omega)] at q2
  rw [rb_cs r ha (by omega) (by omega)] at q3
  rcases hv with hv | ⟨hv, hv2⟩
  · rw [if_pos hv]
    simp only [sk_r2 (bk_S h), sk_r3 (bk_S h), bnP_1, q2, q3, e2, e3, nI_a1]
    rfl
  · rw [if_neg hv]
    simp only [sk_r2 (bk_S h), sk_r3 (bk_S h), bnP_1, q2, q3, e2, e3, nI_a1]
    exact if_pos hv2
theorem c_seek0 (h : BK σ b) (hw : WFN N) (r : RB G J b N) {a : Nat} (ha : a < nAc N) {v : Int32} (hv : v < 0 ∨ nI (aC N a) ≤ v) : fX2_seek (some (b + 13)) (some (b + 3)) (some (b + 15 + a)) v (wc σ G J) = some (false, wc σ G J) := by
  have hl := act_le hw.1 hw.2.1 ha
  have hb := w1_b hw.1
  obtain ⟨p1, p2, p3, p4, p5⟩ := (act_ok hw.1 hw.2.1 ha).1
  have hr := rb_act r ha
  have kb := w3_kb hw.2.1 hw.1 ha
  have cl := w3_cl hw.2.2.1 ha
  have hL : ∀ w, cntL (cF N) (aK N a) (aC N a) w ≤ aC N a := fun w => cntN_le _ _
  unfold fX2_seek
  have e : lpS (fX2_seek_l1 (some (b + 13)) (some (b + 3)) (some (b + 15 + a)) v) FUEL (0, 0, nI (aF N a)) (wc σ G J) = some (.inl (), wc σ G J) := by
    refine lpS_f (aM N a) (fun k => (nI (cntL (cF N) (aK N a) (aC N a) (aF N a + k)), nI (enr (cF N) (cT N) (aK N a) (aC N a) (aF N a + k)), nI (aF N a + k))) (fun _ => wc σ G J) (by rw [Nat.add_zero, cl_enr0 cl, cl_cntL0 cl]; rfl) rfl (by omega) (fun k hk => seek_step h hw r ha hk ?_) ?_
    · have l1 := hL (aF N a + k)
      have l2 := hL (aF N a + k + 1)
      rcases hv with hv | hv
      · left
        refine Int32.lt_of_lt_of_le hv ?_
        exact nI_pos' (by omega)
      · by_cases z : v < nI (cntL (cF N) (aK N a) (aC N a) (aF N a + k))
        · exact Or.inl z
        · exact Or.inr ⟨z, Int32.le_trans (nI_le l2 (by omega)) hv⟩
    · unfold fX2_seek_l1
      rw [bk_aI h p1, bnP_1, bk_aI h p1, bnP_1, hr.2.2.2.2.2.1, hr.2.2.2.2.2.2.1, p2, p3, nI_add]
      dsimp only
      rw [if_pos (nI_le (Nat.le_refl _) (by omega))]
  rw [bk_co h, bnP_1, bk_aI h p1, bnP_1, hr.2.2.2.2.2.1, p2, e, bnS_1]
theorem c_seek1 (h : BK σ b) (hw : WFN N) (r : RB G J b N) {a c : Nat} (ha : a < nAc N) (h1 : aK N a ≤ c) (h2 : c < aK N a + aC N a) : ∃ f, fX2_seek (some (b + 13)) (some (b + 3)) (some (b + 15 + a)) (nI (c - aK N a)) (wc σ G J) = some (true, wc σ (cw G (b + 13) f) J) ∧ f 0 = nI (cF N c) ∧ f 1 = nI (cT N c - cF N c + 1) ∧ f 2 = nI (dep (cF N) (cT N) (aK N a) c) ∧ f 3 = nI (cntN (fun i => decide (cA N (aK N a + i) = c + 1)) (aC N a)) := by
  have hl := act_le hw.1 hw.2.1 ha
  have hb := w1_b hw.1
  obtain ⟨p1, p2, p3, p4, p5⟩ := (act_ok hw.1 hw.2.1 ha).1
  have hr := rb_act r ha
  have kb := w3_kb hw.2.1 hw.1 ha
  have cl := w3_cl hw.2.2.1 ha
  have ft := cl_ft cl
  obtain ⟨c1, c2, c3, -, -⟩ := cl c h1 h2
  have hL : ∀ w, cntL (cF N) (aK N a) (aC N a) w ≤ aC N a := fun w => cntN_le _ _
  have hen : ∀ v, enr (cF N) (cT N) (aK N a) (aC N a) v ≤ aC N a := fun v => cntN_le _ _
  have ix := cl_idx cl h1 h2
  have s1 := cov_ent ft (cF N c)
  have s3 := cntL_succ (cF N) (aK N a) (aC N a) (cF N c)
  have g1 := cntL_gt cl h1 h2 (v := cF N c + 1) (by omega)
  have en := hen (cF N c)
  have lL := hL (cF N c + 1)
  generalize hf1 : u1 (u1 (G (b + 13)) 0 (nI (cF N c))) 2 (nI (dep (cF N) (cT N) (aK N a) c)) = f1
  have z0 : f1 0 = nI (cF N c) := by rw [← hf1]; rfl
  have z2 : f1 2 = nI (dep (cF N) (cT N) (aK N a) c) := by rw [← hf1]; rfl
  obtain ⟨f', hf, r0, r1, r2, r3⟩ := c_follow h hw r ha h1 h2 z0 z2
  refine ⟨f', ?_, r0, r1, r2, r3⟩
  unfold fX2_seek
  have e : lpS (fX2_seek_l1 (some (b + 13)) (some (b + 3)) (some (b + 15 + a)) (nI (c - aK N a))) FUEL (0, 0, nI (aF N a)) (wc σ G J) = some (.inr true, wc σ (cw G (b + 13) f') J) := by
    refine lpS_f (cF N c - aF N a) (fun k => (nI (cntL (cF N) (aK N a) (aC N a) (aF N a + k)), nI (enr (cF N) (cT N) (aK N a) (aC N a) (aF N a + k)), nI (aF N a + k))) (fun _ => wc σ G J) (by rw [Nat.add_zero, cl_enr0 cl, cl_cntL0 cl]; rfl) rfl (by omega) (fun k hk => seek_step h hw r ha (by omega) (Or.inr ?_)) ?_
    · have l1 := cntL_lt cl h1 h2 (v := aF N a + k) (by omega)
      have l2 := cntL_lt cl h1 h2 (v := aF N a + k + 1) (by omega)
      exact ⟨nI_nlt l1 (by omega), nI_le l2 (by omega)⟩
    · have l1 := ix.2.2
      unfold fX2_seek_l1
      rw [bk_aI h p1, bnP_1, bk_aI h p1, bnP_1, hr.2.2.2.2.2.1, hr.2.2.2.2.2.2.1, p2, p3, nI_add]
      dsimp only
      rw [show aF N a + (cF N c - aF N a) = cF N c by omega, if_neg (nI_ge (by omega) (by omega)), if_neg (nI_nlt l1 (by omega)), sk_r2 (bk_S h), bnP_1, sk_a2 (bk_S h) (by omega), bnP_1, rb_op r ha (by omega) (by omega), nI_add, if_neg (nI_ge (by omega) (by omega)), bk_cP h, bnP_1, up_is, bk_cP h, bnP_1, up_cw, nI_add, nI_sub (by omega), nI_a1]
      rw [show enr (cF N) (cT N) (aK N a) (aC N a) (cF N c) + (c - aK N a) - cntL (cF N) (aK N a) (aC N a) (cF N c) + 1 = dep (cF N) (cT N) (aK N a) c by omega, hf1, sk_r2 (bk_S h), bnP_1, sk_a2 (bk_S h) (by omega), bnP_1, rb_op (rb_s13 hw.1 r f1) ha (by omega) (by omega), nI_add, ← s1, hf, bnP_1]
  rw [bk_co h, bnP_1, bk_aI h p1, bnP_1, hr.2.2.2.2.2.1, p2, e, bnS_1]
end SEEK
