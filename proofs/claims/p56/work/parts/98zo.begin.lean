/-! THE PURE LEVEL, 99: the class begins an act -/
section BGA
variable {σ : HpT} {G G' G1 G3 : Nat → Nat → Int32} {J : Nat → Nat → Int64} {N0 N : tN} {kd : Int32} {c k L W l t a : Nat}
theorem rc_add (hw : WFN N) (h6 : nCp N0 = nCp N) (hc : ∀ c, c < nCp N → N0 (111 + 2 * c) = N (111 + 2 * c) ∧ N0 (111 + 2 * c + 1) = N (111 + 2 * c + 1) ∧ (∀ k, k < 5 → G' (l + 25 + c) k = G (l + 25 + c) k) ∧ (aF N0 (oO N c) = aF N (oO N c) ∧ aM N0 (oO N c) = aM N (oO N c)) ∧ ∀ g, aF N (oO N c) ≤ g → g < aF N (oO N c) + aM N (oO N c) → N0 (127 + 13 * g + 2) = N (127 + 13 * g + 2) ∧ N0 (127 + 13 * g + 4) = N (127 + 13 * g + 4)) (r : RC G l N) : RC G' l N0 := by
  intro c hcc
  rw [h6] at hcc
  obtain ⟨e0, e1, eg, ea, ew⟩ := hc c hcc
  have o0 : oO N0 c = oO N c := nv_e e0
  have o1 : oG N0 c = oG N c := nv_e e1
  have ef : fsN N0 (aF N (oO N c)) (aM N (oO N c)) = fsN N (aF N (oO N c)) (aM N (oO N c)) := fsN_cg fun k hk => (ew _ (by omega) (by omega)).1
  obtain ⟨r1, r2, r3, r4⟩ := r c hcc
  rw [o0, o1, ea.1, ea.2, ef, e1, eg 0 (by decide), eg 1 (by decide), eg 2 (by decide), eg 3 (by decide), eg 4 (by decide)]
  refine ⟨r1, r2, r3, ?_⟩
  rw [r4]
  refine sumI_cong fun k hk => ?_
  have q := ew (aF N (oO N c) + k) (by omega) (by omega)
  have hbq : hbN N0 (aF N (oO N c)) (aM N (oO N c)) (oG N c) (aF N (oO N c) + k) = hbN N (aF N (oO N c)) (aM N (oO N c)) (oG N c) (aF N (oO N c) + k) := by
    unfold hbN fstS lstS skN
    rw [ef, q.1]
  rw [hbq, q.2]
/-- the last leaf is had again, if words come on it -/
theorem c_lastLeaf (B : BK σ c) (hw : WFN N0) (r : RB G J c N0) (hW : nWd N0 < W) : ∃ G1, (if (thB N0 (nI (nLv N0) - 1) && stB N0 (nI (nLv N0) - 1) 2) = true then bnP (fX1_wordsOn (some c) (nI (nLv N0) - 1) (wc σ G J)) (fun x22 => bnP (gI (wc σ G J) (some c) 1 0) (fun x24 => (if x24 ≤ x22 then some ((), wc σ G J) else bnP (gR (wc σ G J) (some c) 1 9) (fun x26 => bnP (fX4_fasten x26 (nI (nLv N0) - 1) (wc σ G J)) (fun s30 => some ((), s30)))))) else some ((), wc σ G J)) = some ((), wc σ G1 J) ∧ (∀ a, a ≠ c + 11 → G1 a = G a) ∧ ∀ l, l < nLv N0 → G1 (c + 11) l = stA N0 W l := by
  have hb := w1_b hw.1
  have h12 := nlv_12 hw.1
  have hlv := r.1.2.2.2.2.2.2.2.2.2.2
  have hud : nLv N0 = if nWd N0 % nRm N0 = 0 then nWd N0 / nRm N0 else nWd N0 / nRm N0 + 1 := up_div (by omega)
  have hdm := Nat.div_add_mod (nWd N0) (nRm N0)
  have hmod := Nat.mod_lt (nWd N0) (show 0 < nRm N0 by omega)
  have est : ∀ l, l < nLv N0 → stA N0 W l = s0N N0 W l := fun l hl => by
    unfold stA
    rw [if_pos hl]
  by_cases z : nLv N0 = 0
  · have hneg : thB N0 (nI (nLv N0) - 1) = false := by
      unfold thB inR
      rw [z, show decide (nI 0 ≤ nI 0 - 1) = false by decide, Bool.false_and]
    rw [hneg, Bool.false_and, if_neg (by decide)]
    exact ⟨G, rfl, fun _ _ => rfl, fun l hl => by omega⟩
  · obtain ⟨m, hm⟩ : ∃ m, nLv N0 = m + 1 := ⟨nLv N0 - 1, by omega⟩
    have hth : thB N0 (nI m) = true := by
      unfold thB
      rw [inN_e (by omega) (by omega), decide_eq_true (by omega)]
    have hstb : stB N0 (nI m) 2 = decide (N0 (99 + m) = 2) := by
      unfold stB
      rw [nI_clamp (by omega)]
    have e1 : nI (nLv N0) - 1 = nI m := by rw [hm]; exact nI_pred m
    have eW : fX1_wordsOn (some c) (nI m) (wc σ G J) = some (nI (pOn N0 m)) := c_wordsOn B hw.1 r (by omega)
    have eF : fX4_fasten (some (c + 10)) (nI m) (wc σ G J) = some (wc σ (up G (c + 11) m 0) J) := c_fasten B hw r (by omega)
    rw [e1, hth, hstb, Bool.true_and]
    by_cases y : N0 (99 + m) = 2
    · have hmul : (m + 1) * nRm N0 = m * nRm N0 + nRm N0 := Nat.succ_mul _ _
      have hcm : nRm N0 * (nWd N0 / nRm N0) = nWd N0 / nRm N0 * nRm N0 := Nat.mul_comm _ _
      rw [decide_eq_true y, if_pos rfl, eW, bnP_1, bk_I B, bnP_1, r.1.1, (w1_e hw.1).1]
      by_cases u : nWd N0 % nRm N0 = 0
      · rw [if_pos u] at hud
        have hq : nWd N0 / nRm N0 = m + 1 := by omega
        rw [hq] at hcm hdm
        have hp : pOn N0 m = nRm N0 := by
          unfold pOn
          rw [if_pos (by omega)]
        rw [hp, if_pos (nI_le (Nat.le_refl _) (by omega))]
        refine ⟨G, rfl, fun _ _ => rfl, fun l hl => ?_⟩
        rw [est l hl, hlv l hl]
        unfold s0N
        rw [if_neg (fun q => q.2.1 u)]
      · rw [if_neg u] at hud
        have hq : nWd N0 / nRm N0 = m := by omega
        rw [hq] at hcm hdm
        have hp : pOn N0 m = nWd N0 - m * nRm N0 := by
          unfold pOn
          rw [if_neg (by omega)]
        rw [hp, if_neg (nI_ge (by omega) (by omega)), bk_r9 B, bnP_1, eF, bnP_1]
        refine ⟨_, rfl, fun a ha => up_a ha, fun l hl => ?_⟩
        rw [est l hl]
        unfold s0N
        by_cases x : l = m
        · rw [x, up_eq, if_pos ⟨hW, u, hq.symm, y⟩]
        · rw [up_k x, hlv l hl, if_neg (fun q => x (by rw [q.2.2.1]; exact hq))]
    · rw [decide_eq_false y, if_neg (by decide)]
      refine ⟨G, rfl, fun _ _ => rfl, fun l hl => ?_⟩
      rw [est l hl, hlv l hl]
      unfold s0N
      rw [if_neg]
      intro q
      rw [if_neg q.2.1] at hud
      have : l = m := by
        have := q.2.2.1
        omega
      rw [this] at q
      exact y q.2.2.2
theorem c_leavesOf' (B : BK σ c) (hw : W1 N0) (e0 : G c 0 = N0 0) {W : Nat} (hW : W < 241) : fX1_leavesOf (some c) (nI W) (wc σ G J) = some (nI ((W + nRm N0 - 1) / nRm N0)) := by
  have hb := w1_b hw
  have hz : nz (nI (nRm N0)) = some () := if_neg (nI_ne0 (by omega) (by omega))
  unfold fX1_leavesOf
  rw [bk_o B, bnP_1, bk_I B, bnP_1, e0, (w1_e hw).1, if_neg (show ¬ nI (nRm N0) ≤ 0 from nI_ge (a := 0) (by omega) (by omega)), bnP_1, bnP_1, hz, bnP_1, nI_add, nI_m1 (by omega), pk_div (by omega) (by omega) (by omega)]
theorem c_start (B : BK σ c) (ha : a < 10) (v1 v2 v3 v4 : Int32) : ∃ G', fX0_start (some (c + 15 + a)) v1 v2 v3 v4 (wc σ G J) = some (wc σ G' J) ∧ (∀ i, i ≠ c + 15 + a → G' i = G i) ∧ G' (c + 15 + a) 0 = v1 ∧ G' (c + 15 + a) 1 = v2 ∧ G' (c + 15 + a) 2 = 0 ∧ G' (c + 15 + a) 3 = 0 ∧ G' (c + 15 + a) 4 = 0 ∧ G' (c + 15 + a) 5 = v3 ∧ G' (c + 15 + a) 6 = v4 ∧ G' (c + 15 + a) 7 = 0 := by
  refine ⟨up (up (up (up (up (up (up (up G (c + 15 + a) 0 v1) (c + 15 + a) 1 v2) (c + 15 + a) 2 0) (c + 15 + a) 3 0) (c + 15 + a) 4 0) (c + 15 + a) 5 v3) (c + 15 + a) 6 v4) (c + 15 + a) 7 0, ?_, fun i hi => ?_, ?_, ?_, ?_, ?_, ?_, ?_, ?_, ?_⟩
  · unfold fX0_start
    rw [bk_ao B ha, bnP_1, bk_aP B ha, bnP_1, bk_aP B ha, bnP_1, bk_aP B ha, bnP_1, bk_aP B ha, bnP_1, bk_aP B ha, bnP_1, bk_aP B ha, bnP_1, bk_aP B ha, bnP_1, bk_aP B ha, bnP_1]
  · rw [up_a hi, up_a hi, up_a hi, up_a hi, up_a hi, up_a hi, up_a hi, up_a hi]
  · rw [up_k (by decide), up_k (by decide), up_k (by decide), up_k (by decide), up_k (by decide), up_k (by decide), up_k (by decide), up_eq]
  · rw [up_k (by decide), up_k (by decide), up_k (by decide), up_k (by decide), up_k (by decide), up_k (by decide), up_eq]
  · rw [up_k (by decide), up_k (by decide), up_k (by decide), up_k (by decide), up_k (by decide), up_eq]
  · rw [up_k (by decide), up_k (by decide), up_k (by decide), up_k (by decide), up_eq]
  · rw [up_k (by decide), up_k (by decide), up_k (by decide), up_eq]
  · rw [up_k (by decide), up_k (by decide), up_eq]
  · rw [up_k (by decide), up_eq]
  · rw [up_eq]
theorem c_beginAct (B : BK σ c) (hw : WFN N0) (r : RB G J c N0) (ha : nAc N0 < 10) (b : BI N0 N kd 0 0) (q : BC G J c N0 N) (hW : nWd N0 < nWd N) (wf : WFN N) : ∃ G', fX1_beginAct (some c) kd (nI (nWd N - nWd N0)) (wc σ G J) = some (wc σ G' J) ∧ (∀ a, a < c ∨ c + 33 ≤ a → G' a = G a) ∧ RB G' J c N := by
  have hb := bi_b hw b
  have hb0 := w1_b hw.1
  have hrm := (bi_rm hw b).1
  have he := w1_e hw.1
  have h12 := nlv_12 hw.1
  have hL := bk_L B
  have hs := bk_S B
  obtain ⟨G1, x1, x2, x3⟩ := c_lastLeaf (W := nWd N) B hw r hW
  obtain ⟨⟨r1, r2, r3, r4, r5, r6, r7, r8, r9, r10, r11⟩, ⟨rw1, rw2⟩, rc⟩ := r
  have r0 : RB G J c N0 := ⟨⟨r1, r2, r3, r4, r5, r6, r7, r8, r9, r10, r11⟩, ⟨rw1, rw2⟩, rc⟩
  have esz : gI (wc σ G J) (some (c + 3)) 8 0 = some (nI (nWd N0)) := by rw [sk_I hs, r7, he.2.2.1]
  have elost := c_isLostV (G := G) (J := J) B hw r0 (nI (nLv N0) - 1)
  obtain ⟨G2, s1, s2, s3⟩ := c_start (σ := σ) (G := G1) (J := J) (a := nAc N0) B ha (nI (nAc N0 + 1)) kd (nI (nWd N0)) (nI (nWd N - nWd N0))
  generalize hG4 : up (up G2 c 2 (nI (nAc N0 + 1))) (c + 3) 0 (nI (nWd N)) = G4
  have o4 : ∀ a, a ≠ c → a ≠ c + 3 → G4 a = G2 a := fun a a1 a2 => by rw [← hG4, up_a a2, up_a a1]
  have oc : ∀ j, j ≠ 2 → G4 c j = G2 c j := fun j hj => by rw [← hG4, up_a (by omega), up_k hj]
  have oc2 : G4 c 2 = nI (nAc N0 + 1) := by rw [← hG4, up_a (by omega), up_eq]
  have o30 : G4 (c + 3) 0 = nI (nWd N) := by rw [← hG4, up_eq]
  have g2c : ∀ j, G2 c j = G c j := fun j => by rw [s2 c (by omega), x2 c (by omega)]
  have eLv : (nWd N + nRm N0 - 1) / nRm N0 = nLv N := by
    show _ = (nWd N + nRm N - 1) / nRm N
    rw [hrm]
  obtain ⟨G5, t1, t2, t3, t4, t5⟩ := c_extendTo (σ := σ) (J := J) (G := G4) (N0 := N0) (W := nWd N) (k := nLv N0) (t := nLv N) hL hw.1 (by rw [o4 _ (by omega) (by omega), s2 _ (by omega), x2 _ (by omega)]; exact r8) (by rw [o4 _ (by omega) (by omega), s2 _ (by omega), x2 _ (by omega)]; exact r9) (Nat.le_refl _) hb.2.2.2.2 hb.2.2.2.1 (fun l hl => by
    rw [o4 _ (by omega) (by omega), s2 _ (by omega)]
    exact x3 l hl)
  have eall : ∀ a, a ≠ c → a ≠ c + 3 → a ≠ c + 10 → a ≠ c + 11 → a ≠ c + 15 + nAc N0 → G5 a = G a := fun a a1 a2 a3 a4 a5 => by rw [t2 a a3 a4, o4 a a1 a2, s2 a a5, x2 a a4]
  have e5c : ∀ j, j ≠ 2 → G5 c j = G c j := fun j hj => by rw [t2 c (by omega) (by omega), oc j hj, g2c]
  refine ⟨G5, ?_, fun a h => eall a (by omega) (by omega) (by omega) (by omega) (by omega), ?_⟩
  · unfold fX1_beginAct
    rw [bk_o B, bnP_1, bk_I B, bnP_1, r3, he.2.1, if_neg (show ¬ 10 ≤ nI (nAc N0) from nI_ge (b := 10) ha (by decide)), bk_r8 B, bnP_1, esz, bnP_1, c_mostW B hw.1 r0, bnP_1, nI_add, if_pos (nI_le (by have := b.2.1.2.2.2.2; omega) (by omega)), bk_r9 B, bnP_1, lk_I hL, bnP_1, r9, bnP_1, elost, bnP_1]
    rw [bk_r9 B] at x1
    rw [x1, bnS_1, bk_r6 B, bnP_1, bk_I B, bnP_1, x2 c (by omega), r3, he.2.1, bk_aR B ha, bnP_1, bnP_1, bk_r8 B, bnP_1, sk_I hs, bnP_1, x2 (c + 3) (by omega), r7, he.2.2.1, nI_a1, s1, bnP_1, bk_I B, bnP_1, g2c, r3, he.2.1, bk_P B, bnP_1, bk_r8 B, bnP_1, sk_I hs, bnP_1, up_a (by omega), s2 (c + 3) (by omega), x2 (c + 3) (by omega), r7, he.2.2.1, nI_a1, nI_add, show nWd N0 + (nWd N - nWd N0) = nWd N by omega, sk_P hs, bnP_1, hG4, bk_r9 B, bnP_1, bk_r8 B, bnP_1, sk_I hs, bnP_1, o30, c_leavesOf' B hw.1 (by rw [oc 0 (by decide), g2c]; exact r1) (by omega), bnP_1, eLv, t1, bnP_1]
  · obtain ⟨fr, ⟨n3, n4, n5, k0, w12⟩, ⟨⟨a1, a2, a3, a4, a5⟩, a6, a7, a8, a9⟩, cells, words, bv, lv⟩ := b
    have fr6 : N 6 = N0 6 := fr 6 (by decide) (by decide) (by decide) (by omega) (by omega) (by omega) (by omega)
    have eA : nAc N = nAc N0 + 1 := nv_n n3 (by omega)
    have hA : ∀ a, a < nAc N0 → ∀ i, i < 9 → N (9 + 9 * a + i) = N0 (9 + 9 * a + i) := fun a h i hi => fr _ (by omega) (by omega) (by omega) (by omega) (by omega) (by omega) (by omega)
    have hC : ∀ c, c < nCl N0 → ∀ i, i < 3 → N (3247 + 3 * c + i) = N0 (3247 + 3 * c + i) := fun c h i hi => fr _ (by omega) (by omega) (by omega) (by omega) (by omega) (by omega) (by omega)
    have hG : ∀ g, g < nWd N0 → ∀ i, i < 13 → N (127 + 13 * g + i) = N0 (127 + 13 * g + i) := fun g h i hi => fr _ (by omega) (by omega) (by omega) (by omega) (by omega) (by omega) (by omega)
    have hP : ∀ j, 111 ≤ j → j < 127 → N j = N0 j := fun j h1 h2 => fr _ (by omega) (by omega) (by omega) (by omega) (by omega) (by omega) (by omega)
    have hlo : ∀ j, j < 9 → j ≠ 3 → j ≠ 4 → j ≠ 5 → N j = N0 j := fun j h1 h2 h3 h4 => fr _ h2 h3 h4 (by omega) (by omega) (by omega) (by omega)
    have fF : ∀ a, a < nAc N0 → aF N a = aF N0 a := fun a z => nv_e (hA a z 5 (by decide))
    have fM : ∀ a, a < nAc N0 → aM N a = aM N0 a := fun a z => nv_e (hA a z 6 (by decide))
    have fK : ∀ a, a < nAc N0 → aK N a = aK N0 a := fun a z => nv_e (hA a z 7 (by decide))
    have fC : ∀ a, a < nAc N0 → aC N a = aC N0 a := fun a z => nv_e (hA a z 8 (by decide))
    have eFn : aF N (nAc N0) = nWd N0 := nv_n (by rw [show 9 + 9 * nAc N0 + 5 = 14 + 9 * nAc N0 by omega]; exact a6) (by omega)
    have eMn : aM N (nAc N0) = nWd N - nWd N0 := nv_n (by rw [show 9 + 9 * nAc N0 + 6 = 15 + 9 * nAc N0 by omega]; exact a7) (by omega)
    have eKn : aK N (nAc N0) = nCl N0 := nv_n (by rw [show 9 + 9 * nAc N0 + 7 = 16 + 9 * nAc N0 by omega]; exact a8) (by omega)
    have eCn : aC N (nAc N0) = nCl N - nCl N0 := nv_n (by rw [show 9 + 9 * nAc N0 + 8 = 17 + 9 * nAc N0 by omega]; exact a9) (by omega)
    have etO : ∀ c, nCl N0 ≤ c → c < nCl N → tO N c = cT N c := fun c c1 c2 => by
      unfold tO
      by_cases z : N (3247 + 3 * c + 1) = nO
      · exfalso
        have hno : tO N c = 1000 := by
          unfold tO
          rw [if_pos z]
        rcases bv.2.2.2.2 with ⟨-, s⟩ | ⟨p, s, -⟩
        · exact s c c1 (by omega) hno
        · omega
      · rw [if_neg z]
    have ac : c + 15 + nAc N0 ≠ c + 10 ∧ c + 15 + nAc N0 ≠ c + 11 ∧ c + 15 + nAc N0 ≠ c ∧ c + 15 + nAc N0 ≠ c + 3 := by omega
    have e5a : ∀ j, G5 (c + 15 + nAc N0) j = G2 (c + 15 + nAc N0) j := fun j => by rw [t2 _ ac.1 ac.2.1, o4 _ ac.2.2.1 ac.2.2.2]
    refine ⟨⟨?_, ?_, ?_, ?_, ?_, ?_, ?_, ?_, t4, fun a h => ?_, fun l hl => ?_⟩, ⟨fun g h => ?_, fun a h g h1 h2 => ?_⟩, ?_⟩
    · rw [e5c 0 (by decide), hlo 0 (by decide) (by decide) (by decide) (by decide)]
      exact r1
    · rw [e5c 1 (by decide), hlo 1 (by decide) (by decide) (by decide) (by decide)]
      exact r2
    · rw [t2 c (by omega) (by omega), oc2, n3]
    · rw [e5c 3 (by decide), hlo 6 (by decide) (by decide) (by decide) (by decide)]
      exact r4
    · rw [e5c 4 (by decide), hlo 7 (by decide) (by decide) (by decide) (by decide)]
      exact r5
    · rw [e5c 5 (by decide), hlo 8 (by decide) (by decide) (by decide) (by decide)]
      exact r6
    · rw [t2 _ (by omega) (by omega), o30, n4]
    · rw [t3 0 (by decide), o4 _ (by omega) (by omega), s2 _ (by omega), x2 _ (by omega), hlo 2 (by decide) (by decide) (by decide) (by decide)]
      exact r8
    · by_cases z : a < nAc N0
      · have h0 := hA a z 0 (by decide)
        rw [Nat.add_zero] at h0
        rw [eall _ (by omega) (by omega) (by omega) (by omega) (by omega), h0, hA a z 1 (by decide), hA a z 2 (by decide), hA a z 3 (by decide), hA a z 4 (by decide), hA a z 5 (by decide), hA a z 6 (by decide)]
        exact r10 a z
      · obtain rfl : a = nAc N0 := by omega
        obtain ⟨p0, p1, p2, p3, p4, p5, p6, p7⟩ := s3
        rw [e5a, e5a, e5a, e5a, e5a, e5a, e5a, e5a, p0, p1, p2, p3, p4, p5, p6, p7, show 9 + 9 * nAc N0 + 1 = 10 + 9 * nAc N0 by omega, show 9 + 9 * nAc N0 + 2 = 11 + 9 * nAc N0 by omega, show 9 + 9 * nAc N0 + 3 = 12 + 9 * nAc N0 by omega, show 9 + 9 * nAc N0 + 4 = 13 + 9 * nAc N0 by omega, show 9 + 9 * nAc N0 + 5 = 14 + 9 * nAc N0 by omega, show 9 + 9 * nAc N0 + 6 = 15 + 9 * nAc N0 by omega, a1, a2, a3, a4, a5, a6, a7]
        exact ⟨rfl, rfl, rfl, rfl, rfl, rfl, rfl, rfl⟩
    · rw [show c + 11 = c + 10 + 1 from rfl, t5 l hl, lv l hl]
    · rw [eall (c + 7) (by omega) (by omega) (by omega) (by omega) (by omega), eall (c + 8) (by omega) (by omega) (by omega) (by omega) (by omega)]
      by_cases z : g < nWd N0
      · have h0 := hG g z 0 (by decide)
        rw [Nat.add_zero] at h0
        rw [h0, hG g z 1 (by decide), hG g z 2 (by decide), hG g z 4 (by decide), show wN' N g = wN' N0 g from nv_e (hG g z 4 (by decide))]
        obtain ⟨p1, p2, p3, p4⟩ := rw1 g z
        have h4 : wN' N0 g < 5 := (hw.2.2.2.1 g z).1.2
        refine ⟨p1, p2, p3, fun j hj => ?_⟩
        rw [show 127 + 13 * g + 5 + 2 * j = 127 + 13 * g + (5 + 2 * j) by omega, hG g z (5 + 2 * j) (by omega), show 127 + 13 * g + (5 + 2 * j) + 1 = 127 + 13 * g + (6 + 2 * j) by omega, hG g z (6 + 2 * j) (by omega)]
        have := p4 j hj
        rw [show 127 + 13 * g + 5 + 2 * j = 127 + 13 * g + (5 + 2 * j) by omega, show 127 + 13 * g + (5 + 2 * j) + 1 = 127 + 13 * g + (6 + 2 * j) by omega] at this
        exact this
      · obtain ⟨p1, -, -, p7, p8⟩ := q.2 g (by omega) h
        obtain ⟨w2, w4, -⟩ := words g (by omega) h
        rw [p7, p8, w2, w4]
        refine ⟨p1, rfl, rfl, fun j hj => ?_⟩
        have : wN' N g = 0 := nv_n (n := 0) w4 (by decide)
        omega
    · rw [eall (c + 5) (by omega) (by omega) (by omega) (by omega) (by omega), eall (c + 6) (by omega) (by omega) (by omega) (by omega) (by omega)]
      by_cases z : a < nAc N0
      · have hkb := w3_kb hw.2.1 hw.1 z
        rw [fF a z, fM a z] at *
        rw [fK a z, fC a z, cntV_cong (fun k _ hk => (nv_e (hC k (by omega) 0 (by decide)) : cF N k = cF N0 k)), cntV_cong (fun k _ hk => (nv_e (hC k (by omega) 1 (by decide)) : cT N k = cT N0 k))]
        exact rw2 a z g h1 h2
      · obtain rfl : a = nAc N0 := by omega
        rw [eFn, eMn] at *
        obtain ⟨-, p5, p6, -, -⟩ := q.2 g (by omega) (by omega)
        rw [eKn, eCn, p5, p6, cntV_cong (fun k k1 k2 => (etO k k1 (by omega)).symm)]
        exact ⟨rfl, rfl⟩
    · refine rc_add hw (nv_e fr6) (fun k hk => ?_) rc
      have ho := (w4_c hw.2.2.2 hk).1.1
      have hl := act_le hw.1 hw.2.1 ho
      exact ⟨hP _ (by omega) (by omega), hP _ (by omega) (by omega), fun i _ => by rw [eall _ (by omega) (by omega) (by omega) (by omega) (by omega)], ⟨fF _ ho, fM _ ho⟩, fun g g1 g2 => ⟨hG g (by omega) 2 (by decide), hG g (by omega) 4 (by decide)⟩⟩
end BGA
