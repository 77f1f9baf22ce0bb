/-! THE PURE LEVEL, 92: the reference reads an act's body, item by item -/
section MIT
variable {σ : HpT} {G : Nat → Nat → Int32} {f : Nat → Int32} {e p n : Nat} {N0 N N' M R : tN} {kd lo hi : Int32} {cur d cur' d' a l W : Nat} {x : Nat × Nat}
theorem m_closes (h : MK σ 80) (hw : WFN N0) (ha : nAc N0 < 10) (b : BI N0 N kd (n + 1) d) (e81 : G 81 = N) (g17 : G 80 17 = 0) (g19 : G 80 19 = nI (n + 1)) (g20 : G 80 20 = nI d) (hp : cF N n ≠ nWd N) : fX10_closesClause (some 80) (wi σ G) = some (wi σ (cw (cw G 81 (cbN N n)) 80 (u1 (u1 (G 80) 19 (nI (cA N n))) 20 (nI (d - 1))))) := by
  have hb := bi_b hw b
  have n4 := b.2.1.2.1
  obtain ⟨-, hd, p1, p2⟩ := bi_close hw ha b hp
  have hcl := (b.2.2.2.1 n p1 p2)
  have hFb := (b.2.2.2.2.2.1.2.1 n p1 (by omega)).1
  have hG : G = cw G 81 N := by rw [← e81, cw_self]
  have hi1 : nI (n + 1) - 1 = nI n := nI_pred n
  have e0 : fX10_ofClause (some 80) (nI n) 0 (wi σ (cw G 81 N)) = some (nI (cF N n)) := by
    rw [show fX10_ofClause (some 80) (nI n) 0 (wi σ (cw G 81 N)) = _ from mC1 h n 0 (by omega)]
    exact congrArg some hcl.1
  unfold fX10_closesClause
  rw [mk_o h, bnP_1, mk_I h, bnP_1, mk_I h, bnP_1, g19, g20, hi1, if_neg (show ¬ nI d = 0 from fun z => by have := (nI_eq (b := 0) (by omega) (by decide)).mp z; omega), hG, e0, bnP_1, mk_r1 h, bnP_1, show aI (wi σ (cw G 81 N)) (some (80 + 1)) 20 4 = _ from mA1 h (n := 4) (by decide), bnP_1, n4, if_neg (show ¬ nI (cF N n) = nI (nWd N) from fun z => hp ((nI_eq (by omega) (by omega)).mp z)), bnS_1, mF1 h, bnP_1, g17, if_pos (show (0 : Int32) ≤ 0 by decide), mk_r1 h, bnP_1, bnP_1, show aI (wi σ (cw G 81 N)) (some (80 + 1)) 20 4 = _ from mA1 h (n := 4) (by decide), bnP_1, n4, show (3247 : Int32) + 3 * nI n + 1 = nI (3247 + 3 * n + 1) from i_lin 3247 3 n 1, mS1 h (by omega), bnP_1]
  have e2 : fX10_ofClause (some 80) (nI n) 2 (wi σ (cw G 81 (u1 N (3247 + 3 * n + 1) (nI (nWd N) - 1)))) = some (nI (cA N n)) := by
    rw [show fX10_ofClause (some 80) (nI n) 2 (wi σ (cw G 81 (u1 N (3247 + 3 * n + 1) (nI (nWd N) - 1)))) = _ from mC1 h n 2 (by omega), u1_k (by omega)]
    exact congrArg some hcl.2.1
  have hc : u1 N (3247 + 3 * n + 1) (nI (nWd N) - 1) = cbN N n := by
    unfold cbN
    rw [show 3247 + 3 * n + 1 = 3248 + 3 * n by omega, nI_m1 (by omega)]
  rw [e2, bnP_1, mk_P h, bnP_1, mk_I h, bnP_1, up_k (by decide), cw_b (by decide), g20, mk_P h, bnP_1, hc, up_is (cw G 81 (cbN N n)), up_cw, cw_b (by decide), cw_b (by decide), cw_cw, nI_m1 (by omega)]
theorem m_comesLeaf (h : MK σ 80) (w1 : W1 M) (hl : l < 12) : fX10_comesLeaf (some 80) (nI l) (wi σ (cw G 81 M)) = some (wi σ (cw G 81 (u1 M (99 + l) (cmL M l)))) := by
  have e81 : cw G 81 M (80 + 1) = M := cw_a _ _ _
  have h12 := nlv_12 w1
  unfold fX10_comesLeaf cmL
  rw [mk_o h, bnP_1, m_mateOf h (by rw [e81]; exact w1) (by omega), bnP_1, mk_r1 h, bnP_1, e81]
  have s0 : ∀ x, sI (wi σ (cw G 81 M)) (some (80 + 1)) (99 + nI l) x = some (wi σ (cw G 81 (u1 M (99 + l) x))) := fun x => by
    rw [show 99 + nI l = nI (99 + l) from nI_add 99 l, mS1 h (by omega)]
  by_cases q : mtQ M l = nO
  · rw [if_pos q, if_pos (show mtQ M l = -1 from q), bnP_1]
    dsimp only
    rw [s0, bnP_1]
  · have hm : ∃ m, mtQ M l = nI m ∧ m < nLv M := by
      unfold mtQ at *
      split at q
      · exact absurd rfl q
      · split at q
        · rename_i z1 z2
          rw [if_neg z1, if_pos z2]
          exact ⟨_, rfl, z2⟩
        · exact absurd rfl q
    obtain ⟨m, em, hm⟩ := hm
    rw [if_neg q, if_neg (show ¬ mtQ M l = -1 from q), bnP_1, em, show 99 + nI m = nI (99 + m) from nI_add 99 m, mA1 h (by omega), bnP_1, nI_clamp (by omega)]
    by_cases y : M (99 + m) = 2
    · rw [if_pos y, if_pos y, bnP_1]
      dsimp only
      rw [s0, bnP_1]
    · rw [if_neg y, if_neg y, bnP_1]
      dsimp only
      rw [s0, bnP_1]
theorem m_addsWord (h : MK σ 80) (hw : WFN N0) (ha : nAc N0 < 10) (b : BI N0 N kd cur d) (g : MG0 f e p N G) (g19 : G 80 19 = nI cur) (k1 : tkK f e p = 1) (hW : nWd N < 12 * nRm N0) : fX10_addsWord (some 80) (nI (nAc N0)) (wi σ G) = some (wi σ (cw G 81 (adW N (nAc N0) cur (wLo f e p) (wHi f e p)))) := by
  have hb := bi_b hw b
  have hb0 := w1_b hw.1
  have hrm := (bi_rm hw b).1
  have hc := bi_cur b
  have n4 := b.2.1.2.1
  have w1 := (bi_word (lo := wLo f e p) (hi := wHi f e p) hw ha b hW (by omega)).2
  have hG : G = cw G 81 N := by rw [← g.2.2, cw_self]
  have hwd := tk_wd g.1.2.1 k1
  have hbb := tk_b (f := f) g.1.2.1
  have g13 := g.2.1.2.1
  have g14 := g.2.1.2.2.1
  have he := g.1.1
  have hf : ∀ k, k < tkX f e p - tkS f e p → G 86 (tkS f e p + k) = nI (96 + lf f (tkS f e p + k)) ∧ 1 ≤ lf f (tkS f e p + k) ∧ lf f (tkS f e p + k) ≤ 26 := fun k hk => by
    rw [g.1.2.2 _ (by omega)]
    exact hwd.2.2 k hk
  have p0 : ∀ R, fX10_partOf (some 80) (nI (tkS f e p)) (nI (tkX f e p - tkS f e p)) 0 (wi σ (cw G 81 R)) = some (wLo f e p) := fun R => m_partOf h (at0 := tkS f e p) hwd.2.1 (by omega) (f := fun k => lf f (tkS f e p + k)) (fun k hk => by
    rw [cw_b (by decide)]
    exact hf k hk) 0 (by decide)
  have p1 : ∀ R, fX10_partOf (some 80) (nI (tkS f e p)) (nI (tkX f e p - tkS f e p)) 1 (wi σ (cw G 81 R)) = some (wHi f e p) := fun R => m_partOf h (at0 := tkS f e p) hwd.2.1 (by omega) (f := fun k => lf f (tkS f e p + k)) (fun k hk => by
    rw [cw_b (by decide)]
    exact hf k hk) 1 (by decide)
  have i0 : (127 : Int32) + 13 * nI (nWd N) = nI (127 + 13 * nWd N) := by
    show nI 127 + nI 13 * nI (nWd N) = _
    rw [pk_mul, nI_add]
  have lp : lpS (fX10_addsWord_l1 (some 80) (nI (nAc N0)) (nI (nWd N)) (nI (127 + 13 * nWd N))) FUEL 0 (wi σ (cw G 81 N)) = some ((), wi σ (cw G 81 (fun j => if 127 + 13 * nWd N ≤ j ∧ j < 127 + 13 * nWd N + 13 then 0 else N j))) := by
    refine lpS_f 13 (fun k => nI k) (fun k => wi σ (cw G 81 (fun j => if 127 + 13 * nWd N ≤ j ∧ j < 127 + 13 * nWd N + k then 0 else N j))) rfl ?_ (by decide) (fun k hk => ?_) ?_
    · show wi σ (cw G 81 _) = wi σ (cw G 81 _)
      congr 2
      funext j
      rw [if_neg (by omega)]
    · unfold fX10_addsWord_l1
      rw [if_neg (show ¬ 13 ≤ nI k from nI_ge (b := 13) hk (by decide)), mk_r1 h, bnP_1, nI_add, mS1 h (by omega), bnP_1, nI_a1]
      congr 4
      funext j
      unfold u1
      by_cases z : j = 127 + 13 * nWd N + k
      · rw [if_pos z, if_pos (by omega)]
      · rw [if_neg z]
        dsimp only
        by_cases y : 127 + 13 * nWd N ≤ j ∧ j < 127 + 13 * nWd N + k
        · rw [if_pos y, if_pos (by omega)]
        · rw [if_neg y, if_neg (by omega)]
    · unfold fX10_addsWord_l1
      rw [if_pos (show 13 ≤ nI 13 by decide)]
  unfold fX10_addsWord
  rw [mk_o h, bnP_1, hG, mk_r1 h, bnP_1, show aI (wi σ (cw G 81 N)) (some (80 + 1)) 20 4 = _ from mA1 h (n := 4) (by decide), bnP_1, n4, i0, lp, bnS_1]
  generalize hR0 : (fun j => if 127 + 13 * nWd N ≤ j ∧ j < 127 + 13 * nWd N + 13 then (0 : Int32) else N j) = R0
  have r0 : ∀ j, ¬ (127 + 13 * nWd N ≤ j ∧ j < 127 + 13 * nWd N + 13) → R0 j = N j := fun j hj => by
    rw [← hR0]
    exact if_neg hj
  rw [mk_r1 h, bnP_1, mF1 h, bnP_1, mF1 h, bnP_1, bnP_1, g13, g14, nI_sub (by omega), p0, bnP_1, show nI (127 + 13 * nWd N) + 0 = nI (127 + 13 * nWd N + 0) from nI_add _ 0, mS1 h (by omega), bnP_1]
  rw [mk_r1 h, bnP_1, mF1 h, bnP_1, mF1 h, bnP_1, bnP_1, g13, g14, nI_sub (by omega), p1, bnP_1, show nI (127 + 13 * nWd N) + 1 = nI (127 + 13 * nWd N + 1) from nI_add _ 1, mS1 h (by omega), bnP_1]
  rw [mk_r1 h, bnP_1, mF1 h, bnP_1, g19, show nI (127 + 13 * nWd N) + 3 = nI (127 + 13 * nWd N + 3) from nI_add _ 3, mS1 h (by omega), bnP_1]
  generalize hR : u1 (u1 (u1 R0 (127 + 13 * nWd N + 0) (wLo f e p)) (127 + 13 * nWd N + 1) (wHi f e p)) (127 + 13 * nWd N + 3) (nI cur) = R
  have r4 : R 4 = nI (nWd N) := by rw [← hR, u1_k (by omega), u1_k (by omega), u1_k (by omega), r0 _ (by omega)]; exact n4
  have r15 : R (9 + 9 * nAc N0 + 6) = N (15 + 9 * nAc N0) := by
    rw [← hR, u1_k (by omega), u1_k (by omega), u1_k (by omega), r0 _ (by omega)]
    congr 1
    omega
  rw [mk_r1 h, bnP_1, show aI (wi σ (cw G 81 R)) (some (80 + 1)) 20 4 = _ from mA1 h (n := 4) (by decide), bnP_1, r4, nI_a1, show sI (wi σ (cw G 81 R)) (some (80 + 1)) 4 (nI (nWd N + 1)) = _ from mS1 h (n := 4) (by decide), bnP_1, show fX10_ofAct (some 80) (nI (nAc N0)) 6 (wi σ (cw G 81 (u1 R 4 (nI (nWd N + 1))))) = _ from mO1 h (nAc N0) 6 (by omega), bnP_1, u1_k (by omega), r15, show fX10_putsAct (some 80) (nI (nAc N0)) 6 (N (15 + 9 * nAc N0) + 1) (wi σ (cw G 81 (u1 R 4 (nI (nWd N + 1))))) = _ from mP1 h (nAc N0) 6 _ (by omega), bnP_1]
  have hfin : u1 (u1 R 4 (nI (nWd N + 1))) (9 + 9 * nAc N0 + 6) (N (15 + 9 * nAc N0) + 1) = adB N (nAc N0) cur (wLo f e p) (wHi f e p) := by
    funext j
    rw [← hR, ← hR0]
    unfold u1 adB
    by_cases z8 : j = 9 + 9 * nAc N0 + 6
    · rw [if_pos z8, if_neg (by omega), if_neg (by omega), if_neg (by omega), if_neg (by omega), if_neg (by omega), if_pos (by omega)]
    · rw [if_neg z8]
      by_cases z5 : j = 4
      · rw [if_pos z5, if_neg (by omega), if_neg (by omega), if_neg (by omega), if_neg (by omega), if_pos z5]
      · rw [if_neg z5]
        by_cases z3 : j = 127 + 13 * nWd N + 3
        · rw [if_pos z3, if_neg (by omega), if_neg (by omega), if_pos (by omega)]
        · rw [if_neg z3]
          by_cases z1 : j = 127 + 13 * nWd N + 1
          · rw [if_pos z1, if_neg (by omega), if_pos (by omega)]
          · rw [if_neg z1]
            by_cases z0 : j = 127 + 13 * nWd N
            · rw [if_pos (show j = 127 + 13 * nWd N + 0 from z0), if_pos z0]
            · rw [if_neg (show ¬ j = 127 + 13 * nWd N + 0 from z0), if_neg z0, if_neg (show ¬ j = 128 + 13 * nWd N by omega), if_neg (show ¬ j = 130 + 13 * nWd N by omega)]
              dsimp only
              by_cases y : 127 + 13 * nWd N ≤ j ∧ j < 127 + 13 * nWd N + 13
              · rw [if_pos y, if_pos (by omega)]
              · rw [if_neg y, if_neg (by omega), if_neg z5, if_neg (by omega)]
  rw [hfin]
  unfold adW lvN
  generalize hM : adB N (nAc N0) cur (wLo f e p) (wHi f e p) = M at *
  have m0 : M 0 = N 0 := by
    rw [← hM]
    unfold adB
    rw [if_neg (by omega), if_neg (by omega), if_neg (by omega), if_neg (by omega), if_neg (by omega), if_neg (by omega)]
  have hrM : nRm M = nRm N0 := (nv_e m0).trans hrm
  have em0 : M 0 = nI (nRm N0) := by rw [m0, (bi_rm hw b).2.2.1]; exact (w1_e hw.1).1
  have hz : nz (nI (nRm N0)) = some () := if_neg (nI_ne0 (by omega) (by omega))
  have hlt : nWd N / nRm N0 < 12 := Nat.div_lt_of_lt_mul (by rw [Nat.mul_comm]; exact hW)
  have hmod := Nat.mod_lt (nWd N) (show 0 < nRm N0 by omega)
  rw [mk_r1 h, bnP_1, show aI (wi σ (cw G 81 M)) (some (80 + 1)) 20 0 = _ from mA1 h (n := 0) (by decide), bnP_1, em0, hz, bnP_1, bnP_1, show aI (wi σ (cw G 81 M)) (some (80 + 1)) 20 0 = _ from mA1 h (n := 0) (by decide), bnP_1, em0, hz, bnP_1, cw_cw, pk_rem (by omega) (by omega) (by omega), pk_div (by omega) (by omega) (by omega), hrM]
  by_cases z : nWd N % nRm N0 = 0
  · rw [if_pos z, if_pos (show nI (nWd N % nRm N0) = 0 by rw [z]; rfl), m_comesLeaf h w1 hlt, bnP_1]
  · have h99 : 99 + nI (nWd N / nRm N0) = nI (99 + nWd N / nRm N0) := nI_add 99 _
    rw [if_neg z, if_neg (show ¬ nI (nWd N % nRm N0) = 0 from fun q => z ((nI_eq (b := 0) (by omega) (by decide)).mp q)), bnP_1, h99, mA1 h (by omega), bnP_1]
    by_cases y : M (99 + nWd N / nRm N0) = 2
    · rw [if_pos y, if_pos y, bnP_1, mS1 h (by omega), bnP_1]
    · rw [if_neg y, if_neg y]
end MIT
