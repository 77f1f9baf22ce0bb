/-! THE PURE LEVEL, 91: the reference reads an act's body -/
def itS (f : Nat → Int32) (e a : Nat) (N : tN) (p cur d : Nat) : Except (Nat × Nat) (tN × Nat × Nat) :=
  if tkK f e p = 1 then (if nWd N = 12 * nRm N then .error (4, tkS f e p) else .ok (adW N a cur (wLo f e p) (wHi f e p), cur, d))
  else if tkK f e p = 4 then (if d = 4 then .error (4, tkS f e p) else .ok (obN N a cur, nCl N + 1, d + 1))
  else if tkK f e p = 5 then (if d = 0 ∨ cF N (cur - 1) = nWd N then .error (1, tkS f e p) else .ok (cbN N (cur - 1), cA N (cur - 1), d - 1))
  else .error (1, tkS f e p)
abbrev stopB (f : Nat → Int32) (e a : Nat) (N : tN) (p d : Nat) : Prop := d = 0 ∧ N (15 + 9 * a) ≠ 0 ∧ tkK f e p ≠ 1 ∧ tkK f e p ≠ 4 ∧ tkK f e p ≠ 5
def bdS (f : Nat → Int32) (e a : Nat) : Nat → tN → Nat → Nat → Nat → PRes
  | 0, _, _, _, _ => .error (0, 0)
  | n + 1, N, p, cur, d => if stopB f e a N p d then .ok (p, N) else match itS f e a N p cur d with
    | .error x => .error x
    | .ok (N', cur', d') => bdS f e a n N' (tkX f e p) cur' d'
def MG0 (f : Nat → Int32) (e p : Nat) (N : tN) (G : Nat → Nat → Int32) : Prop := (e ≤ 600 ∧ p ≤ e ∧ ∀ k, k < e → G 86 k = f k) ∧ MTK f e p (G 80) ∧ G 81 = N
section MBD
variable {σ : HpT} {G : Nat → Nat → Int32} {f : Nat → Int32} {e p n : Nat} {N0 N N' M R : tN} {kd lo hi : Int32} {cur d cur' d' a l W : Nat} {x : Nat × Nat}
theorem bi_cur (b : BI N0 N kd cur d) : cur ≤ nCl N ∧ (d ≠ 0 → ∃ p, cur = p + 1) ∧ (cur ≠ 0 → d ≠ 0) := by
  have k0 := b.2.1.2.2.2.1
  obtain ⟨h0, hc, hg, hn, hs⟩ := b.2.2.2.2.2.1
  rcases hs with ⟨b1, b2⟩ | ⟨p, b1, b2, b3, b4, b5⟩
  · refine ⟨by omega, fun z => ?_, fun z => absurd b1 z⟩
    have : cntN (fun i => decide (tO N (nCl N0 + i) = 1000)) (nCl N - nCl N0) = 0 := cntN_zero fun i hi => decide_eq_false (b2 _ (by omega) (by omega))
    omega
  · refine ⟨by omega, fun z => ⟨p, b1⟩, fun z => ?_⟩
    have := cntN_one (p := fun i => decide (tO N (nCl N0 + i) = 1000)) (n := nCl N - nCl N0) (k := p - nCl N0) (by omega) (by
      rw [show nCl N0 + (p - nCl N0) = p by omega]
      exact decide_eq_true b4)
    omega
theorem bi_it (hw : WFN N0) (ha : nAc N0 < 10) (b : BI N0 N kd cur d) (q : itS f e (nAc N0) N p cur d = .ok (N', cur', d')) : BI N0 N' kd cur' d' ∧ tkK f e p ≠ 0 := by
  have hb := bi_b hw b
  have hc := bi_cur b
  have hrm := (bi_rm hw b).1
  have h12 := b.2.1.2.2.2.2
  unfold itS at q
  by_cases z1 : tkK f e p = 1
  · rw [if_pos z1] at q
    by_cases y : nWd N = 12 * nRm N
    · rw [if_pos y] at q
      cases q
    · rw [if_neg y] at q
      cases q
      exact ⟨(bi_word hw ha b (by omega) (by omega)).1, by omega⟩
  · rw [if_neg z1] at q
    by_cases z4 : tkK f e p = 4
    · rw [if_pos z4] at q
      by_cases y : d = 4
      · rw [if_pos y] at q
        cases q
      · rw [if_neg y] at q
        cases q
        exact ⟨bi_open hw ha b (by omega) (by omega), by omega⟩
    · rw [if_neg z4] at q
      by_cases z5 : tkK f e p = 5
      · rw [if_pos z5] at q
        by_cases y : d = 0 ∨ cF N (cur - 1) = nWd N
        · rw [if_pos y] at q
          cases q
        · rw [if_neg y] at q
          cases q
          obtain ⟨r, rfl⟩ := hc.2.1 (fun u => y (Or.inl u))
          rw [Nat.add_sub_cancel] at *
          exact ⟨(bi_close hw ha b (fun u => y (Or.inr u))).1, by omega⟩
      · rw [if_neg z5] at q
        cases q
theorem mg_0 (g : MGd f e p N G) : MG0 f e p N G := ⟨g.1, g.2.1, g.2.2.2⟩
theorem mg_w (g : MG0 f e p N G) (hw : WFN N) : MGd f e p N G := ⟨g.1, g.2.1, hw, g.2.2⟩
theorem m_go0 (h : MK σ 80) (g : MG0 f e p N G) : ∃ G', fX10_goes (some 80) (wi σ G) = some (wi σ G') ∧ MFR G G' ∧ (∀ a, a ≠ 80 → G' a = G a) ∧ MG0 f e (tkX f e p) N G' ∧ G' 80 19 = G 80 19 ∧ G' 80 20 = G 80 20 := by
  obtain ⟨⟨he, hp, hf⟩, t, e81⟩ := g
  have hb := tk_b (f := f) hp
  obtain ⟨u, e1, t1, q⟩ := m_goes h he (p := tkX f e p) hb.2.2.1 t.1 t.2.1 t.2.2.2.2.2 hf
  exact ⟨_, e1, ⟨fun a a1 _ _ => cw_b a1, fun k hk => by rw [cw_a]; exact q k (by omega), fun _ _ => by rw [cw_a]; exact q 18 (by omega), fun _ => by rw [cw_a]; exact q 17 (by omega), fun _ _ => by rw [cw_b (by decide)]⟩, fun a ha => cw_b ha, ⟨⟨he, hb.2.2.1, fun k hk => by rw [cw_b (by decide)]; exact hf k hk⟩, by rw [cw_a]; exact t1, by rw [cw_b (by decide)]; exact e81⟩, by rw [cw_a]; exact q 19 (by decide), by rw [cw_a]; exact q 20 (by decide)⟩
theorem m_flt0 (h : MK σ 80) (g : MG0 f e p N G) {n : Nat} (h0 : 0 < n) (h5 : n < 5) : ∃ G', fX10_faults (some 80) (nI n) (wi σ G) = some (wi σ G') ∧ MFR G G' ∧ (∀ a, a ≠ 80 → G' a = G a) ∧ MER (n, tkS f e p) G' := by
  refine ⟨cw G 80 (u1 (u1 (G 80) 17 (nI n)) 18 (nI (tkS f e p))), ?_, ⟨fun a a1 _ _ => cw_b a1, fun k hk => by rw [cw_a, u1_k (by omega), u1_k (by omega)], fun _ z => by
    rw [cw_a, u1_k (by decide), u1_e] at z
    exact absurd ((nI_eq (b := 0) (by omega) (by decide)).mp z) (by omega), fun z => absurd g.2.1.2.2.2.2.2 z, fun _ _ => by rw [cw_b (by decide)]⟩, fun a ha => cw_b ha, ⟨h0, h5⟩, ?_, ?_⟩
  · unfold fX10_faults
    rw [mk_o h, bnP_1, mk_I h, bnP_1, g.2.1.2.2.2.2.2, if_pos (show (0 : Int32) ≤ 0 by decide), mk_P h, bnP_1, mk_I h, bnP_1, up_k (by decide), g.2.1.2.2.1, mk_P h, bnP_1, up_is G, up_cw]
  · rw [cw_a, u1_k (by decide), u1_e]
  · rw [cw_a, u1_e]
theorem m_isT0 (h : MK σ 80) (g : MG0 f e p N G) {k : Nat} (hk : k < 7) {v : Int32} (hv : v = nI ((k + 1) % 7)) : fX10_is (some 80) v (wi σ G) = some (decide (tkK f e p = k)) := m_is h g.2.1 hk hv
/-! the row, written by the reference -/
theorem mS1 (h : MK σ 80) {n : Nat} {x : Int32} (hn : n < 6139) : sI (wi σ (cw G 81 R)) (some (80 + 1)) (nI n) x = some (wi σ (cw G 81 (u1 R n x))) := by
  rw [mk_s1 h hn]
  show some (wi σ (up (cw G 81 R) 81 n x)) = _
  rw [up_cw]
theorem mA1 (h : MK σ 80) {n : Nat} (hn : n < 6139) : aI (wi σ (cw G 81 R)) (some (80 + 1)) 20 (nI n) = some (R n) := by
  rw [mk_a1 h hn]
  show some (cw G 81 R 81 n) = _
  rw [cw_a]
theorem mF1 (h : MK σ 80) (k : Nat) : gI (wi σ (cw G 81 R)) (some 80) 10 k = some (G 80 k) := by
  rw [mk_I h, cw_b (by decide)]
theorem mO1 (h : MK σ 80) (a w : Nat) (hb : 9 + 9 * a + w < 6139) : fX10_ofAct (some 80) (nI a) (nI w) (wi σ (cw G 81 R)) = some (R (9 + 9 * a + w)) := by
  rw [m_ofAct h a w hb]
  show some (cw G 81 R 81 _) = _
  rw [cw_a]
theorem mP1 (h : MK σ 80) (a w : Nat) (x : Int32) (hb : 9 + 9 * a + w < 6139) : fX10_putsAct (some 80) (nI a) (nI w) x (wi σ (cw G 81 R)) = some (wi σ (cw G 81 (u1 R (9 + 9 * a + w) x))) := by
  rw [m_putsAct h a w x hb]
  show some (wi σ (up (cw G 81 R) 81 _ x)) = _
  rw [up_cw]
theorem mC1 (h : MK σ 80) (c w : Nat) (hb : 3247 + 3 * c + w < 6139) : fX10_ofClause (some 80) (nI c) (nI w) (wi σ (cw G 81 R)) = some (R (3247 + 3 * c + w)) := by
  rw [m_ofClause h c w hb]
  show some (cw G 81 R 81 _) = _
  rw [cw_a]
theorem i_lin (k m w x : Nat) : nI k + nI m * nI w + nI x = nI (k + m * w + x) := by
  rw [pk_mul, nI_add, nI_add]
theorem m_opens (h : MK σ 80) (hw : WFN N0) (ha : nAc N0 < 10) (b : BI N0 N kd cur d) (e81 : G 81 = N) (g17 : G 80 17 = 0) (g19 : G 80 19 = nI cur) (g20 : G 80 20 = nI d) (hd : d < 4) : fX10_opensClause (some 80) (nI (nAc N0)) (wi σ G) = some (wi σ (cw (cw G 81 (obN N (nAc N0) cur)) 80 (u1 (u1 (G 80) 19 (nI (nCl N + 1))) 20 (nI (d + 1))))) := by
  have hb := bi_b hw b
  have n5 := b.2.1.2.2.1
  have n4 := b.2.1.2.1
  have hG : G = cw G 81 N := by rw [← e81, cw_self]
  have s0 : ∀ x, (3247 : Int32) + 3 * nI (nCl N) + x = nI 3247 + nI 3 * nI (nCl N) + x := fun _ => rfl
  unfold fX10_opensClause
  rw [mk_o h, bnP_1, mk_I h, bnP_1, g20, if_neg (show ¬ nI d = 4 from fun z => by have := (nI_eq (b := 4) (by omega) (by decide)).mp z; omega), bnS_1, mk_I h, bnP_1, g17, if_pos (show (0 : Int32) ≤ 0 by decide), hG]
  rw [mk_r1 h, bnP_1, show aI (wi σ (cw G 81 N)) (some (80 + 1)) 20 5 = _ from mA1 h (n := 5) (by decide), bnP_1, bnP_1, bnP_1, show aI (wi σ (cw G 81 N)) (some (80 + 1)) 20 4 = _ from mA1 h (n := 4) (by decide), bnP_1, n5, show (3247 : Int32) + 3 * nI (nCl N) + 0 = nI (3247 + 3 * nCl N + 0) from i_lin 3247 3 (nCl N) 0, mS1 h (by omega), bnP_1, mk_r1 h, bnP_1, show (3247 : Int32) + 3 * nI (nCl N) + 1 = nI (3247 + 3 * nCl N + 1) from i_lin 3247 3 (nCl N) 1, mS1 h (by omega), bnP_1, mk_r1 h, bnP_1, mF1 h, bnP_1, g19, show (3247 : Int32) + 3 * nI (nCl N) + 2 = nI (3247 + 3 * nCl N + 2) from i_lin 3247 3 (nCl N) 2, mS1 h (by omega), bnP_1]
  generalize hR : u1 (u1 (u1 N (3247 + 3 * nCl N + 0) (N 4)) (3247 + 3 * nCl N + 1) (-1)) (3247 + 3 * nCl N + 2) (nI cur) = R
  have r5 : R 5 = nI (nCl N) := by rw [← hR, u1_k (by omega), u1_k (by omega), u1_k (by omega)]; exact n5
  have r8 : R (9 + 9 * nAc N0 + 8) = N (17 + 9 * nAc N0) := by
    rw [← hR, u1_k (by omega), u1_k (by omega), u1_k (by omega)]
    congr 1
    omega
  rw [mk_r1 h, bnP_1, show aI (wi σ (cw G 81 R)) (some (80 + 1)) 20 5 = _ from mA1 h (n := 5) (by decide), bnP_1, r5, nI_a1, show sI (wi σ (cw G 81 R)) (some (80 + 1)) 5 (nI (nCl N + 1)) = _ from mS1 h (n := 5) (by decide), bnP_1, show fX10_ofAct (some 80) (nI (nAc N0)) 8 (wi σ (cw G 81 (u1 R 5 (nI (nCl N + 1))))) = _ from mO1 h (nAc N0) 8 (by omega), bnP_1, u1_k (by omega), r8, show fX10_putsAct (some 80) (nI (nAc N0)) 8 (N (17 + 9 * nAc N0) + 1) (wi σ (cw G 81 (u1 R 5 (nI (nCl N + 1))))) = _ from mP1 h (nAc N0) 8 _ (by omega), bnP_1, mk_r1 h, bnP_1, show aI (wi σ (cw G 81 (u1 (u1 R 5 (nI (nCl N + 1))) (9 + 9 * nAc N0 + 8) (N (17 + 9 * nAc N0) + 1)))) (some (80 + 1)) 20 5 = _ from mA1 h (n := 5) (by decide), bnP_1, u1_k (by omega), u1_e]
  have hfin : u1 (u1 R 5 (nI (nCl N + 1))) (9 + 9 * nAc N0 + 8) (N (17 + 9 * nAc N0) + 1) = obN N (nAc N0) cur := by
    funext j
    rw [← hR]
    unfold u1 obN
    by_cases z8 : j = 9 + 9 * nAc N0 + 8
    · rw [if_pos z8, if_neg (by omega), if_neg (by omega), if_neg (by omega), if_neg (by omega), if_pos (by omega)]
    · rw [if_neg z8]
      by_cases z5 : j = 5
      · rw [if_pos z5, if_neg (by omega), if_neg (by omega), if_neg (by omega), if_pos z5]
      · rw [if_neg z5]
        by_cases z2 : j = 3247 + 3 * nCl N + 2
        · rw [if_pos z2, if_neg (by omega), if_neg (by omega), if_pos (by omega)]
        · rw [if_neg z2]
          by_cases z1 : j = 3247 + 3 * nCl N + 1
          · rw [if_pos z1, if_neg (by omega), if_pos (by omega)]
            rfl
          · rw [if_neg z1]
            by_cases z0 : j = 3247 + 3 * nCl N + 0
            · rw [if_pos z0, if_pos (show j = 3247 + 3 * nCl N from z0)]
            · rw [if_neg z0, if_neg (show ¬ j = 3247 + 3 * nCl N from z0), if_neg (by omega), if_neg (by omega), if_neg z5, if_neg (by omega)]
  rw [hfin, mk_P h, bnP_1, mk_I h, bnP_1, up_k (by decide), cw_b (by decide), g20, nI_a1, mk_P h, bnP_1, up_is (cw G 81 (obN N (nAc N0) cur)), up_cw, cw_b (by decide), cw_b (by decide), cw_cw]
end MBD
