/-! THE PURE LEVEL, 88: an act's body as the reference's row has it -/
def tO (N : tN) (c : Nat) : Nat := if N (3247 + 3 * c + 1) = nO then 1000 else cT N c
def s0N (N0 : tN) (W l : Nat) : Int32 := if nWd N0 < W ∧ nWd N0 % nRm N0 ≠ 0 ∧ l = nWd N0 / nRm N0 ∧ N0 (99 + l) = 2 then 0 else N0 (99 + l)
def stA (N0 : tN) (W l : Nat) : Int32 := if l < nLv N0 then s0N N0 W l else if mtN (nv N0 2) l < nLv N0 ∧ s0N N0 W (mtN (nv N0 2) l) = 2 then 1 else 0
def bgN (N : tN) (kd : Int32) : tN := fun j => if j = 9 + 9 * nAc N then kd else if j = 14 + 9 * nAc N then N 4 else if j = 16 + 9 * nAc N then N 5 else if 9 + 9 * nAc N ≤ j ∧ j < 18 + 9 * nAc N then 0 else if j = 3 then nI (nAc N + 1) else N j
def obN (N : tN) (a cur : Nat) : tN := fun j => if j = 3247 + 3 * nCl N then N 4 else if j = 3248 + 3 * nCl N then nO else if j = 3249 + 3 * nCl N then nI cur else if j = 5 then nI (nCl N + 1) else if j = 17 + 9 * a then N (17 + 9 * a) + 1 else N j
def cbN (N : tN) (p : Nat) : tN := u1 N (3248 + 3 * p) (nI (nWd N - 1))
def adB (N : tN) (a cur : Nat) (lo hi : Int32) : tN := fun j => if j = 127 + 13 * nWd N then lo else if j = 128 + 13 * nWd N then hi else if j = 130 + 13 * nWd N then nI cur else if 127 + 13 * nWd N ≤ j ∧ j < 140 + 13 * nWd N then 0 else if j = 4 then nI (nWd N + 1) else if j = 15 + 9 * a then N (15 + 9 * a) + 1 else N j
def cmL (M : tN) (l : Nat) : Int32 := if mtQ M l = nO then 0 else if M (99 + (mtQ M l).toNatClampNeg) = 2 then 1 else 0
def lvN (M : tN) (W : Nat) : tN := if W % nRm M = 0 then u1 M (99 + W / nRm M) (cmL M (W / nRm M)) else if M (99 + W / nRm M) = 2 then u1 M (99 + W / nRm M) 0 else M
def adW (N : tN) (a cur : Nat) (lo hi : Int32) : tN := lvN (adB N a cur lo hi) (nWd N)
/-- N: the row N0 with an act of kind kd begun and not yet ended -/
def BI (N0 N : tN) (kd : Int32) (cur d : Nat) : Prop :=
  (∀ j, j ≠ 3 → j ≠ 4 → j ≠ 5 → (j < 9 + 9 * nAc N0 ∨ 18 + 9 * nAc N0 ≤ j) → (j < 99 ∨ 111 ≤ j) → (j < 127 + 13 * nWd N0 ∨ 3247 ≤ j) → (j < 3247 + 3 * nCl N0 ∨ 6139 ≤ j) → N j = N0 j) ∧
  (N 3 = nI (nAc N0 + 1) ∧ N 4 = nI (nWd N) ∧ N 5 = nI (nCl N) ∧ nCl N0 ≤ nCl N ∧ nWd N ≤ 12 * nRm N0) ∧
  ((N (9 + 9 * nAc N0) = kd ∧ N (10 + 9 * nAc N0) = 0 ∧ N (11 + 9 * nAc N0) = 0 ∧ N (12 + 9 * nAc N0) = 0 ∧ N (13 + 9 * nAc N0) = 0) ∧ N (14 + 9 * nAc N0) = nI (nWd N0) ∧ N (15 + 9 * nAc N0) = nI (nWd N - nWd N0) ∧ N (16 + 9 * nAc N0) = nI (nCl N0) ∧ N (17 + 9 * nAc N0) = nI (nCl N - nCl N0)) ∧
  (∀ c, nCl N0 ≤ c → c < nCl N → N (3247 + 3 * c) = nI (cF N c) ∧ N (3247 + 3 * c + 2) = nI (cA N c) ∧ (N (3247 + 3 * c + 1) = nO ∨ N (3247 + 3 * c + 1) = nI (cT N c))) ∧
  (∀ g, nWd N0 ≤ g → g < nWd N → N (127 + 13 * g + 2) = 0 ∧ N (127 + 13 * g + 4) = 0 ∧ N (127 + 13 * g + 3) = nI (wW N g)) ∧
  BV (cF N) (tO N) (cA N) (wW N) (nCl N0) (nCl N - nCl N0) (nWd N0) (nWd N) cur d ∧
  ∀ l, l < nLv N → N (99 + l) = stA N0 (nWd N) l
theorem nv_e {N M : tN} {i : Nat} (h : M i = N i) : nv M i = nv N i := congrArg Int32.toNatClampNeg h
theorem nv_n {N : tN} {i n : Nat} (h : N i = nI n) (hn : n < 2 ^ 31) : nv N i = n := by
  show (N i).toNatClampNeg = n
  rw [h, nI_clamp hn]
section BIS
variable {N0 N M : tN} {kd lo hi : Int32} {cur d p a W l : Nat}
/-- never more than four clauses a word -/
theorem wf_cl (hw : WFN N) : nCl N ≤ 4 * nWd N := by
  have key : ∀ a, a < nAc N → aK N a + aC N a ≤ 4 * (aF N a + aM N a) := by
    have h1 : ∀ a, a < nAc N → aC N a ≤ 4 * aM N a := fun a ha => by
      have cl := w3_cl hw.2.2.1 ha
      have e1 := cl_cntLH cl (Nat.le_refl _)
      have e2 := cntL_sum (cF N) (aK N a) (aC N a) (aF N a) (fun i hi => (cl _ (by omega) (by omega)).1) (aM N a)
      have e3 := sumN_le (f := fun j => cntV (cF N) (aK N a) (aC N a) (aF N a + j)) (b := 4) (aM N a) fun j hj => cv_4 hw ha (by omega) (by omega) |>.1
      omega
    intro a
    induction a with
    | zero =>
      intro ha
      have := h1 0 ha
      have := (hw.2.1.2 0 ha).2.2.2.1 rfl
      omega
    | succ a ih =>
      intro ha
      have := h1 (a + 1) ha
      have := ih (by omega)
      have := (hw.2.1.2 a (by omega)).2.2.2.2.1 ha
      omega
  by_cases z : nAc N = 0
  · have := hw.2.1.1 z
    omega
  · have := key (nAc N - 1) (by omega)
    have := (hw.2.1.2 (nAc N - 1) (by omega)).2.2.2.2.2 (by omega)
    omega
theorem bi_rm (hw : WFN N0) (b : BI N0 N kd cur d) : nRm N = nRm N0 ∧ nv N 2 = nv N0 2 ∧ N 0 = N0 0 ∧ N 2 = N0 2 := by
  have h0 : N 0 = N0 0 := b.1 0 (by decide) (by decide) (by decide) (by omega) (by omega) (by omega) (by omega)
  have h2 : N 2 = N0 2 := b.1 2 (by decide) (by decide) (by decide) (by omega) (by omega) (by omega) (by omega)
  exact ⟨nv_e h0, nv_e h2, h0, h2⟩
theorem bi_b (hw : WFN N0) (b : BI N0 N kd cur d) : (nWd N0 ≤ nWd N ∧ nWd N ≤ 240) ∧ nCl N ≤ 4 * nWd N + d ∧ d ≤ 4 ∧ nLv N ≤ 12 ∧ nLv N0 ≤ nLv N := by
  have hb := w1_b hw.1
  have hc := bv_C b.2.2.2.2.2.1
  have h0 := b.2.2.2.2.2.1.1
  have hk := wf_cl hw
  have h12 := b.2.1.2.2.2.2
  have hrm := (bi_rm hw b).1
  refine ⟨by omega, by have := b.2.1.2.2.2.1; omega, h0.2.2, ?_, ?_⟩
  · show (nWd N + nRm N - 1) / nRm N ≤ 12
    rw [Nat.div_le_iff_le_mul_add_pred (by omega), hrm]
    have : nRm N0 * 12 = 12 * nRm N0 := Nat.mul_comm _ _
    omega
  · show (nWd N0 + nRm N0 - 1) / nRm N0 ≤ (nWd N + nRm N - 1) / nRm N
    rw [hrm]
    exact Nat.div_le_div_right (by omega)
theorem bi_w1 (hw : WFN N0) (ha : nAc N0 < 10) (b : BI N0 N kd cur d) (h : nCl N < 961) : W1 N := by
  have hb := bi_b hw b
  obtain ⟨r0, r2, e0, e2⟩ := bi_rm hw b
  have e1 : N 1 = N0 1 := b.1 1 (by decide) (by decide) (by decide) (by omega) (by omega) (by omega) (by omega)
  have e6 : N 6 = N0 6 := b.1 6 (by decide) (by decide) (by decide) (by omega) (by omega) (by omega) (by omega)
  obtain ⟨⟨q1, q2⟩, q3, ⟨q4, q5⟩, -, -, -, q6⟩ := hw.1
  have n3 := nv_n b.2.1.1 (by omega)
  refine ⟨⟨⟨by rw [e0, nv_e e0]; exact q1.1, by rw [nv_e e0]; exact q1.2⟩, by rw [r0]; exact q2⟩, ⟨by rw [e1, nv_e e1]; exact q3.1, by rw [nv_e e1]; exact q3.2⟩, ⟨⟨by rw [e2, nv_e e2]; exact q4.1, by rw [nv_e e2]; exact q4.2⟩, by rw [r2]; exact q5⟩, ⟨by rw [n3]; exact b.2.1.1, by rw [n3]; omega⟩, ⟨⟨b.2.1.2.1, Nat.lt_of_le_of_lt hb.1.2 (by decide)⟩, by rw [r0]; exact b.2.1.2.2.2.2⟩, ⟨b.2.1.2.2.1, h⟩, ⟨by rw [e6, nv_e e6]; exact q6.1, by rw [nv_e e6]; exact q6.2⟩⟩
/-! begun -/
theorem stA_0 (hl : l < nLv N0) : stA N0 (nWd N0) l = N0 (99 + l) := by
  unfold stA s0N
  rw [if_pos hl, if_neg (fun q => absurd q.1 (Nat.lt_irrefl _))]
theorem bi_bg (hw : WFN N0) (ha : nAc N0 < 10) (hkd : kd = kd) : BI N0 (bgN N0 kd) kd 0 0 := by
  have hb := w1_b hw.1
  have he := w1_e hw.1
  have oN : ∀ j, j ≠ 3 → (j < 9 + 9 * nAc N0 ∨ 18 + 9 * nAc N0 ≤ j) → bgN N0 kd j = N0 j := fun j h1 h2 => by
    unfold bgN
    rw [if_neg (by omega), if_neg (by omega), if_neg (by omega), if_neg (by omega), if_neg h1]
  have z : ∀ j, 9 + 9 * nAc N0 ≤ j → j < 18 + 9 * nAc N0 → j ≠ 9 + 9 * nAc N0 → j ≠ 14 + 9 * nAc N0 → j ≠ 16 + 9 * nAc N0 → bgN N0 kd j = 0 := fun j h1 h2 h3 h4 h5 => by
    unfold bgN
    rw [if_neg h3, if_neg h4, if_neg h5, if_pos ⟨h1, h2⟩]
  have e3 : bgN N0 kd 3 = nI (nAc N0 + 1) := by
    unfold bgN
    rw [if_neg (by omega), if_neg (by omega), if_neg (by omega), if_neg (by omega), if_pos rfl]
  have ek : bgN N0 kd (9 + 9 * nAc N0) = kd := if_pos rfl
  have e14 : bgN N0 kd (14 + 9 * nAc N0) = N0 4 := by
    unfold bgN
    rw [if_neg (by omega), if_pos rfl]
  have e16 : bgN N0 kd (16 + 9 * nAc N0) = N0 5 := by
    unfold bgN
    rw [if_neg (by omega), if_neg (by omega), if_pos rfl]
  generalize bgN N0 kd = M at *
  have c4 : nWd M = nWd N0 := nv_e (oN 4 (by decide) (by omega))
  have c5 : nCl M = nCl N0 := nv_e (oN 5 (by decide) (by omega))
  have c0 : nRm M = nRm N0 := nv_e (oN 0 (by decide) (by omega))
  refine ⟨fun j h3 h4 h5 h6 h7 h8 h9 => oN j h3 h6, ⟨e3, by rw [oN 4 (by decide) (by omega), c4]; exact he.2.2.1, by rw [oN 5 (by decide) (by omega), c5]; exact he.2.2.2.1, Nat.le_of_eq c5.symm, by rw [c4]; exact hb.2.2.1.2⟩, ⟨⟨ek, z _ (by omega) (by omega) (by omega) (by omega) (by omega), z _ (by omega) (by omega) (by omega) (by omega) (by omega), z _ (by omega) (by omega) (by omega) (by omega) (by omega), z _ (by omega) (by omega) (by omega) (by omega) (by omega)⟩, by rw [e14]; exact he.2.2.1, by rw [c4, Nat.sub_self]; exact z _ (by omega) (by omega) (by omega) (by omega) (by omega), by rw [e16]; exact he.2.2.2.1, by rw [c5, Nat.sub_self]; exact z _ (by omega) (by omega) (by omega) (by omega) (by omega)⟩, fun c h1 h2 => by omega, fun g h1 h2 => by omega, ?_, fun l hl => ?_⟩
  · rw [c4, c5, Nat.sub_self]
    exact ⟨⟨Nat.le_refl _, by omega, by decide⟩, fun c h1 h2 => by omega, fun g h1 h2 => by omega, rfl, Or.inl ⟨rfl, fun c h1 h2 => by omega⟩⟩
  · have hl2 : l < nLv N0 := by
      have : nLv M = nLv N0 := by
        show (nWd M + nRm M - 1) / nRm M = _
        rw [c4, c0]
      omega
    rw [c4, stA_0 hl2, oN _ (by omega) (by omega)]
/-! a bracket opens -/
theorem bi_open (hw : WFN N0) (ha : nAc N0 < 10) (b : BI N0 N kd cur d) (hd : d < 4) (hcur : cur < 2 ^ 31) : BI N0 (obN N (nAc N0) cur) kd (nCl N + 1) (d + 1) := by
  have hb := bi_b hw b
  have hb0 := w1_b hw.1
  obtain ⟨fr, ⟨n3, n4, n5, k0, w12⟩, act, cells, words, bv, lv⟩ := b
  have oN : ∀ j, j ≠ 3247 + 3 * nCl N → j ≠ 3248 + 3 * nCl N → j ≠ 3249 + 3 * nCl N → j ≠ 5 → j ≠ 17 + 9 * nAc N0 → obN N (nAc N0) cur j = N j := fun j h1 h2 h3 h4 h5 => by
    unfold obN
    rw [if_neg h1, if_neg h2, if_neg h3, if_neg h4, if_neg h5]
  have e0 : obN N (nAc N0) cur (3247 + 3 * nCl N) = N 4 := if_pos rfl
  have e1 : obN N (nAc N0) cur (3248 + 3 * nCl N) = nO := by
    unfold obN
    rw [if_neg (by omega), if_pos rfl]
  have e2 : obN N (nAc N0) cur (3249 + 3 * nCl N) = nI cur := by
    unfold obN
    rw [if_neg (by omega), if_neg (by omega), if_pos rfl]
  have e5 : obN N (nAc N0) cur 5 = nI (nCl N + 1) := by
    unfold obN
    rw [if_neg (by omega), if_neg (by omega), if_neg (by omega), if_pos rfl]
  have e8 : obN N (nAc N0) cur (17 + 9 * nAc N0) = N (17 + 9 * nAc N0) + 1 := by
    unfold obN
    rw [if_neg (by omega), if_neg (by omega), if_neg (by omega), if_neg (by omega), if_pos rfl]
  generalize obN N (nAc N0) cur = M at *
  have c4 : nWd M = nWd N := nv_e (oN 4 (by omega) (by omega) (by omega) (by omega) (by omega))
  have c5 : nCl M = nCl N + 1 := nv_n e5 (by omega)
  have c0 : nRm M = nRm N := nv_e (oN 0 (by omega) (by omega) (by omega) (by omega) (by omega))
  have oC : ∀ c, c < nCl N → ∀ i, i < 3 → M (3247 + 3 * c + i) = N (3247 + 3 * c + i) := fun c hc i hi => oN _ (by omega) (by omega) (by omega) (by omega) (by omega)
  have eF : ∀ c, c < nCl N → cF M c = cF N c := fun c hc => nv_e (oC c hc 0 (by decide))
  have eT : ∀ c, c < nCl N → cT M c = cT N c := fun c hc => nv_e (oC c hc 1 (by decide))
  have eA : ∀ c, c < nCl N → cA M c = cA N c := fun c hc => nv_e (oC c hc 2 (by decide))
  have etO : ∀ c, c < nCl N → tO M c = tO N c := fun c hc => by
    unfold tO
    rw [oC c hc 1 (by decide), eT c hc]
  have oW : ∀ g, g < 240 → ∀ i, i < 13 → M (127 + 13 * g + i) = N (127 + 13 * g + i) := fun g hg i hi => oN _ (by omega) (by omega) (by omega) (by omega) (by omega)
  have e1' : M (3247 + 3 * nCl N + 1) = nO := by
    rw [show 3247 + 3 * nCl N + 1 = 3248 + 3 * nCl N by omega]
    exact e1
  have e2' : M (3247 + 3 * nCl N + 2) = nI cur := by
    rw [show 3247 + 3 * nCl N + 2 = 3249 + 3 * nCl N by omega]
    exact e2
  refine ⟨fun j h3 h4 h5 h6 h7 h8 h9 => by rw [oN j (by omega) (by omega) (by omega) h5 (by omega)]; exact fr j h3 h4 h5 h6 h7 h8 h9, ⟨by rw [oN 3 (by omega) (by omega) (by omega) (by omega) (by omega)]; exact n3, by rw [oN 4 (by omega) (by omega) (by omega) (by omega) (by omega), c4]; exact n4, by rw [c5]; exact e5, by omega, by omega⟩, ?_, fun c h1 h2 => ?_, fun g h1 h2 => ?_, ?_, fun l hl => ?_⟩
  · obtain ⟨⟨a1, a2, a3, a4, a5⟩, a6, a7, a8, a9⟩ := act
    refine ⟨⟨?_, ?_, ?_, ?_, ?_⟩, ?_, ?_, ?_, ?_⟩
    · rw [oN _ (by omega) (by omega) (by omega) (by omega) (by omega)]
      exact a1
    · rw [oN _ (by omega) (by omega) (by omega) (by omega) (by omega)]
      exact a2
    · rw [oN _ (by omega) (by omega) (by omega) (by omega) (by omega)]
      exact a3
    · rw [oN _ (by omega) (by omega) (by omega) (by omega) (by omega)]
      exact a4
    · rw [oN _ (by omega) (by omega) (by omega) (by omega) (by omega)]
      exact a5
    · rw [oN _ (by omega) (by omega) (by omega) (by omega) (by omega)]
      exact a6
    · rw [oN _ (by omega) (by omega) (by omega) (by omega) (by omega), c4]
      exact a7
    · rw [oN _ (by omega) (by omega) (by omega) (by omega) (by omega)]
      exact a8
    · rw [e8, a9, nI_a1, c5]
      congr 1
      omega
  · by_cases z : c < nCl N
    · have q := cells c h1 z
      have o0 := oC c z 0 (by decide)
      have o1 := oC c z 1 (by decide)
      have o2 := oC c z 2 (by decide)
      rw [Nat.add_zero] at o0
      rw [o0, o1, o2, eF c z, eT c z, eA c z]
      exact q
    · obtain rfl : c = nCl N := by omega
      exact ⟨by rw [e0, n4]; exact congrArg nI (nv_n (e0.trans n4) (by omega)).symm, by rw [e2']; exact congrArg nI (nv_n e2' hcur).symm, Or.inl e1'⟩
  · have q := words g h1 (by omega)
    have o2 := oW g (by omega) 2 (by decide)
    have o4 := oW g (by omega) 4 (by decide)
    have o3 := oW g (by omega) 3 (by decide)
    rw [o2, o4, o3, show wW M g = wW N g from nv_e o3]
    exact q
  · have b1 : BV (cF M) (tO M) (cA M) (wW M) (nCl N0) (nCl N - nCl N0) (nWd N0) (nWd N) cur d := bv_cong (fun c h1 h2 => eF c (by omega)) (fun c h1 h2 => etO c (by omega)) (fun c h1 h2 => eA c (by omega)) (fun g h1 h2 => nv_e (oW g (by omega) 3 (by decide))) bv
    have hk : nCl N0 + (nCl N - nCl N0) = nCl N := by omega
    have b2 := bv_open b1 hd (by rw [hk]; exact nv_n (e0.trans n4) (by omega)) (by rw [hk]; unfold tO; rw [if_pos e1']) (by rw [hk]; exact nv_n e2' hcur)
    rw [c4, c5, show nCl N + 1 - nCl N0 = nCl N - nCl N0 + 1 by omega]
    rw [hk] at b2
    exact b2
  · have e : nLv M = nLv N := by
      show (nWd M + nRm M - 1) / nRm M = _
      rw [c4, c0]
    rw [c4, oN _ (by omega) (by omega) (by omega) (by omega) (by omega)]
    exact lv l (by omega)
/-! a bracket closes -/
theorem bi_close (hw : WFN N0) (ha : nAc N0 < 10) (b : BI N0 N kd (p + 1) d) (hp : cF N p ≠ nWd N) : BI N0 (cbN N p) kd (cA N p) (d - 1) ∧ 0 < d ∧ nCl N0 ≤ p ∧ p < nCl N := by
  have hb := bi_b hw b
  have hb0 := w1_b hw.1
  obtain ⟨fr, ⟨n3, n4, n5, k0, w12⟩, act, cells, words, bv, lv⟩ := b
  obtain ⟨p1, p2, p3⟩ : nCl N0 ≤ p ∧ p < nCl N ∧ nWd N0 < nWd N := by
    rcases bv.2.2.2.2 with ⟨b1, -⟩ | ⟨p', b1, b2, b3, b4, b5⟩
    · omega
    · obtain rfl : p' = p := by omega
      have := (bv.2.1 p' b2 b3).1
      omega
  have oN : ∀ j, j ≠ 3248 + 3 * p → cbN N p j = N j := fun j h1 => u1_k h1
  have e1 : cbN N p (3248 + 3 * p) = nI (nWd N - 1) := u1_e _ _ _
  generalize cbN N p = M at *
  have c4 : nWd M = nWd N := nv_e (oN 4 (by omega))
  have c5 : nCl M = nCl N := nv_e (oN 5 (by omega))
  have c0 : nRm M = nRm N := nv_e (oN 0 (by omega))
  have eF : ∀ c, cF M c = cF N c := fun c => nv_e (oN _ (by omega))
  have eA : ∀ c, cA M c = cA N c := fun c => nv_e (oN _ (by omega))
  have e1' : M (3247 + 3 * p + 1) = nI (nWd N - 1) := by
    rw [show 3247 + 3 * p + 1 = 3248 + 3 * p by omega]
    exact e1
  have etp : tO M p = nWd N - 1 := by
    unfold tO
    rw [if_neg (by rw [e1']; exact nI_nO (by omega))]
    exact nv_n e1' (by omega)
  have etO : ∀ c, c ≠ p → tO M c = tO N c := fun c hc => by
    unfold tO
    rw [oN (3247 + 3 * c + 1) (by omega), show cT M c = cT N c from nv_e (oN _ (by omega))]
  obtain ⟨b2, hd⟩ := bv_close bv hp etp etO
  refine ⟨⟨fun j h3 h4 h5 h6 h7 h8 h9 => by rw [oN j (by omega)]; exact fr j h3 h4 h5 h6 h7 h8 h9, ⟨by rw [oN 3 (by omega)]; exact n3, by rw [oN 4 (by omega), c4]; exact n4, by rw [oN 5 (by omega), c5]; exact n5, by omega, by omega⟩, ?_, fun c h1 h2 => ?_, fun g h1 h2 => ?_, ?_, fun l hl => ?_⟩, hd, p1, p2⟩
  · obtain ⟨⟨a1, a2, a3, a4, a5⟩, a6, a7, a8, a9⟩ := act
    rw [c4, c5, oN _ (by omega), oN _ (by omega), oN _ (by omega), oN _ (by omega), oN _ (by omega), oN _ (by omega), oN _ (by omega), oN _ (by omega), oN _ (by omega)]
    exact ⟨⟨a1, a2, a3, a4, a5⟩, a6, a7, a8, a9⟩
  · have q := cells c h1 (by omega)
    rw [oN (3247 + 3 * c) (by omega), oN (3247 + 3 * c + 2) (by omega), eF, eA]
    by_cases z : c = p
    · subst z
      exact ⟨q.1, q.2.1, Or.inr (by rw [e1']; exact congrArg nI (nv_n e1' (by omega)).symm)⟩
    · rw [oN (3247 + 3 * c + 1) (by omega), show cT M c = cT N c from nv_e (oN _ (by omega))]
      exact q
  · have q := words g h1 (by omega)
    rw [oN (127 + 13 * g + 2) (by omega), oN (127 + 13 * g + 4) (by omega), oN (127 + 13 * g + 3) (by omega), show wW M g = wW N g from nv_e (oN _ (by omega))]
    exact q
  · rw [c4, c5]
    exact bv_cong (fun c _ _ => eF c) (fun c _ _ => rfl) (fun c _ _ => eA c) (fun g h1 h2 => nv_e (oN _ (by omega))) b2
  · have e : nLv M = nLv N := by
      show (nWd M + nRm M - 1) / nRm M = _
      rw [c4, c0]
    rw [c4, oN _ (by omega)]
    exact lv l (by omega)
end BIS
