/-! THE PURE LEVEL, 69: UNDO -/
theorem ck_sw {σ σ' : HpT} {tx : Nat} (h : CK σ tx) (hn : hN σ' = hN σ) (hk : ∀ a, hK σ' a = hK σ a) (hz : ∀ a, hZ σ' a = hZ σ a) (hr : ∀ a k, a ≠ 71 → ¬ (a = 0 ∧ (k = 5 ∨ k = 6)) → hR σ' a k = hR σ a k) : CK σ' tx := by
  unfold CK LK at h ⊢
  simp only [hn, hk, hz]
  rw [hr 0 0 (by decide) (by decide), hr 0 7 (by decide) (by decide), hr 0 8 (by decide) (by decide), hr 0 11 (by decide) (by decide), hr 0 12 (by decide) (by decide), hr 0 13 (by decide) (by decide), hr 0 14 (by decide) (by decide), hr 68 3 (by decide) (by decide), hr 74 2 (by decide) (by decide), hr 74 3 (by decide) (by decide), hr 77 0 (by decide) (by decide), hr 78 0 (by decide) (by decide)]
  exact h
def swP (P : Nat → Option Nat) (r : Nat) : Nat → Option Nat := fun i => P (if i = 0 then r else if i = r then 0 else i)
section UND
variable {σ σ' : HpT} {G : Nat → Nat → Int32} {J : Nat → Nat → Int64} {b bs ps tx x r n : Nat} {P : Nat → Option Nat} {E : tE} {I T : tI} {N : Nat → Int32} {U : tU} {V : tV}
theorem pb_sw (h : PB σ P tx) (h2 : 2 ≤ r) (h10 : r < 10) (hx : P r = some x) (hb : P 0 = some b) (hn : hN σ' = hN σ) (hk : ∀ a, hK σ' a = hK σ a) (hz : ∀ a, hZ σ' a = hZ σ a) (hr : ∀ a k, hR σ' a k = if a = 0 ∧ k = 5 then some x else if a = 71 ∧ k = r - 2 then some b else hR σ a k) : PB σ' (swP P r) tx := by
  have sl : ∀ i, i < 12 → (if i = 0 then r else if i = r then 0 else i) < 12 := fun i hi => by
    split
    · omega
    · split <;> omega
  have dj : ∀ i j y z, i ≠ j → i < 12 → j < 12 → P i = some y → P j = some z → y + 33 ≤ z ∨ z + 33 ≤ y := fun i j y z hij hi hj hy hz => by
    rcases Nat.lt_or_ge i j with q | q
    · exact h.2.1 i j y z q hj hy hz
    · exact (h.2.1 j i z y (by omega) hi hz hy).symm
  refine ⟨fun i y hi hy => ?_, fun i j y z hij hj hy hz => ?_, fun k hk2 => ?_, fun k hk2 => ?_⟩
  · obtain ⟨q1, q2, q3⟩ := h.1 _ y (sl i hi) hy
    exact ⟨bk_ext q1 (by omega) (fun a h1 h2 => ⟨hk a, hz a, fun k => by rw [hr, if_neg (by omega), if_neg (by omega)]⟩), q2, q3⟩
  · refine dj _ _ y z ?_ (sl i (by omega)) (sl j hj) hy hz
    split
    · split
      · omega
      · split <;> omega
    · split
      · split
        · omega
        · split <;> omega
      · split
        · omega
        · split <;> omega
  · show _ = P (if 2 + k = 0 then r else if 2 + k = r then 0 else 2 + k)
    rw [hr, if_neg (by omega), if_neg (show ¬ 2 + k = 0 by omega)]
    by_cases q : 2 + k = r
    · rw [if_pos ⟨rfl, by omega⟩, if_pos q, hb]
    · rw [if_neg (by omega), if_neg q]
      exact h.2.2.1 k hk2
  · show _ = P (if 10 + k = 0 then r else if 10 + k = r then 0 else 10 + k)
    rw [hr, if_neg (by omega), if_neg (by omega), if_neg (show ¬ 10 + k = 0 by omega), if_neg (by omega)]
    exact h.2.2.2 k hk2
theorem c_undo (hC : CR σ G J b bs ps P tx E I N U V T) (hA : AW E I N U V T) (hU : U.1 = n + 1) : ∃ σ' G' x, fX9_undo (some 0) (wc σ G J) = some (.ok (nI n), wc σ' G' J, 0, 0) ∧ CR σ' G' J x bs ps (swP P (2 + (ps + n) % 8)) tx E I (U.2 n) (n, U.2) V T ∧ EXM σ σ' G G' J J := by
  have ck := hC.1.1
  obtain ⟨u1, u2, u3, u4⟩ := hC.2.2.2.2.1
  have h8 := hA.1.2.2.2.1
  have hn := ck.1.1
  have hm := Nat.mod_lt (ps + n) (show 0 < 8 by decide)
  obtain ⟨x, hx, rx⟩ := u4 n (by omega)
  have pb := hC.1.2.2.2.2.2
  have c3 := hC.1.2.2.2.1
  have hE : E.1 ≠ 0 := fun e => by have := hA.1.2.2.1 e; omega
  have bb := (pb.1 0 b (by decide) c3).1
  have bl : b < hN σ := by have := bb.1; omega
  generalize hS : wR (wR (wc σ (up G 0 10 (nI n)) J) 71 ((ps + n) % 8) (some b)) 0 5 (some x) = S
  have sk : ∀ a, hK S a = hK σ a := fun a => by rw [← hS]; rfl
  have sz : ∀ a, hZ S a = hZ σ a := fun a => by rw [← hS]; rfl
  have sn : hN S = hN σ := by rw [← hS]; rfl
  have sr : ∀ a k, hR S a k = if a = 0 ∧ k = 5 then some x else if a = 71 ∧ k = (2 + (ps + n) % 8) - 2 then some b else hR σ a k := fun a k => by
    rw [← hS, hR_wR _ _ _ _ _ _ (show 0 < hN (wR (wc σ (up G 0 10 (nI n)) J) 71 ((ps + n) % 8) (some b)) from by show 0 < hN σ; omega), hR_wR _ _ _ _ _ _ (show 71 < hN (wc σ (up G 0 10 (nI n)) J) from by show 71 < hN σ; omega), Nat.add_sub_cancel_left]
    rfl
  have sg : S.2.2.2.1 = up G 0 10 (nI n) := by rw [← hS]; rfl
  have sj : S.2.2.2.2.1 = J := by rw [← hS]; rfl
  have sw : wc S (up G 0 10 (nI n)) J = S := by
    rw [← hS]
    rfl
  have rbs : ∀ i y M, i < 12 → P i = some y → W1 M → RB G J y M → RB (up G 0 10 (nI n)) J y M := fun i y M hi hy w1 r => rb_same pb w1 hi hy (fun a h1 h2 => up_a (by have := (pb.1 i y hi hy).2.1; omega)) (fun _ _ _ => rfl) r
  have pw : ∀ i, i ≠ 0 → i ≠ 2 + (ps + n) % 8 → swP P (2 + (ps + n) % 8) i = P i := fun i h0 hr => by
    unfold swP
    rw [if_neg h0, if_neg hr]
  have pb' := pb_sw (σ' := S) pb (by omega) (by omega) hx c3 sn sk sz sr
  refine ⟨S, up G 0 10 (nI n), x, ?_, ⟨⟨ck_sw ck sn sk sz (fun a k h1 h2 => ?_), ?_, ?_, ?_, ?_, pb'⟩, ⟨?_, ?_, ?_⟩, ⟨?_, fun k hk => ?_⟩, fun e => ?_, ⟨up_eq _ _ _ _, ?_, u3, fun k hk => ?_⟩, fun k hk => ⟨?_, fun e => ?_⟩, ⟨?_, ?_, ?_, fun k hk => ?_⟩⟩, ⟨⟨by omega, by omega⟩, fun a ha => ⟨sk a, sz a, fun a0 _ _ a71 _ k => ?_⟩, fun a h1 h2 => ⟨up_a (by omega), rfl⟩⟩⟩
  · have a1 : ∀ G', aR (wc σ G' J) (some 71) 27 (nI ((ps + n) % 8)) = some (some x) := fun G' => aR_c ck.2.2.2.1.1 ck.2.2.2.1.2.1 hm (by decide) ((pb.2.2.1 _ hm).trans hx)
    unfold fX9_undo
    rw [cr_o hC, bnP_1, cr_I hC, bnP_1, u1, if_neg (show ¬ nI U.1 = 0 from fun e => absurd ((nI_eq (b := 0) (by omega) (by decide)).mp e) (by omega)), bnP_1, show nI U.1 - 1 = nI n from by rw [nI_m1 (by omega), hU]; rfl, cr_P hC, bnP_1, cr_I hC, bnP_1, up_k (by decide), cr_I hC, bnP_1, up_eq, gR_c ck.1.2.1 ck.2.1.2.1, bnP_1, u2, nI_add, nI_m8 (by omega)]
    unfold fX9_rowAt
    rw [a1, bnP_1, if_neg (fun q => by cases q), bnA_ok, a1, bnP_1, addC_1]
    rw [bnA_ok, gR_c ck.1.2.1 ck.2.1.2.1, bnP_1, gR_c ck.1.2.1 hC.1.2.1, bnP_1]
    have e1 : sR (wc σ (up G 0 10 (nI n)) J) (some 71) 27 1 (nI ((ps + n) % 8)) (some b) = some (wR (wc σ (up G 0 10 (nI n)) J) 71 ((ps + n) % 8) (some b)) := by
      unfold sR
      dsimp only
      rw [if_pos ⟨⟨⟨ck.2.2.2.1.1, by rw [show hZ (wc σ (up G 0 10 (nI n)) J) 71 = 8 from ck.2.2.2.1.2.1]; exact inb_nI hm (by decide)⟩, by show 71 < hN σ; omega⟩, bb.2.1.1, bl⟩, nI_clamp (by omega)]
    have e2 : pR (wR (wc σ (up G 0 10 (nI n)) J) 71 ((ps + n) % 8) (some b)) (some 0) 9 5 (some x) = some S := by
      unfold pR
      dsimp only
      rw [if_pos ⟨ck.1.2.1, by show 0 < hN σ; omega⟩, hS]
    rw [e1, bnP_1, e2, bnP_1, ← sw, gI_c (by rw [sk]; exact ck.1.2.1) (by omega), bnP_1, up_eq, addC_1]
    rfl
  · rw [sr, if_neg (by omega), if_neg (by omega)]
  · rw [sr, if_pos ⟨rfl, rfl⟩]
  · rw [sr, if_neg (by decide), if_neg (by omega)]
    exact hC.1.2.2.1
  · show P (if 0 = 0 then _ else _) = _
    rw [if_pos rfl]
    exact hx
  · rw [pw 1 (by decide) (by omega)]
    exact hC.1.2.2.2.2.1
  · rw [up_k (by decide)]
    exact hC.2.1.1
  · rw [up_k (by decide)]
    exact hC.2.1.2.1
  · rw [up_k (by decide)]
    exact hC.2.1.2.2
  · rw [up_k (by decide)]
    exact hC.2.2.1.1
  · rw [up_a (by decide)]
    exact hC.2.2.1.2 k hk
  · exact rbs _ x _ (by omega) hx (hA.2.2.1 n (by omega)).1 rx
  · rw [up_k (by decide)]
    exact u2
  · have hk : k < n := hk
    obtain ⟨y, hy, ry⟩ := u4 k (by omega)
    have hm2 := Nat.mod_lt (ps + k) (show 0 < 8 by decide)
    exact ⟨y, by rw [pw _ (by omega) (by omega)]; exact hy, rbs _ y _ (by omega) hy (hA.2.2.1 k (by omega)).1 ry⟩
  · rw [up_a (by decide)]
    exact (hC.2.2.2.2.2.1 k hk).1
  · obtain ⟨y, hy, ry⟩ := (hC.2.2.2.2.2.1 k hk).2 e
    exact ⟨y, by rw [pw _ (by omega) (by omega)]; exact hy, rbs _ y _ (by omega) hy (hA.2.2.2 k hk e).1 ry⟩
  · rw [up_a (by decide)]
    exact hC.2.2.2.2.2.2.1
  · rw [up_a (by decide)]
    exact hC.2.2.2.2.2.2.2.1
  · rw [sz]
    exact hC.2.2.2.2.2.2.2.2.1
  · rw [up_a (by have := ck.2.2.2.2.2.2.2.2.1; omega)]
    exact hC.2.2.2.2.2.2.2.2.2 k hk
  · rw [sr, if_neg (by omega), if_neg (by omega)]
theorem m_undo1 (hM : MR σ G E I N U V T) (hU : U.1 = n + 1) (h8 : n < 8) : fX10_undo (some 80) (wi σ G) = some (nI n, wi σ (cw (up (up G 80 0 0) 80 7 (nI n)) 81 (U.2 n))) := by
  have mk := hM.1
  have n2 := hM.2.2.2.1.2
  have f81 := hM.2.2.2.1.1
  obtain ⟨u1, u2⟩ := hM.2.2.2.2.1
  obtain ⟨f1, e1, k1⟩ := m_lays (σ := σ) (G := up (up G 80 0 0) 80 7 (nI n)) (x := 83) (y := 81) (p := n * 6139) (q := 0) mk.2.2.1.2.2.1 mk.2.2.1.1 (by have := mk.1; omega) (by have := mk.1; omega) mk.2.2.2.1.2.2.1 mk.2.2.2.1.1 (by decide) (by omega) (by decide) (by decide) (by decide)
  have q1 : f1 = U.2 n := by
    rw [u2 n (by omega), funext k1, up_a (by decide), up_a (by decide), up_a (by decide), up_a (by decide), f81]
    funext j
    unfold rwN
    by_cases z : j < 6139
    · rw [if_pos (by omega), if_pos z]
      congr 1
      omega
    · rw [if_neg (by omega), if_neg z]
      exact n2 j (by omega)
  rw [q1] at e1
  unfold fX10_undo
  rw [mk_o mk, bnP_1, mk_I mk, bnP_1, u1, hU, if_neg (show ¬ nI (n + 1) ≤ 0 from nI_ge (a := 0) (by omega) (by omega)), bnP_1]
  dsimp only
  rw [show (1 : Int32) = bI true from rfl, m_may mk, bnS_1, if_pos (show (true && true && true) = true from rfl), mk_I mk, bnP_1, up_k (by decide), u1, hU, show nI (n + 1) - bI true = nI n from nI_m1 (by omega), mk_P mk, bnP_1, mk_r3 mk, bnP_1, mk_I mk, bnP_1, up_eq, mk_r1 mk, bnP_1, show nI n * 6139 = nI (n * 6139) from pk_mul n 6139, show fX10_lays (some (80 + 3)) (nI (n * 6139)) (some (80 + 1)) 0 (wi σ (up (up G 80 0 (thr true true true)) 80 7 (nI n))) = _ from e1, bnP_1, mk_I mk, bnP_1, cw_b (by decide), up_eq]
theorem mr_undo (hM : MR σ G E I N U V T) (hU : U.1 = n + 1) : MR σ (cw (up (up G 80 0 0) 80 7 (nI n)) 81 (U.2 n)) E I (U.2 n) (n, U.2) V T := by
  obtain ⟨mk, ⟨e1, e2, e3⟩, ⟨i1, i2⟩, -, ⟨u1, u2⟩, hV, ⟨t1, t2⟩⟩ := hM
  have o : ∀ j, j ≠ 0 → j ≠ 7 → cw (up (up G 80 0 0) 80 7 (nI n)) 81 (U.2 n) 80 j = G 80 j := fun j h0 h7 => by rw [cw_b (by decide), up_k h7, up_k h0]
  have g : ∀ a, a ≠ 80 → a ≠ 81 → cw (up (up G 80 0 0) 80 7 (nI n)) 81 (U.2 n) a = G a := fun a h1 h2 => by rw [cw_b h2, up_a h1, up_a h1]
  refine ⟨mk, ⟨by rw [o 6 (by decide) (by decide)]; exact e1, by rw [o 10 (by decide) (by decide)]; exact e2, by rw [o 11 (by decide) (by decide)]; exact e3⟩, ⟨by rw [o 9 (by decide) (by decide)]; exact i1, by rw [g 86 (by decide) (by decide)]; exact i2⟩, ⟨cw_a _ _ _, ?_⟩, ⟨by rw [cw_b (by decide)]; exact up_eq _ _ _ _, fun k hk => ?_⟩, by rw [g 85 (by decide) (by decide), g 84 (by decide) (by decide)]; exact hV, ⟨by rw [o 23 (by decide) (by decide)]; exact t1, by rw [g 88 (by decide) (by decide)]; exact t2⟩⟩
  · rw [u2 n (by omega)]
    exact rwN_z _ _
  · have hk : k < n := hk
    rw [g 83 (by decide) (by decide)]
    exact u2 k (by omega)
/-- case 49: UNDO -/
theorem sc49 (hC : CR σ G J b bs ps P tx E I N U V T) (hM : MR σ G E I N U V T) (hA : AW E I N U V T) (hD : DK σ) {Lx : Nat} {xs : Nat → Int32} {v5 : Int32} (v4 : Option Nat) : STEP σ (fL_c49 Lx xs (some 0) (some 80) (some 89) v4 v5 (wc σ G J)) := by
  have ck := hC.1.1
  have hn := ck.1.1
  have h8 := hA.1.2.2.2.1
  unfold fL_c49 fL_undo
  by_cases z : U.1 = 0
  · refine chg_err (r := .error 0) (t := 1) (i := 1) (j := 6) hC hM hA hD (qg_rf P G) ?_ (fun J' => ?_) ⟨by decide, rfl⟩ (by decide) (by decide)
    · unfold fX9_undo
      rw [cr_o hC, bnP_1, cr_I hC, bnP_1, hC.2.2.2.2.1.1, z, if_pos (show nI 0 = 0 from rfl)]
    · show fX10_undo (some 80) (wi (wc σ G J') G) = _
      have mk' : MK (wc σ G J') 80 := hM.1
      unfold fX10_undo
      rw [mk_o mk', bnP_1, mk_I mk', bnP_1, hM.2.2.2.2.1.1, z, if_pos (show nI 0 ≤ 0 by decide), bnP_1]
      dsimp only
      rw [show (0 : Int32) = bI false from rfl, show (1 : Int32) = bI true from rfl, m_may mk', bnS_1]
      rfl
  · obtain ⟨n, hU⟩ : ∃ n, U.1 = n + 1 := ⟨U.1 - 1, by omega⟩
    obtain ⟨σ', G2, x, ec, hC2, hX⟩ := c_undo hC hA hU
    have m2 : MR σ' G2 E I N U V T := exm_mr hX hM
    have m3 := mr_undo m2 hU
    have hd : hK σ' 89 = 21 ∧ 89 < hN σ' ∧ hZ σ' 89 = 1 := by
      have := (exm_dk hX hn hD).1
      exact ⟨this.1, by have := hX.1.1; omega, this.2⟩
    obtain ⟨y, hy⟩ := lq_gen (σ1 := σ') (G1 := G2) (G2 := cw (up (up G2 80 0 0) 80 7 (nI n)) 81 (U.2 n)) (J1 := J) (m := 80) (d := 89) (i := 0) (j := 0) (C := fX9_undo (some 0) (wc σ G J)) (M := fun s5 => fX10_undo (some 80) s5) (g := fun n3 s2 => if n3 = 0 then some (.ok 1, s2, 0, 0) else none) (r := .ok (nI n)) (x := nI n) hd m2.1 ec (fun J' => by
      have m2' : MR (wc σ' G2 J') G2 E I N U V T := m2
      exact m_undo1 m2' hU (by omega)) ⟨rfl, by rw [cw_b (by decide), up_k (by decide), up_eq]⟩
    have hA2 : AW E I (U.2 n) (n, U.2) V T := ⟨⟨hA.1.1, hA.1.2.1, fun e => by have := hA.1.2.2.1 e; omega, by show n ≤ 8; omega, hA.1.2.2.2.2⟩, fun _ => hA.2.2.1 n (by omega), fun k hk => hA.2.2.1 k (by have : k < n := hk; omega), hA.2.2.2⟩
    have c := exm_cap hX hn ck.2.2.2.2.2.1.2.2.2 ck.2.2.2.2.2.2.2.1
    refine ⟨σ', _, upJ J 89 0 y, 0, 0, hy, ⟨x, bs, ps, swP P (2 + (ps + n) % 8), tx, E, I, U.2 n, (n, U.2), V, T, ?_, m3, hA2, exm_dk hX hn hD⟩, ?_, ?_, ?_⟩
    · exact cr_m hC2 hA2 (fun a ha => by rw [cw_b (by omega), up_a (by omega), up_a (by omega)]) (fun a ha => upJ_a ha)
    · have := hX.1.2
      omega
    · omega
    · omega
end UND
