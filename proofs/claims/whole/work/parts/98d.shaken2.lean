/-! THE PURE LEVEL, 62: SHAKENOUT -/
def gkN (M g : Nat → Int32) : Nat → Nat → Int32
  | 0 => g
  | k + 1 => shG (itN M k) (gkN M g k) (nLv (itN M k))
section SC22
variable {σ : HpT} {G G1 G2 : Nat → Nat → Int32} {J J2 : Nat → Nat → Int64} {b bs ps tx q : Nat} {P : Nat → Option Nat} {E : tE} {I T : tI} {N M : Nat → Int32} {U : tU} {V : tV}
theorem l_take {L : Nat} (h : LK σ L) (h7 : LK σ 74) (hne : L + 3 ≤ 74 ∨ 77 ≤ L) (hw : WFN M) (r : LvR G L M) : ∃ G2, fX4_take (some 74) (some L) (wc σ G J) = some (wc σ G2 J) ∧ (∀ a, a ≠ 74 → a ≠ 75 → G2 a = G a) ∧ LvR G2 74 M := by
  have h12 := nlv_12 hw.1
  refine ⟨cw (up (up G 74 0 (G L 0)) 74 1 (G L 1)) 75 (va_cpy (G (L + 1)) (G 75) 0 0 12), ?_, fun a h1 h2 => by rw [cw_b h2, up_a h1, up_a h1], ?_, ?_, fun l hl => ?_⟩
  · unfold fX4_take
    rw [lk_o h7, bnP_1, lk_I h, bnP_1, lk_P h7, bnP_1, lk_I h, bnP_1, up_a (by omega), lk_P h7, bnP_1, lk_r2 h, bnP_1, lk_r2 h7, bnP_1, show cpI 20 (wc σ (up (up G 74 0 (G L 0)) 74 1 (G L 1)) J) (some (L + 1)) 0 (some (74 + 1)) 0 12 = _ from cpI_c (n := 12) (z := 12) h.2.2.1.1 h7.2.2.1.1 (by have := h.1; omega) (by have := h7.1; omega) h.2.2.2.1.1 h7.2.2.2.1.1 (by decide) (by decide), bnP_1, up_a (by omega), up_a (by omega), up_a (by omega), up_a (by omega)]
  · rw [cw_b (by decide), up_k (by decide), up_eq]
    exact r.1
  · rw [cw_b (by decide), up_eq]
    exact r.2.1
  · rw [cw_a, cpy_in (by omega)]
    exact r.2.2 l hl
theorem c_shakenLoop (hk0 : hK σ 0 = 9) (hr : hR σ 0 13 = some 74) (h7 : LK σ 74) (hw : WFN M) (r : LvR G 74 M) (hq : q ≤ 12) (h0 : fallC M q = 0) (hp : ∀ k, k < q → 0 < fallC M k) : ∃ G2, lpS (fX9_shakenOut_l1 (some 0)) FUEL 0 (wc σ G J) = some (nI q, wc σ G2 J) ∧ ∀ a, a ≠ 74 → a ≠ 75 → a ≠ 76 → G2 a = G a := by
  have h12 := nlv_12 hw.1
  have go : ∀ (G' : Nat → Nat → Int32), gR (wc σ G' J) (some 0) 9 13 = some (some 74) := fun G' => gR_c hk0 hr
  obtain ⟨r1, S1, e1, rfl, G2, rfl, f2⟩ := lpS_i (f := fX9_shakenOut_l1 (some 0)) (fun n (a : Int32) S => ∃ k G', k + n = q ∧ a = nI k ∧ S = wc σ G' J ∧ (∀ a, a ≠ 74 → a ≠ 75 → a ≠ 76 → G' a = G a) ∧ LvR G' 74 (itN M k)) (fun (r : Int32) S => r = nI q ∧ ∃ G', S = wc σ G' J ∧ ∀ a, a ≠ 74 → a ≠ 75 → a ≠ 76 → G' a = G a) q FUEL 0 (wc σ G J) (show q < 200000 by omega) ⟨0, G, Nat.zero_add _, rfl, rfl, fun _ _ _ _ => rfl, r⟩ (by
    rintro n a S ⟨k, G', hk, rfl, rfl, fr, lv⟩
    obtain ⟨i1, i2, i3⟩ := it_wf hw k
    obtain ⟨G3, e3, f3, l3⟩ := l_dropLoose (J := J) h7 i1 lv
    refine Or.inl ⟨_, _, ?_, k + 1, G3, by omega, nI_a1 k, rfl, fun a h1 h2 h3 => (f3 a h2 h3).trans (fr a h1 h2 h3), ?_⟩
    · unfold fX9_shakenOut_l1
      have hc : 0 < cntN (lsB (itN M k)) (nLv (itN M k)) := by
        rw [i2]
        exact hp k (by omega)
      have hc2 := cntN_le (lsB (itN M k)) (nLv (itN M k))
      rw [if_neg (show ¬ (12 : Int32) ≤ nI k from nI_ge (show k < 12 by omega) (by decide)), go, bnP_1, e3, bnS_1, if_neg (nI_nle hc (by omega))]
    · rw [i2] at l3
      exact l3) (by
    rintro a S ⟨k, G', hk, rfl, rfl, fr, lv⟩
    obtain rfl : k = q := by omega
    obtain ⟨i1, i2, i3⟩ := it_wf hw k
    by_cases z : k = 12
    · refine ⟨_, _, ?_, rfl, G', rfl, fr⟩
      unfold fX9_shakenOut_l1
      rw [z, if_pos (show (12 : Int32) ≤ nI 12 by decide)]
    · obtain ⟨G3, e3, f3, l3⟩ := l_dropLoose (J := J) h7 i1 lv
      refine ⟨_, _, ?_, rfl, G3, rfl, fun a h1 h2 h3 => (f3 a h2 h3).trans (fr a h1 h2 h3)⟩
      unfold fX9_shakenOut_l1
      have hc : cntN (lsB (itN M k)) (nLv (itN M k)) = 0 := by
        rw [i2]
        exact h0
      rw [if_neg (show ¬ (12 : Int32) ≤ nI k from nI_ge (show k < 12 by omega) (by decide)), go, bnP_1, e3, bnS_1, hc, if_pos (show nI 0 ≤ 0 by decide)])
  exact ⟨G2, e1, f2⟩
theorem m_shakenLoop (h : MK σ 80) (hw : WFN M) (e : G 81 = M) (hq : q ≤ 12) (h0 : fallC M q = 0) (hp : ∀ k, k < q → 0 < fallC M k) : lpS (fX10_shakenOut_l1 (some 80)) FUEL 0 (wi σ G) = some (nI q, wi σ (cw (cw G 87 (gkN M (G 87) (q + 1))) 81 (itN M (q + 1)))) := by
  have h12 := nlv_12 hw.1
  have st : ∀ k, fX10_shakes (some 80) (wi σ (cw (cw G 87 (gkN M (G 87) k)) 81 (itN M k))) = some (nI (fallC M k), wi σ (cw (cw G 87 (gkN M (G 87) (k + 1))) 81 (itN M (k + 1)))) := fun k => by
    obtain ⟨i1, i2, i3⟩ := it_wf hw k
    have es := m_shakes (G := cw (cw G 87 (gkN M (G 87) k)) 81 (itN M k)) h i1 (cw_a _ _ _)
    rw [es, cw_b (by decide), cw_a, i2]
    show some (nI (fallC M k), wi σ (cw (cw (cw (cw G 87 (gkN M (G 87) k)) 81 (itN M k)) 87 (shG (itN M k) (gkN M (G 87) k) (nLv M))) 81 (shK (itN M k) (nLv M)))) = some (nI (fallC M k), wi σ (cw (cw G 87 (shG (itN M k) (gkN M (G 87) k) (nLv (itN M k)))) 81 (shK (itN M k) (nLv M))))
    rw [i2]
    congr 3
    funext a j
    unfold cw
    by_cases z : a = 81
    · simp only [z, if_true]
    · by_cases z2 : a = 87
      · simp only [if_neg z, if_pos z2]
      · simp only [if_neg z, if_neg z2]
  have hf : ∀ k, fallC M k ≤ 12 := fun k => by
    have := cntN_le (lsB (itN M k)) (nLv M)
    unfold fallC
    omega
  exact lpS_f (f := fX10_shakenOut_l1 (some 80)) q (fun k => nI k) (fun k => wi σ (cw (cw G 87 (gkN M (G 87) k)) 81 (itN M k))) rfl (by
    show wi σ (cw (cw G 87 (G 87)) 81 M) = wi σ G
    rw [cw_self, ← e, cw_self]) (by omega) (fun k hk => by
    unfold fX10_shakenOut_l1
    rw [st k, bnS_1, if_neg (nI_nle (hp k hk) (by have := hf k; omega)), nI_a1]) (by
    unfold fX10_shakenOut_l1
    rw [st q, bnS_1, h0, if_pos (show nI 0 ≤ 0 by decide)])
/-- case 22: SHAKENOUT -/
theorem sc22 (hC : CR σ G J b bs ps P tx E I N U V T) (hM : MR σ G E I N U V T) (hA : AW E I N U V T) (hD : DK σ) {Lx : Nat} {xs : Nat → Int32} {v5 : Int32} (v4 : Option Nat) : STEP σ (fL_c22 Lx xs (some 0) (some 80) (some 89) v4 v5 (wc σ G J)) := by
  have lo := lo_of hC hM hA hD
  have e4 := hC.2.1.1
  have mk := hM.1
  have f6 := hM.2.1.1
  have hn := hC.1.1.1.1
  unfold fL_c22 fL_shakenOut
  by_cases qE : E.1 = 0
  · refine chg_err (r := .error 0) (t := 1) (i := 1) (j := 6) hC hM hA hD (qg_rf P G) ?_ (fun J' => ?_) ⟨by decide, rfl⟩ (by decide) (by decide)
    · unfold fX9_shakenOut
      rw [nk_o lo.1, bnP_1, c_requireBook lo.1, if_pos (by rw [e4]; exact qE), bnXA_e]
    · show fX10_shakenOut (some 80) (wi (wc σ G J') G) = _
      have mk' : MK (wc σ G J') 80 := mk
      unfold fX10_shakenOut
      rw [mk_o mk', bnP_1, m_mayLook mk' (by rw [f6]; exact hA.1.1), bnS_1, f6, decide_eq_false (fun e => e qE)]
      rfl
  · have hw := hA.2.1 qE
    have r := hC.2.2.2.1 qE
    have B := nk_B lo.1
    have h7 := hC.1.1.2.2.2.2.1
    have hbb := cr_b hC
    obtain ⟨q, hq, h0, hp⟩ := it_end hw
    obtain ⟨Ga, ea, fa, la⟩ := l_take (J := J) (bk_L B) h7 (by omega) hw (rl_of r)
    obtain ⟨Gc, ec, fc⟩ := c_shakenLoop (J := J) hC.1.1.1.2.1 hC.1.1.2.1.2.2.2.2.1 h7 hw la hq h0 hp
    have fc2 : ∀ a, a ≠ 74 → a ≠ 75 → a ≠ 76 → Gc a = G a := fun a h1 h2 h3 => (fc a h1 h2 h3).trans (fa a h1 h2)
    obtain ⟨g82, hg⟩ : ∃ g : Nat → Int32, g = fun j => if 0 ≤ j ∧ j < 0 + 6139 then N (0 + (j - 0)) else G 82 j := ⟨_, rfl⟩
    obtain ⟨G3, hG3⟩ : ∃ G3, G3 = cw (cw (cw (up Gc 80 0 0) 82 g82) 87 (gkN N (G 87) (q + 1))) 81 N := ⟨_, rfl⟩
    have em : ∀ J', fX10_shakenOut (some 80) (wc σ Gc J') = some (nI q, wc σ G3 J') := by
      intro J'
      show fX10_shakenOut (some 80) (wi (wc σ Gc J') Gc) = _
      have mk' : MK (wc σ Gc J') 80 := mk
      obtain ⟨f1, e1, k1⟩ := m_lays (σ := wc σ Gc J') (G := up Gc 80 0 0) (x := 81) (y := 82) (p := 0) (q := 0) mk'.2.2.1.1 mk'.2.2.1.2.1 (by have := mk'.1; omega) (by have := mk'.1; omega) mk'.2.2.2.1.1 mk'.2.2.2.1.2.1 (by decide) (by decide) (by decide) (by decide) (by decide)
      have g81 : up Gc 80 0 0 81 = N := by rw [up_a (by decide), fc2 81 (by decide) (by decide) (by decide)]; exact hM.2.2.2.1.1
      have u82 : up Gc 80 0 0 82 = G 82 := by rw [up_a (by decide), fc2 82 (by decide) (by decide) (by decide)]
      have u87 : up Gc 80 0 0 87 = G 87 := by rw [up_a (by decide), fc2 87 (by decide) (by decide) (by decide)]
      have q82 : f1 = g82 := by rw [hg, funext k1, g81, u82]
      subst q82
      have l1 := m_shakenLoop (σ := wc σ Gc J') (G := cw (up Gc 80 0 0) 82 f1) mk' hw (by rw [cw_b (by decide)]; exact g81) hq h0 hp
      rw [show cw (up Gc 80 0 0) 82 f1 87 = G 87 by rw [cw_b (by decide)]; exact u87] at l1
      obtain ⟨f2, e2, k2⟩ := m_lays (σ := wc σ Gc J') (G := cw (cw (cw (up Gc 80 0 0) 82 f1) 87 (gkN N (G 87) (q + 1))) 81 (itN N (q + 1))) (x := 82) (y := 81) (p := 0) (q := 0) mk'.2.2.1.2.1 mk'.2.2.1.1 (by have := mk'.1; omega) (by have := mk'.1; omega) mk'.2.2.2.1.2.1 mk'.2.2.2.1.1 (by decide) (by decide) (by decide) (by decide) (by decide)
      have q81 : f2 = N := by
        funext j
        rw [k2 j, cw_b (by decide), cw_b (by decide), cw_a, cw_a]
        have h12 := nlv_12 hw.1
        by_cases z : j < 6139
        · rw [if_pos (by omega), k1, if_pos (by omega), g81]
          congr 1
          omega
        · rw [if_neg (by omega)]
          exact (it_wf hw (q + 1)).2.2 j (by omega)
      rw [q81] at e2
      unfold fX10_shakenOut fX10_thinks
      rw [mk_o mk', bnP_1, m_mayLook mk' (by rw [fc2 80 (by decide) (by decide) (by decide), f6]; exact hA.1.1), bnS_1, fc2 80 (by decide) (by decide) (by decide), f6, decide_eq_true qE, if_pos rfl, mk_o mk', bnP_1, mk_r1 mk', bnP_1, mk_r2 mk', bnP_1, show fX10_lays (some (80 + 1)) 0 (some (80 + 2)) 0 (wi (wc σ Gc J') (up Gc 80 0 (thr true true true))) = _ from e1, bnP_1, bnP_1, l1, bnS_1]
      unfold fX10_back
      rw [mk_o mk', bnP_1, mk_r2 mk', bnP_1, mk_r1 mk', bnP_1, show fX10_lays (some (80 + 2)) 0 (some (80 + 1)) 0 (wi (wc σ Gc J') (cw (cw (cw (up Gc 80 0 0) 82 f1) 87 (gkN N (G 87) (q + 1))) 81 (itN N (q + 1)))) = _ from e2, bnP_1, bnS_1, cw_cw, hG3]
      rfl
    have z80 : G3 80 0 = 0 := by rw [hG3, cw_b (by decide), cw_b (by decide), cw_b (by decide), up_eq]
    obtain ⟨y, hy⟩ := lq_gen (σ1 := σ) (G1 := Gc) (G2 := G3) (J1 := J) (m := 80) (d := 89) (i := 0) (j := 0) (C := fX9_shakenOut (some 0) (wc σ G J)) (M := fun s5 => fX10_shakenOut (some 80) s5) (g := fun n3 s2 => if n3 = 0 then some (.ok 1, s2, 0, 0) else none) (r := .ok (nI q)) (x := nI q) ⟨hD.1.1, by omega, hD.1.2⟩ mk (by
      unfold fX9_shakenOut
      rw [nk_o lo.1, bnP_1, c_requireBook lo.1, if_neg (by rw [e4]; exact qE), bnXA_1, show gR (wc σ G J) (some 0) 9 13 = some (some 74) from gR_c hC.1.1.1.2.1 hC.1.1.2.1.2.2.2.2.1, bnP_1, nk_b lo.1, bnP_1, bk_r9 B, bnP_1, ea, bnP_1, ec, bnS_1]) em ⟨rfl, z80⟩
    refine step_q hC hM hA hD hy ⟨fun a ha => ?_, fun k hk => ?_, fun a ha => ?_⟩ (by decide) (by decide)
    · have n1 : ¬ (80 ≤ a ∧ a < 91) := fun e => ha (Or.inl e)
      have n2 : ¬ (a = 68 ∨ a = 69 ∨ a = 74 ∨ a = 75 ∨ a = 76) := fun e => ha (Or.inr (Or.inl e))
      rw [hG3, cw_b (by omega), cw_b (by omega), cw_b (by omega), up_a (by omega)]
      exact fc2 a (by omega) (by omega) (by omega)
    · rw [hG3, cw_b (by decide), cw_b (by decide), cw_b (by decide), up_k (by omega), fc2 80 (by decide) (by decide) (by decide)]
    · by_cases z : a = 81
      · subst z
        rw [hG3, cw_a]
        exact hM.2.2.2.1.1.symm
      · rw [hG3, cw_b z, cw_b (by omega), cw_b (by omega), up_a (by omega)]
        exact fc2 a (by omega) (by omega) (by omega)
end SC22
