/-! THE PURE LEVEL, 28: a Book takes what another holds -/
def cwJ (J : Nat → Nat → Int64) (a : Nat) (f : Nat → Int64) : Nat → Nat → Int64 := fun b j => if b = a then f j else J b j
theorem cwJ_a (J : Nat → Nat → Int64) (a : Nat) (f : Nat → Int64) : cwJ J a f a = f := funext fun _ => if_pos rfl
theorem cwJ_b {J : Nat → Nat → Int64} {a b : Nat} {f : Nat → Int64} (h : b ≠ a) : cwJ J a f b = J b := funext fun _ => if_neg h
theorem cpy_in {α : Type} {f g : Nat → α} {n k : Nat} (h : k < n) : va_cpy f g 0 0 n k = f k := by
  have e := pk_cpy_in (f := f) (g := g) (sp := 0) (dp := 0) (n := n) (j := k) (Nat.zero_le _) (by omega)
  rw [e, Nat.zero_add, Nat.sub_zero]
section TK
variable {σ : HpT} {G : Nat → Nat → Int32} {J : Nat → Nat → Int64} {b c : Nat} {N : Nat → Int32}
theorem cpI_c {κ a e n z : Nat} (hk : hK σ a = κ) (hk2 : hK σ e = κ) (ha : a < hN σ) (he : e < hN σ) (za : hZ σ a = z) (ze : hZ σ e = z) (hn : n ≤ z) (hz : z < 2 ^ 31) : cpI κ (wc σ G J) (some a) 0 (some e) 0 (nI n) = some (wc σ (cw G e (va_cpy (G a) (G e) 0 0 n)) J) := by
  have e1 : hI (wc σ G J) a = G a := funext fun k => hI_wc k ha
  have e2 : hI (wc σ G J) e = G e := funext fun k => hI_wc k he
  have e3 : (nI n).toNatClampNeg = n := nI_clamp (by omega)
  have e4 : (nI n).toInt = (n : Int) := nI_toInt (by omega)
  have e5 : (0 : Int32).toNatClampNeg = 0 := rfl
  have e6 : (0 : Int32).toInt = 0 := rfl
  unfold cpI
  dsimp only
  rw [if_pos ⟨hk, hk2, ha, he, by rw [e6]; exact Int.le_refl _, by rw [e6]; exact Int.le_refl _, by rw [e4]; omega, by rw [e5, e3, show hZ (wc σ G J) a = z from za]; omega, by rw [e5, e3, show hZ (wc σ G J) e = z from ze]; omega⟩, e1, e2, e3, e5]
  rfl
theorem cpJ_c {a e n z : Nat} (hk : hK σ a = 21) (hk2 : hK σ e = 21) (ha : a < hN σ) (he : e < hN σ) (za : hZ σ a = z) (ze : hZ σ e = z) (hn : n ≤ z) (hz : z < 2 ^ 31) : cpJ (wc σ G J) (some a) 0 (some e) 0 (nI n) = some (wc σ G (cwJ J e (va_cpy (J a) (J e) 0 0 n))) := by
  have e1 : hJ (wc σ G J) a = J a := funext fun k => hJ_wc k ha
  have e2 : hJ (wc σ G J) e = J e := funext fun k => hJ_wc k he
  have e3 : (nI n).toNatClampNeg = n := nI_clamp (by omega)
  have e4 : (nI n).toInt = (n : Int) := nI_toInt (by omega)
  have e5 : (0 : Int32).toNatClampNeg = 0 := rfl
  have e6 : (0 : Int32).toInt = 0 := rfl
  unfold cpJ
  dsimp only
  rw [if_pos ⟨hk, hk2, ha, he, by rw [e6]; exact Int.le_refl _, by rw [e6]; exact Int.le_refl _, by rw [e4]; omega, by rw [e5, e3, show hZ (wc σ G J) a = z from za]; omega, by rw [e5, e3, show hZ (wc σ G J) e = z from ze]; omega⟩, e1, e2, e3, e5]
  rfl
theorem c_take0 {x y : Nat} (hx : hK σ x = 0) (hy : hK σ y = 0) (lx : x < hN σ) (ly : y < hN σ) (hne : x ≠ y) (G : Nat → Nat → Int32) : ∃ f, fX0_take (some y) (some x) (wc σ G J) = some (wc σ (cw G y f) J) ∧ ∀ j, j < 8 → f j = G x j := by
  have xG : ∀ f k, gI (wc σ (cw G y f) J) (some x) 0 k = some (G x k) := fun f k => by
    rw [gI_c hx lx, cw_b hne]
  have yP : ∀ f k v, pI (wc σ (cw G y f) J) (some y) 0 k v = some (wc σ (cw G y (u1 f k v)) J) := fun f k v => by
    rw [pI_c hy ly, up_cw]
  refine ⟨u1 (u1 (u1 (u1 (u1 (u1 (u1 (u1 (G y) 0 (G x 0)) 1 (G x 1)) 2 (G x 2)) 3 (G x 3)) 4 (G x 4)) 5 (G x 5)) 6 (G x 6)) 7 (G x 7), ?_, ?_⟩
  · unfold fX0_take
    rw [show wc σ G J = wc σ (cw G y (G y)) J by rw [cw_self], isK_c hy, bnP_1]
    simp only [xG, yP, bnP_1]
  · intro j hj
    have hj : j = 0 ∨ j = 1 ∨ j = 2 ∨ j = 3 ∨ j = 4 ∨ j = 5 ∨ j = 6 ∨ j = 7 := by omega
    rcases hj with rfl | rfl | rfl | rfl | rfl | rfl | rfl | rfl <;> rfl
theorem c_take3 {x y : Nat} (hx : hK σ x = 3) (hy : hK σ y = 3) (lx : x < hN σ) (ly : y < hN σ) (hne : x ≠ y) (G : Nat → Nat → Int32) : ∃ f, fX3_take (some y) (some x) (wc σ G J) = some (wc σ (cw G y f) J) ∧ ∀ j, j < 5 → f j = G x j := by
  have xG : ∀ f k, gI (wc σ (cw G y f) J) (some x) 3 k = some (G x k) := fun f k => by
    rw [gI_c hx lx, cw_b hne]
  have yP : ∀ f k v, pI (wc σ (cw G y f) J) (some y) 3 k v = some (wc σ (cw G y (u1 f k v)) J) := fun f k v => by
    rw [pI_c hy ly, up_cw]
  refine ⟨u1 (u1 (u1 (u1 (u1 (G y) 0 (G x 0)) 1 (G x 1)) 2 (G x 2)) 3 (G x 3)) 4 (G x 4), ?_, ?_⟩
  · unfold fX3_take
    rw [show wc σ G J = wc σ (cw G y (G y)) J by rw [cw_self], isK_c hy, bnP_1]
    simp only [xG, yP, bnP_1]
  · intro j hj
    have hj : j = 0 ∨ j = 1 ∨ j = 2 ∨ j = 3 ∨ j = 4 := by omega
    rcases hj with rfl | rfl | rfl | rfl | rfl <;> rfl
theorem rb_copy {G' : Nat → Nat → Int32} {J' : Nat → Nat → Int64} (hw : WFN N) (h0 : ∀ j, j < 6 → G' c j = G b j) (h3 : G' (c + 3) 0 = G (b + 3) 0) (h10 : ∀ j, j < 2 → G' (c + 10) j = G (b + 10) j) (ha : ∀ a, a < nAc N → ∀ j, j < 8 → G' (c + 15 + a) j = G (b + 15 + a) j) (hc : ∀ i, i < nCp N → ∀ j, j < 5 → G' (c + 25 + i) j = G (b + 25 + i) j) (hl : ∀ l, l < 12 → G' (c + 11) l = G (b + 11) l) (hg : ∀ g, g < nWd N → J' (c + 4) g = J (b + 4) g ∧ G' (c + 5) g = G (b + 5) g ∧ G' (c + 6) g = G (b + 6) g ∧ G' (c + 7) g = G (b + 7) g ∧ G' (c + 8) g = G (b + 8) g) (hj : ∀ g, g < 4 * nWd N → J' (c + 9) g = J (b + 9) g) (r : RB G J b N) : RB G' J' c N := by
  have h12 := nlv_12 hw.1
  obtain ⟨⟨a1, a2, a3, a4, a5, a6, a7, a8, a9, a10, a11⟩, ⟨b1, b2⟩, c1⟩ := r
  refine ⟨⟨by rw [h0 0 (by decide)]; exact a1, by rw [h0 1 (by decide)]; exact a2, by rw [h0 2 (by decide)]; exact a3, by rw [h0 3 (by decide)]; exact a4, by rw [h0 4 (by decide)]; exact a5, by rw [h0 5 (by decide)]; exact a6, by rw [h3]; exact a7, by rw [h10 0 (by decide)]; exact a8, by rw [h10 1 (by decide)]; exact a9, fun a hn => ?_, fun l hn => by rw [hl l (by omega)]; exact a11 l hn⟩, ⟨fun g hn => ?_, fun a hn g q1 q2 => ?_⟩, fun i hn => ?_⟩
  · have e := ha a hn
    rw [e 0 (by decide), e 1 (by decide), e 2 (by decide), e 3 (by decide), e 4 (by decide), e 5 (by decide), e 6 (by decide), e 7 (by decide)]
    exact a10 a hn
  · have e := hg g hn
    have q : wN' N g < 5 := (hw.2.2.2.1 g hn).1.2
    rw [e.1, e.2.2.2.1, e.2.2.2.2]
    refine ⟨(b1 g hn).1, (b1 g hn).2.1, (b1 g hn).2.2.1, fun j hj2 => ?_⟩
    rw [hj (4 * g + j) (by omega)]
    exact (b1 g hn).2.2.2 j hj2
  · have e := hg g (by have := act_le hw.1 hw.2.1 hn; omega)
    rw [e.2.1, e.2.2.1]
    exact b2 a hn g q1 q2
  · have e := hc i hn
    have q := c1 i hn
    rw [e 0 (by decide), e 1 (by decide), e 2 (by decide), e 3 (by decide), e 4 (by decide)]
    exact q
theorem c_take (hb : BK σ b) (hc : BK σ c) (hw : WFN N) (r : RB G J b N) (hap : b + 33 ≤ c ∨ c + 33 ≤ b) : ∃ G' J', fX1_take (some c) (some b) (wc σ G J) = some (wc σ G' J') ∧ (∀ a, a < c ∨ c + 33 ≤ a → G' a = G a) ∧ (∀ a, a < c ∨ c + 33 ≤ a → J' a = J a) ∧ RB G' J' c N := by
  have bd := w1_b hw.1
  have hbN := hb.1
  have hcN := hc.1
  -- the Book's own fields
  have sG : ∀ f k, gI (wc σ (cw G c f) J) (some b) 1 k = some (G b k) := fun f k => by
    rw [bk_I hb, cw_b (by omega)]
  have cP : ∀ f k v, pI (wc σ (cw G c f) J) (some c) 1 k v = some (wc σ (cw G c (u1 f k v)) J) := fun f k v => by
    rw [bk_P hc, up_cw]
  generalize hf0 : u1 (u1 (u1 (u1 (u1 (u1 (G c) 0 (G b 0)) 1 (G b 1)) 2 (G b 2)) 3 (G b 3)) 4 (G b 4)) 5 (G b 5) = f0
  have z0 : ∀ j, j < 6 → f0 j = G b j := fun j hj => by
    rw [← hf0]
    have hj : j = 0 ∨ j = 1 ∨ j = 2 ∨ j = 3 ∨ j = 4 ∨ j = 5 := by omega
    rcases hj with rfl | rfl | rfl | rfl | rfl | rfl <;> rfl
  generalize hG1 : cw G c f0 = G1
  have g1c : G1 c = f0 := by rw [← hG1]; exact cw_a _ _ _
  have g1 : ∀ a, a ≠ c → G1 a = G a := fun a ha => by rw [← hG1]; exact cw_b ha
  have nA : G1 c 2 = nI (nAc N) := by rw [g1c, z0 2 (by decide)]; exact rb_n r hw.1
  have nC : G1 c 3 = nI (nCp N) := by rw [g1c, z0 3 (by decide)]; exact rb_p r hw.1
  -- the acts
  have l1 : ∃ r1 S, lpS (fX1_take_l1 (some c) (some b)) FUEL 0 (wc σ G1 J) = some (r1, S) ∧ ∃ G2, S = wc σ G2 J ∧ (∀ a, (∀ i, i < nAc N → a ≠ c + 15 + i) → G2 a = G1 a) ∧ ∀ i, i < nAc N → ∀ j, j < 8 → G2 (c + 15 + i) j = G (b + 15 + i) j := by
    refine lpS_i (fun k a S => k ≤ nAc N ∧ a = nI (nAc N - k) ∧ ∃ G2, S = wc σ G2 J ∧ (∀ a, (∀ i, i < nAc N - k → a ≠ c + 15 + i) → G2 a = G1 a) ∧ ∀ i, i < nAc N - k → ∀ j, j < 8 → G2 (c + 15 + i) j = G (b + 15 + i) j) (fun _ S => ∃ G2, S = wc σ G2 J ∧ (∀ a, (∀ i, i < nAc N → a ≠ c + 15 + i) → G2 a = G1 a) ∧ ∀ i, i < nAc N → ∀ j, j < 8 → G2 (c + 15 + i) j = G (b + 15 + i) j) (nAc N) FUEL _ _ (show nAc N < 200000 by omega) ⟨Nat.le_refl _, by rw [Nat.sub_self]; rfl, G1, rfl, fun a _ => rfl, fun i hi => by omega⟩ (fun k a S hI => ?_) (fun a S hI => ?_)
    · obtain ⟨k1, k2, G2, rfl, k3, k4⟩ := hI
      left
      have hi : nAc N - (k + 1) < nAc N := by omega
      generalize hk : nAc N - (k + 1) = i at *
      obtain ⟨f, hf, hf8⟩ := c_take0 (J := J) (hb.2.2.2.2.1 i (by omega)).1 (hc.2.2.2.2.1 i (by omega)).1 (show b + 15 + i < hN σ by omega) (show c + 15 + i < hN σ by omega) (show b + 15 + i ≠ c + 15 + i by omega) G2
      refine ⟨nI (i + 1), wc σ (cw G2 (c + 15 + i) f) J, ?_, by omega, by rw [show nAc N - k = i + 1 by omega], cw G2 (c + 15 + i) f, rfl, fun a ha => ?_, fun i2 hi2 j hj => ?_⟩
      · unfold fX1_take_l1
        subst k2
        rw [bk_I hc, bnP_1, k3 c (fun i _ => by omega), nA, if_neg (nI_ge (by omega) (by omega)), bk_r6 hc, bnP_1, bk_aR hc (by omega), bnP_1, bk_r6 hb, bnP_1, bk_aR hb (by omega), bnP_1, hf, bnP_1, nI_a1]
      · rw [cw_b (by rw [show nAc N - k = i + 1 by omega] at ha; exact ha i (by omega)), k3 a (fun i2 hi2 => ha i2 (by omega))]
      · by_cases q : i2 = i
        · subst q
          rw [cw_a, hf8 j hj, k3 (b + 15 + i2) (fun i _ => by omega), g1 _ (by omega)]
        · rw [cw_b (by omega), k4 i2 (by omega) j hj]
    · obtain ⟨k1, k2, G2, rfl, k3, k4⟩ := hI
      rw [Nat.sub_zero] at k2 k3 k4
      refine ⟨(), wc σ G2 J, ?_, G2, rfl, k3, k4⟩
      unfold fX1_take_l1
      subst k2
      rw [bk_I hc, bnP_1, k3 c (fun i _ => by omega), nA, if_pos (nI_le (Nat.le_refl _) (by omega))]
  obtain ⟨r1, S1, hl1, G2, rfl, k1, k2⟩ := l1
  have n2 : G2 c = G1 c := k1 c (fun i _ => by omega)
  -- the copies
  have l2 : ∃ r1 S, lpS (fX1_take_l2 (some c) (some b)) FUEL 0 (wc σ G2 J) = some (r1, S) ∧ ∃ G3, S = wc σ G3 J ∧ (∀ a, (∀ i, i < nCp N → a ≠ c + 25 + i) → G3 a = G2 a) ∧ ∀ i, i < nCp N → ∀ j, j < 5 → G3 (c + 25 + i) j = G (b + 25 + i) j := by
    refine lpS_i (fun k a S => k ≤ nCp N ∧ a = nI (nCp N - k) ∧ ∃ G3, S = wc σ G3 J ∧ (∀ a, (∀ i, i < nCp N - k → a ≠ c + 25 + i) → G3 a = G2 a) ∧ ∀ i, i < nCp N - k → ∀ j, j < 5 → G3 (c + 25 + i) j = G (b + 25 + i) j) (fun _ S => ∃ G3, S = wc σ G3 J ∧ (∀ a, (∀ i, i < nCp N → a ≠ c + 25 + i) → G3 a = G2 a) ∧ ∀ i, i < nCp N → ∀ j, j < 5 → G3 (c + 25 + i) j = G (b + 25 + i) j) (nCp N) FUEL _ _ (show nCp N < 200000 by omega) ⟨Nat.le_refl _, by rw [Nat.sub_self]; rfl, G2, rfl, fun a _ => rfl, fun i hi => by omega⟩ (fun k a S hI => ?_) (fun a S hI => ?_)
    · obtain ⟨k1', k2', G3, rfl, k3, k4⟩ := hI
      left
      have hi : nCp N - (k + 1) < nCp N := by omega
      generalize hk : nCp N - (k + 1) = i at *
      obtain ⟨f, hf, hf8⟩ := c_take3 (J := J) (hb.2.2.2.2.2.1 i (by omega)).1 (hc.2.2.2.2.2.1 i (by omega)).1 (show b + 25 + i < hN σ by omega) (show c + 25 + i < hN σ by omega) (show b + 25 + i ≠ c + 25 + i by omega) G3
      refine ⟨nI (i + 1), wc σ (cw G3 (c + 25 + i) f) J, ?_, by omega, by rw [show nCp N - k = i + 1 by omega], cw G3 (c + 25 + i) f, rfl, fun a ha => ?_, fun i2 hi2 j hj => ?_⟩
      · unfold fX1_take_l2
        subst k2'
        rw [bk_I hc, bnP_1, k3 c (fun i _ => by omega), n2, nC, if_neg (nI_ge (by omega) (by omega)), bk_r7 hc, bnP_1, bk_pR hc (by omega), bnP_1, bk_r7 hb, bnP_1, bk_pR hb (by omega), bnP_1, hf, bnP_1, nI_a1]
      · rw [cw_b (by rw [show nCp N - k = i + 1 by omega] at ha; exact ha i (by omega)), k3 a (fun i2 hi2 => ha i2 (by omega))]
      · by_cases q : i2 = i
        · subst q
          rw [cw_a, hf8 j hj, k3 (b + 25 + i2) (fun i _ => by omega), k1 _ (fun i _ => by omega), g1 _ (by omega)]
        · rw [cw_b (by omega), k4 i2 (by omega) j hj]
    · obtain ⟨k1', k2', G3, rfl, k3, k4⟩ := hI
      rw [Nat.sub_zero] at k2' k3 k4
      refine ⟨(), wc σ G3 J, ?_, G3, rfl, k3, k4⟩
      unfold fX1_take_l2
      subst k2'
      rw [bk_I hc, bnP_1, k3 c (fun i _ => by omega), n2, nC, if_pos (nI_le (Nat.le_refl _) (by omega))]
  obtain ⟨r2, S2, hl2, G3, rfl, k3, k4⟩ := l2
  have g3 : ∀ a, (a < c + 15 ∧ a ≠ c) ∨ c + 33 ≤ a → G3 a = G a := fun a ha => by
    rw [k3 a (fun i _ => by omega), k1 a (fun i _ => by omega), g1 a (by omega)]
  have g3c : G3 c = f0 := by rw [k3 c (fun i _ => by omega), n2, g1c]
  -- the script
  have sb := bk_S hb
  have sc := bk_S hc
  have w0 : G (b + 3) 0 = nI (nWd N) := rb_w r hw.1
  have z4 : nWd N ≤ 240 := by omega
  have l3 : ∃ G4 J4, fX8_take (some (c + 3)) (some (b + 3)) (wc σ G3 J) = some (wc σ G4 J4) ∧ (∀ a, a ≠ c + 3 → a ≠ c + 5 → a ≠ c + 6 → a ≠ c + 7 → a ≠ c + 8 → G4 a = G3 a) ∧ (∀ a, a ≠ c + 4 → a ≠ c + 9 → J4 a = J a) ∧ G4 (c + 3) 0 = G (b + 3) 0 ∧ (∀ g, g < nWd N → J4 (c + 4) g = J (b + 4) g ∧ G4 (c + 5) g = G (b + 5) g ∧ G4 (c + 6) g = G (b + 6) g ∧ G4 (c + 7) g = G (b + 7) g ∧ G4 (c + 8) g = G (b + 8) g) ∧ ∀ g, g < 4 * nWd N → J4 (c + 9) g = J (b + 9) g := by
    generalize hH1 : up G3 (c + 3) 0 (nI (nWd N)) = H1
    have h1a : ∀ a, a ≠ c + 3 → H1 a = G3 a := fun a ha => by rw [← hH1]; exact up_a ha
    have h1b : H1 (c + 3) 0 = nI (nWd N) := by rw [← hH1]; exact up_eq _ _ _ _
    generalize hK1 : cwJ J (c + 4) (va_cpy (J (b + 4)) (J (c + 4)) 0 0 (nWd N)) = K1
    have k1a : ∀ a, a ≠ c + 4 → K1 a = J a := fun a ha => by rw [← hK1]; exact cwJ_b ha
    generalize hH2 : cw H1 (c + 5) (va_cpy (H1 (b + 5)) (H1 (c + 5)) 0 0 (nWd N)) = H2
    have h2a : ∀ a, a ≠ c + 5 → H2 a = H1 a := fun a ha => by rw [← hH2]; exact cw_b ha
    generalize hH3 : cw H2 (c + 6) (va_cpy (H2 (b + 6)) (H2 (c + 6)) 0 0 (nWd N)) = H3
    have h3a : ∀ a, a ≠ c + 6 → H3 a = H2 a := fun a ha => by rw [← hH3]; exact cw_b ha
    generalize hH4 : cw H3 (c + 8) (va_cpy (H3 (b + 8)) (H3 (c + 8)) 0 0 (nWd N)) = H4
    have h4a : ∀ a, a ≠ c + 8 → H4 a = H3 a := fun a ha => by rw [← hH4]; exact cw_b ha
    generalize hK2 : cwJ K1 (c + 9) (va_cpy (K1 (b + 9)) (K1 (c + 9)) 0 0 (nWd N * 4)) = K2
    have k2a : ∀ a, a ≠ c + 9 → K2 a = K1 a := fun a ha => by rw [← hK2]; exact cwJ_b ha
    have w4 : H4 (c + 3) 0 = nI (nWd N) := by rw [h4a _ (by omega), h3a _ (by omega), h2a _ (by omega), h1b]
    -- struck, one by one
    have lz : ∃ u S, lpS (fX8_take_l1 (some (c + 3)) (some (b + 3))) FUEL 0 (wc σ H4 K2) = some (u, S) ∧ ∃ H5, S = wc σ H5 K2 ∧ (∀ a, a ≠ c + 7 → H5 a = H4 a) ∧ ∀ g, g < nWd N → H5 (c + 7) g = G (b + 7) g := by
      refine lpS_i (fun k a S => k ≤ nWd N ∧ a = nI (nWd N - k) ∧ ∃ H5, S = wc σ H5 K2 ∧ (∀ a, a ≠ c + 7 → H5 a = H4 a) ∧ ∀ g, g < nWd N - k → H5 (c + 7) g = G (b + 7) g) (fun _ S => ∃ H5, S = wc σ H5 K2 ∧ (∀ a, a ≠ c + 7 → H5 a = H4 a) ∧ ∀ g, g < nWd N → H5 (c + 7) g = G (b + 7) g) (nWd N) FUEL _ _ (show nWd N < 200000 by omega) ⟨Nat.le_refl _, by rw [Nat.sub_self]; rfl, H4, rfl, fun a _ => rfl, fun i hi => by omega⟩ (fun k a S hI => ?_) (fun a S hI => ?_)
      · obtain ⟨e1, e2, H5, rfl, e3, e4⟩ := hI
        left
        have hi : nWd N - (k + 1) < nWd N := by omega
        generalize hk : nWd N - (k + 1) = i at *
        have v01 : vp_nar .boolean (G (b + 7) i) = G (b + 7) i := by
          rw [(r.2.1.1 i hi).2.1]
          rcases (hw.2.2.2.1 i hi).2 with q | q
          · rw [q]
            rfl
          · rw [q]
            rfl
        refine ⟨nI (i + 1), wc σ (up H5 (c + 7) i (G (b + 7) i)) K2, ?_, by omega, by rw [show nWd N - k = i + 1 by omega], _, rfl, fun a ha => ?_, fun g hg => ?_⟩
        · unfold fX8_take_l1
          subst e2
          have eb : H5 (b + 3 + 4) = G (b + 7) := by
            rw [show b + 3 + 4 = b + 7 from rfl, e3 _ (by omega), h4a _ (by omega), h3a _ (by omega), h2a _ (by omega), h1a _ (by omega), g3 _ (by omega)]
          rw [sk_I sc, bnP_1, e3 _ (by omega), w4, if_neg (nI_ge (by omega) (by omega)), sk_r4 sc, bnP_1, sk_r4 sb, bnP_1, sk_a4 sb (by omega), bnP_1, eb, sk_s4 sc (by omega), bnP_1, v01, nI_a1]
        · rw [up_a ha, e3 a ha]
        · by_cases q : g = i
          · rw [q, up_eq]
          · rw [up_k q, e4 g (by omega)]
      · obtain ⟨e1, e2, H5, rfl, e3, e4⟩ := hI
        rw [Nat.sub_zero] at e2 e4
        refine ⟨(), wc σ H5 K2, ?_, H5, rfl, e3, e4⟩
        unfold fX8_take_l1
        subst e2
        rw [sk_I sc, bnP_1, e3 _ (by omega), w4, if_pos (nI_le (Nat.le_refl _) (by omega))]
    obtain ⟨u, S, hz, H5, rfl, e3, e4⟩ := lz
    refine ⟨H5, K2, ?_, ?_, ?_, ?_, ?_, ?_⟩
    · unfold fX8_take
      have sbN := sb.1
      have scN := sc.1
      rw [sk_o sc, bnP_1, sk_I sb, bnP_1, g3 (b + 3) (by omega), w0, sk_P sc, bnP_1, hH1, sk_r1 sb, bnP_1, sk_r1 sc, bnP_1, sk_I sc, bnP_1, h1b, cpJ_c sb.2.2.1.1 sc.2.2.1.1 (by omega) (by omega) sb.2.2.2.1.1 sc.2.2.2.1.1 z4 (by decide), bnP_1]
      rw [show cwJ J (c + 3 + 1) (va_cpy (J (b + 3 + 1)) (J (c + 3 + 1)) 0 0 (nWd N)) = K1 from hK1]
      rw [sk_r2 sb, bnP_1, sk_r2 sc, bnP_1, sk_I sc, bnP_1, h1b, cpI_c sb.2.2.1.2.1 sc.2.2.1.2.1 (by omega) (by omega) sb.2.2.2.1.2.1 sc.2.2.2.1.2.1 z4 (by decide), bnP_1]
      rw [show cw H1 (c + 3 + 2) (va_cpy (H1 (b + 3 + 2)) (H1 (c + 3 + 2)) 0 0 (nWd N)) = H2 from hH2]
      rw [sk_r3 sb, bnP_1, sk_r3 sc, bnP_1, sk_I sc, bnP_1, h2a _ (by omega), h1b, cpI_c sb.2.2.1.2.2.1 sc.2.2.1.2.2.1 (by omega) (by omega) sb.2.2.2.1.2.2.1 sc.2.2.2.1.2.2.1 z4 (by decide), bnP_1]
      rw [show cw H2 (c + 3 + 3) (va_cpy (H2 (b + 3 + 3)) (H2 (c + 3 + 3)) 0 0 (nWd N)) = H3 from hH3]
      rw [sk_r5 sb, bnP_1, sk_r5 sc, bnP_1, sk_I sc, bnP_1, h3a _ (by omega), h2a _ (by omega), h1b, cpI_c sb.2.2.1.2.2.2.2.1 sc.2.2.1.2.2.2.2.1 (by omega) (by omega) sb.2.2.2.1.2.2.2.2.1 sc.2.2.2.1.2.2.2.2.1 z4 (by decide), bnP_1]
      rw [show cw H3 (c + 3 + 5) (va_cpy (H3 (b + 3 + 5)) (H3 (c + 3 + 5)) 0 0 (nWd N)) = H4 from hH4]
      rw [sk_r6 sb, bnP_1, sk_r6 sc, bnP_1, sk_I sc, bnP_1, w4, li_4, pk_mul, cpJ_c sb.2.2.1.2.2.2.2.2 sc.2.2.1.2.2.2.2.2 (by omega) (by omega) sb.2.2.2.1.2.2.2.2.2 sc.2.2.2.1.2.2.2.2.2 (by omega) (by decide), bnP_1]
      rw [show cwJ K1 (c + 3 + 6) (va_cpy (K1 (b + 3 + 6)) (K1 (c + 3 + 6)) 0 0 (nWd N * 4)) = K2 from hK2]
      rw [hz, bnS_1]
    · intro a q1 q2 q3 q4 q5
      rw [e3 a q4, h4a a q5, h3a a q3, h2a a q2, h1a a q1]
    · intro a q1 q2
      rw [k2a a q2, k1a a q1]
    · rw [e3 _ (by omega), w4, w0]
    · intro g hg
      refine ⟨?_, ?_, ?_, e4 g hg, ?_⟩
      · rw [k2a _ (by omega), ← hK1, cwJ_a, cpy_in hg]
      · rw [e3 _ (by omega), h4a _ (by omega), h3a _ (by omega), ← hH2, cw_a, cpy_in hg, h1a _ (by omega), g3 _ (by omega)]
      · rw [e3 _ (by omega), h4a _ (by omega), ← hH3, cw_a, cpy_in hg, h2a _ (by omega), h1a _ (by omega), g3 _ (by omega)]
      · rw [e3 _ (by omega), ← hH4, cw_a, cpy_in hg, h3a _ (by omega), h2a _ (by omega), h1a _ (by omega), g3 _ (by omega)]
    · intro g hg
      rw [← hK2, cwJ_a, cpy_in (by omega), k1a _ (by omega)]
  obtain ⟨G4, J4, hl3, m1, m2, m3, m4, m5⟩ := l3
  -- the leaves
  have lb := bk_L hb
  have lc := bk_L hc
  have lbN := lb.1
  have lcN := lc.1
  generalize hG5 : up (up G4 (c + 10) 0 (G (b + 10) 0)) (c + 10) 1 (G (b + 10) 1) = G5
  have g5a : ∀ a, a ≠ c + 10 → G5 a = G4 a := fun a ha => by rw [← hG5, up_a ha, up_a ha]
  generalize hG6 : cw G5 (c + 11) (va_cpy (G5 (b + 11)) (G5 (c + 11)) 0 0 12) = G6
  have g6a : ∀ a, a ≠ c + 11 → G6 a = G5 a := fun a ha => by rw [← hG6]; exact cw_b ha
  have eb10 : G4 (b + 10) = G (b + 10) := by rw [m1 _ (by omega) (by omega) (by omega) (by omega) (by omega), g3 _ (by omega)]
  refine ⟨G6, J4, ?_, ?_, ?_, ?_⟩
  · unfold fX1_take
    rw [show wc σ G J = wc σ (cw G c (G c)) J by rw [cw_self], bk_o hc, bnP_1, sG, bnP_1, cP, bnP_1, sG, bnP_1, cP, bnP_1, sG, bnP_1, cP, bnP_1, sG, bnP_1, cP, bnP_1, sG, bnP_1, cP, bnP_1, sG, bnP_1, cP, bnP_1, hf0, hG1, hl1, bnS_1, hl2, bnS_1, bk_r8 hc, bnP_1, bk_r8 hb, bnP_1, hl3, bnP_1, bk_r9 hc, bnP_1, bk_r9 hb, bnP_1]
    unfold fX4_take
    rw [lk_o lc, bnP_1, lk_I lb, bnP_1, eb10, lk_P lc, bnP_1, lk_I lb, bnP_1, up_a (by omega), eb10, lk_P lc, bnP_1, hG5, lk_r2 lb, bnP_1, lk_r2 lc, bnP_1, li_12, cpI_c lb.2.2.1.1 lc.2.2.1.1 (by omega) (by omega) lb.2.2.2.1.1 lc.2.2.2.1.1 (by decide) (by decide), bnP_1]
    rw [show cw G5 (c + 10 + 1) (va_cpy (G5 (b + 10 + 1)) (G5 (c + 10 + 1)) 0 0 12) = G6 from hG6, bnP_1]
  · intro a ha
    rw [g6a a (by omega), g5a a (by omega), m1 a (by omega) (by omega) (by omega) (by omega) (by omega), g3 a (by omega)]
  · intro a ha
    exact m2 a (by omega) (by omega)
  · refine rb_copy (G := G) (J := J) (b := b) hw (fun j hj => ?_) ?_ (fun j hj => ?_) (fun a ha j hj => ?_) (fun i hi j hj => ?_) (fun l hl => ?_) (fun g hg => ?_) (fun g hg => m5 g hg) r
    · rw [g6a _ (by omega), g5a _ (by omega), m1 _ (by omega) (by omega) (by omega) (by omega) (by omega), g3c, z0 j hj]
    · rw [g6a _ (by omega), g5a _ (by omega), m3]
    · rw [g6a _ (by omega), ← hG5]
      have hj : j = 0 ∨ j = 1 := by omega
      rcases hj with rfl | rfl
      · rw [up_k (by decide), up_eq]
      · rw [up_eq]
    · rw [g6a _ (by omega), g5a _ (by omega), m1 _ (by omega) (by omega) (by omega) (by omega) (by omega), k3 _ (fun i _ => by omega), k2 a ha j hj]
    · rw [g6a _ (by omega), g5a _ (by omega), m1 _ (by omega) (by omega) (by omega) (by omega) (by omega), k4 i hi j hj]
    · rw [← hG6, cw_a, cpy_in hl, g5a _ (by omega), m1 _ (by omega) (by omega) (by omega) (by omega) (by omega), g3 _ (by omega)]
    · rw [g6a _ (by omega), g5a _ (by omega), g6a _ (by omega), g5a _ (by omega), g6a _ (by omega), g5a _ (by omega), g6a _ (by omega), g5a _ (by omega)]
      exact m4 g hg
end TK
