/-! THE PURE LEVEL, 33: the buffer; APPEND, PARSEERROR, ERRORPOSITION, BUFFERED, UNDOABLE -/
section INP
variable {σ : HpT} {G G' : Nat → Nat → Int32} {J J' : Nat → Nat → Int64} {b bs ps tx : Nat} {P : Nat → Option Nat} {E : tE} {I I' T : tI} {N : Nat → Int32} {U : tU} {V : tV}
theorem rb_same (h : PB σ P tx) {i x : Nat} {M : tN} (w1 : W1 M) (hi : i < 12) (hx : P i = some x) (hG : ∀ a, x ≤ a → a < x + 33 → G' a = G a) (hJ : ∀ a, x ≤ a → a < x + 33 → J' a = J a) (r : RB G J x M) : RB G' J' x M := rb_cong w1 (fun a h1 h2 _ _ _ _ => hG a h1 h2) hJ r
/-- another buffer -/
theorem cr_in (hC : CR σ G J b bs ps P tx E I N U V T) (hA : AW E I N U V T) (h0 : ∀ k, k ≠ 1 → G' 0 k = G 0 k) (h1 : G' 0 1 = nI I'.1) (h2 : ∀ k, k < I'.1 → G' 1 k = I'.2 k) (hG : ∀ a, a ≠ 0 → a ≠ 1 → G' a = G a) : CR σ G' J b bs ps P tx E I' N U V T := by
  obtain ⟨⟨ck, c1, c2, c3, c4, pb⟩, ⟨e1, e2, e3⟩, -, hN, ⟨u1, u2, u3, u4⟩, hV, ⟨t1, t2, t3, t4⟩⟩ := hC
  have bk : ∀ i x, i < 12 → P i = some x → ∀ a, x ≤ a → a < x + 33 → G' a = G a := fun i x hi hx a h1 h2 => by
    have := (pb.1 i x hi hx).2.1
    exact hG a (by omega) (by omega)
  have tx2 := ck.2.2.2.2.2.2.2.2.1
  refine ⟨⟨ck, c1, c2, c3, c4, pb⟩, ⟨by rw [h0 4 (by decide)]; exact e1, by rw [h0 2 (by decide)]; exact e2, by rw [h0 3 (by decide)]; exact e3⟩, ⟨h1, h2⟩, fun q => rb_same pb (hA.2.1 q).1 (by decide) c3 (bk 0 b (by decide) c3) (fun _ _ _ => rfl) (hN q), ⟨by rw [h0 10 (by decide)]; exact u1, by rw [h0 9 (by decide)]; exact u2, u3, fun k hk => ?_⟩, fun k hk => ⟨by rw [hG 73 (by decide) (by decide)]; exact (hV k hk).1, fun q => ?_⟩, ⟨by rw [hG 78 (by decide) (by decide)]; exact t1, by rw [hG 78 (by decide) (by decide)]; exact t2, t3, fun k hk => by rw [hG tx (by omega) (by omega)]; exact t4 k hk⟩⟩
  · obtain ⟨x, hx, r⟩ := u4 k hk
    have hi : 2 + (ps + k) % 8 < 12 := by have := Nat.mod_lt (ps + k) (show 0 < 8 by decide); omega
    exact ⟨x, hx, rb_same pb (hA.2.2.1 k hk).1 hi hx (bk _ x hi hx) (fun _ _ _ => rfl) r⟩
  · obtain ⟨x, hx, r⟩ := (hV k hk).2 q
    exact ⟨x, hx, rb_same pb (hA.2.2.2 k hk q).1 (by omega) hx (bk _ x (by omega) hx) (fun _ _ _ => rfl) r⟩
theorem mr_in (hM : MR σ G E I N U V T) (h0 : ∀ k, k = 6 ∨ k = 7 ∨ k = 10 ∨ k = 11 ∨ k = 23 → G' 80 k = G 80 k) (h1 : G' 80 9 = nI I'.1) (h2 : ∀ k, k < I'.1 → G' 86 k = I'.2 k) (hG : ∀ a, a = 81 ∨ a = 83 ∨ a = 84 ∨ a = 85 ∨ a = 88 → G' a = G a) : MR σ G' E I' N U V T := by
  obtain ⟨mk, ⟨e1, e2, e3⟩, -, ⟨n1, n2⟩, ⟨u1, u2⟩, hV, ⟨t1, t2⟩⟩ := hM
  refine ⟨mk, ⟨by rw [h0 6 (by omega)]; exact e1, by rw [h0 10 (by omega)]; exact e2, by rw [h0 11 (by omega)]; exact e3⟩, ⟨h1, h2⟩, ⟨by rw [hG 81 (by omega)]; exact n1, n2⟩, ⟨by rw [h0 7 (by omega)]; exact u1, by rw [hG 83 (by omega)]; exact u2⟩, by rw [hG 85 (by omega), hG 84 (by omega)]; exact hV, ⟨by rw [h0 23 (by omega)]; exact t1, by rw [hG 88 (by omega)]; exact t2⟩⟩
/-- the reference's cells moved, the class's side stays -/
theorem cr_m (hC : CR σ G J b bs ps P tx E I N U V T) (hA : AW E I N U V T) (hG : ∀ a, a < 80 ∨ 91 ≤ a → G' a = G a) (hJ : ∀ a, a ≠ 89 → J' a = J a) : CR σ G' J' b bs ps P tx E I N U V T := cr_frame hC hA (fun a ha => hG a (by
  by_cases z : a < 80 ∨ 91 ≤ a
  · exact z
  · exact absurd (Or.inl (by omega)) ha)) hJ
/-- the class's cells moved, the reference's side stays -/
theorem mr_c (hM : MR σ G E I N U V T) (hG : ∀ a, 80 ≤ a → a < 91 → G' a = G a) : MR σ G' E I N U V T := mr_frame hM (fun k _ => by rw [hG 80 (by decide) (by decide)]) (fun a ha => hG a (by omega) (by omega))
theorem aw_in (hA : AW E I N U V T) (h : I'.1 ≤ 600) : AW E I' N U V T := ⟨⟨hA.1.1, h, hA.1.2.2.1, hA.1.2.2.2.1, hA.1.2.2.2.2⟩, hA.2.1, hA.2.2.1, hA.2.2.2⟩
theorem cr_o (hC : CR σ G J b bs ps P tx E I N U V T) (G' : Nat → Nat → Int32) (J' : Nat → Nat → Int64) : isK (wc σ G' J') (some 0) 9 = some () := isK_c hC.1.1.1.2.1
theorem cr_I (hC : CR σ G J b bs ps P tx E I N U V T) (G' : Nat → Nat → Int32) (J' : Nat → Nat → Int64) (k : Nat) : gI (wc σ G' J') (some 0) 9 k = some (G' 0 k) := gI_c hC.1.1.1.2.1 (by have := hC.1.1.1.1; omega)
theorem cr_P (hC : CR σ G J b bs ps P tx E I N U V T) (G' : Nat → Nat → Int32) (J' : Nat → Nat → Int64) (k : Nat) (x : Int32) : pI (wc σ G' J') (some 0) 9 k x = some (wc σ (up G' 0 k x) J') := pI_c hC.1.1.1.2.1 (by have := hC.1.1.1.1; omega)
theorem cr_r0 (hC : CR σ G J b bs ps P tx E I N U V T) (G' : Nat → Nat → Int32) (J' : Nat → Nat → Int64) : gR (wc σ G' J') (some 0) 9 0 = some (some 1) := gR_c hC.1.1.1.2.1 hC.1.1.1.2.2.2.2
theorem cr_a1 (hC : CR σ G J b bs ps P tx E I N U V T) (G' : Nat → Nat → Int32) (J' : Nat → Nat → Int64) {n : Nat} (hn : n < 600) : aI (wc σ G' J') (some 1) 22 (nI n) = some (G' 1 n) := aI_c hC.1.1.1.2.2.1 (by have := hC.1.1.1.1; omega) hC.1.1.1.2.2.2.1 hn (by decide)
theorem cr_s1 (hC : CR σ G J b bs ps P tx E I N U V T) (G' : Nat → Nat → Int32) (J' : Nat → Nat → Int64) {n : Nat} (x : Int32) (hn : n < 600) : sB (wc σ G' J') (some 1) (nI n) x = some (wc σ (up G' 1 n x.toInt8.toInt32) J') := sB_c hC.1.1.1.2.2.1 (by have := hC.1.1.1.1; omega) hC.1.1.1.2.2.2.1 hn (by decide)
/-- four bytes of an int -/
def bt (v s : Int32) : Int32 := ((v >>> s).toInt8.toInt32).toInt8.toInt32
def app4 (v : Int32) (n : Nat) (f : Nat → Int32) : Nat → Int32 := u1 (u1 (u1 (u1 f n (bt v 24)) (n + 1) (bt v 16)) (n + 2) (bt v 8)) (n + 3) (bt v 0)
theorem c_four (hC : CR σ G J b bs ps P tx E I N U V T) {n : Nat} (hn : n + 4 ≤ 600) {G1 : Nat → Nat → Int32} {f0 : Nat → Int32} (h0 : f0 1 = nI n) (f : Nat → Int32) (v : Int32) : fX9_putFourBytes (some 0) v (wc σ (cw (cw G1 1 f) 0 f0) J) = some (wc σ (cw (cw G1 1 (app4 v n f)) 0 (u1 f0 1 (nI (n + 4)))) J) := by
  have one : ∀ (q : Int32) (n : Nat) (f : Nat → Int32) (g0 : Nat → Int32), ¬ q < 0 → n < 600 → g0 1 = nI n → fX9_putFourBytes_l1 (some 0) v q (wc σ (cw (cw G1 1 f) 0 g0) J) = some (.inl (q + (-8)), wc σ (cw (cw G1 1 (u1 f n (bt v (q &&& 31)))) 0 (u1 g0 1 (nI (n + 1)))) J) := by
    intro q n f g0 hq hn h0
    unfold fX9_putFourBytes_l1
    rw [if_neg hq, cr_I hC, bnP_1, cw_a, h0, if_neg (show ¬ (600 : Int32) ≤ nI n from nI_ge hn (by decide)), cr_r0 hC, bnP_1, bnP_1, cr_s1 hC _ _ _ hn, bnP_1, cr_I hC, bnP_1, up_a (by decide), cw_a, h0, cr_P hC, bnP_1, nI_a1]
    have e : up (up (cw (cw G1 1 f) 0 g0) 1 n ((v >>> (q &&& 31)).toInt8.toInt32.toInt8.toInt32)) 0 1 (nI (n + 1)) = cw (cw G1 1 (u1 f n (bt v (q &&& 31)))) 0 (u1 g0 1 (nI (n + 1))) := by
      funext a j
      unfold up cw u1 bt
      by_cases a0 : a = 0
      · subst a0
        simp
      · by_cases a1 : a = 1
        · subst a1
          simp
        · simp [a0, a1]
    rw [e]
  unfold fX9_putFourBytes
  rw [cr_o hC, bnP_1, show FUEL = 199995 + 1 + 1 + 1 + 1 + 1 from rfl]
  rw [lpS_s _ (one 24 n f f0 (by decide) (by omega) h0), show (24 : Int32) + (-8) = 16 by decide]
  rw [lpS_s _ (one 16 (n + 1) _ _ (by decide) (by omega) (u1_e _ _ _)), show (16 : Int32) + (-8) = 8 by decide]
  rw [lpS_s _ (one 8 (n + 2) _ _ (by decide) (by omega) (u1_e _ _ _)), show (8 : Int32) + (-8) = 0 by decide]
  rw [lpS_s _ (one 0 (n + 3) _ _ (by decide) (by omega) (u1_e _ _ _)), show (0 : Int32) + (-8) = -8 by decide]
  rw [lpS_e (r := ()) (σ2 := _) _ (by
    unfold fX9_putFourBytes_l1
    exact if_pos (by decide)), bnS_1]
  rw [show (24 : Int32) &&& 31 = 24 by decide, show (16 : Int32) &&& 31 = 16 by decide, show (8 : Int32) &&& 31 = 8 by decide, show (0 : Int32) &&& 31 = 0 by decide]
  have e : u1 (u1 (u1 (u1 f0 1 (nI (n + 1))) 1 (nI (n + 1 + 1))) 1 (nI (n + 2 + 1))) 1 (nI (n + 3 + 1)) = u1 f0 1 (nI (n + 4)) := by
    funext j
    unfold u1
    by_cases q : j = 1
    · rw [if_pos q, if_pos q]
    · rw [if_neg q, if_neg q, if_neg q, if_neg q, if_neg q]
  rw [e]
  rfl
theorem m_four (hM : MK σ 80) {n : Nat} (hn : n + 4 ≤ 600) {G1 : Nat → Nat → Int32} {f0 : Nat → Int32} (h0 : f0 9 = nI n) (f : Nat → Int32) (v : Int32) : fX10_four (some 80) v (wi σ (cw (cw G1 86 f) 80 f0)) = some (wi σ (cw (cw G1 86 (app4 v n f)) 80 (u1 f0 9 (nI (n + 4))))) := by
  have one : ∀ (q : Int32) (n : Nat) (f : Nat → Int32) (g0 : Nat → Int32), ¬ q < 0 → n < 600 → g0 9 = nI n → fX10_four_l1 (some 80) v q (wi σ (cw (cw G1 86 f) 80 g0)) = some (.inl (q + (-1)), wi σ (cw (cw G1 86 (u1 f n (bt v ((8 * q) &&& 31)))) 80 (u1 g0 9 (nI (n + 1))))) := by
    intro q n f g0 hq hn h0
    unfold fX10_four_l1
    rw [if_neg hq, mk_r6 hM, bnP_1, mk_I hM, bnP_1, cw_a, h0, mk_s6 hM hn, bnP_1, mk_I hM, bnP_1, up_a (by decide), cw_a, h0, mk_P hM, bnP_1, nI_a1]
    have e : up (up (cw (cw G1 86 f) 80 g0) (80 + 6) n ((v >>> ((8 * q) &&& 31)).toInt8.toInt32.toInt8.toInt32)) 80 9 (nI (n + 1)) = cw (cw G1 86 (u1 f n (bt v ((8 * q) &&& 31)))) 80 (u1 g0 9 (nI (n + 1))) := by
      funext a j
      unfold up cw u1 bt
      by_cases a0 : a = 80
      · subst a0
        simp
      · by_cases a1 : a = 86
        · subst a1
          simp
        · simp [a0, a1]
    rw [e]
  unfold fX10_four
  rw [mk_o hM, bnP_1, show FUEL = 199995 + 1 + 1 + 1 + 1 + 1 from rfl]
  rw [lpS_s _ (one 3 n f f0 (by decide) (by omega) h0), show (3 : Int32) + (-1) = 2 by decide]
  rw [lpS_s _ (one 2 (n + 1) _ _ (by decide) (by omega) (u1_e _ _ _)), show (2 : Int32) + (-1) = 1 by decide]
  rw [lpS_s _ (one 1 (n + 2) _ _ (by decide) (by omega) (u1_e _ _ _)), show (1 : Int32) + (-1) = 0 by decide]
  rw [lpS_s _ (one 0 (n + 3) _ _ (by decide) (by omega) (u1_e _ _ _)), show (0 : Int32) + (-1) = -1 by decide]
  rw [lpS_e (r := ()) (σ2 := _) _ (by
    unfold fX10_four_l1
    exact if_pos (by decide)), bnS_1]
  rw [show (8 * 3 : Int32) &&& 31 = 24 by decide, show (8 * 2 : Int32) &&& 31 = 16 by decide, show (8 * 1 : Int32) &&& 31 = 8 by decide, show (8 * 0 : Int32) &&& 31 = 0 by decide]
  have e : u1 (u1 (u1 (u1 f0 9 (nI (n + 1))) 9 (nI (n + 1 + 1))) 9 (nI (n + 2 + 1))) 9 (nI (n + 3 + 1)) = u1 f0 9 (nI (n + 4)) := by
    funext j
    unfold u1
    by_cases q : j = 9
    · rw [if_pos q, if_pos q]
    · rw [if_neg q, if_neg q, if_neg q, if_neg q, if_neg q]
  rw [e]
  rfl
def app20 (a b c d e : Int32) (n : Nat) (f : Nat → Int32) : Nat → Int32 := app4 e (n + 16) (app4 d (n + 12) (app4 c (n + 8) (app4 b (n + 4) (app4 a n f))))
theorem u1_u1 (f : Nat → Int32) (k : Nat) (x y : Int32) : u1 (u1 f k x) k y = u1 f k y := by
  funext j
  unfold u1
  by_cases q : j = k
  · rw [if_pos q, if_pos q]
  · rw [if_neg q, if_neg q, if_neg q]
theorem app4_lt {v : Int32} {n : Nat} {f g : Nat → Int32} (h : ∀ k, k < n → f k = g k) : ∀ k, k < n + 4 → app4 v n f k = app4 v n g k := by
  intro k hk
  unfold app4 u1
  by_cases q3 : k = n + 3
  · rw [if_pos q3, if_pos q3]
  · rw [if_neg q3, if_neg q3]
    by_cases q2 : k = n + 2
    · rw [if_pos q2, if_pos q2]
    · rw [if_neg q2, if_neg q2]
      by_cases q1 : k = n + 1
      · rw [if_pos q1, if_pos q1]
      · rw [if_neg q1, if_neg q1]
        by_cases q0 : k = n
        · rw [if_pos q0, if_pos q0]
        · rw [if_neg q0, if_neg q0]
          exact h k (by omega)
theorem app20_lt {a b c d e : Int32} {n : Nat} {f g : Nat → Int32} (h : ∀ k, k < n → f k = g k) : ∀ k, k < n + 20 → app20 a b c d e n f k = app20 a b c d e n g k := app4_lt (app4_lt (app4_lt (app4_lt (app4_lt h))))
theorem cw_id2 (G : Nat → Nat → Int32) (a c : Nat) (h : a ≠ c) : G = cw (cw G a (G a)) c (G c) := by
  rw [cw_self]
  exact (cw_self G c).symm
/-- case 0: APPEND -/
theorem sc0 (hC : CR σ G J b bs ps P tx E I N U V T) (hM : MR σ G E I N U V T) (hA : AW E I N U V T) (hD : DK σ) {Lx : Nat} {xs : Nat → Int32} {v5 a1 a2 a3 a4 a5 : Int32} (h1 : sld Lx xs (v5 + 1) = some a1) (h2 : sld Lx xs (v5 + 2) = some a2) (h3 : sld Lx xs (v5 + 3) = some a3) (h4 : sld Lx xs (v5 + 4) = some a4) (h5 : sld Lx xs (v5 + 5) = some a5) (v3 v4 : Option Nat) : STEP σ (fL_c0 Lx xs (some 0) (some 80) v3 v4 v5 (wc σ G J)) := by
  have mk := hM.1
  have i1 := hC.2.2.1.1
  have i2 := hM.2.2.1.1
  have hb := hA.1.2.1
  unfold fL_c0
  simp only [h1, h2, h3, h4, h5, bnP_1]
  by_cases z : I.1 + 20 ≤ 600
  · have ec : fX9_append (some 0) a1 a2 a3 a4 a5 (wc σ G J) = some (nI (I.1 + 20), wc σ (cw (cw G 1 (app20 a1 a2 a3 a4 a5 I.1 (G 1))) 0 (u1 (G 0) 1 (nI (I.1 + 20)))) J) := by
      unfold fX9_append
      rw [cr_o hC, bnP_1, cr_I hC, bnP_1, i1, li_20, nI_add, if_pos (show nI (I.1 + 20) ≤ 600 from nI_le z (by decide))]
      rw [show wc σ G J = wc σ (cw (cw G 1 (G 1)) 0 (G 0)) J by rw [← cw_id2 G 1 0 (by decide)]]
      rw [c_four hC (by omega) i1, bnP_1, c_four hC (n := I.1 + 4) (by omega) (u1_e _ _ _), bnP_1, c_four hC (n := I.1 + 8) (by omega) (u1_e _ _ _), bnP_1, c_four hC (n := I.1 + 12) (by omega) (u1_e _ _ _), bnP_1, c_four hC (n := I.1 + 16) (by omega) (u1_e _ _ _), bnP_1, u1_u1, u1_u1, u1_u1, u1_u1, cr_I hC, bnP_1, cw_a, u1_e]
      rfl
    generalize hG1 : cw (cw G 1 (app20 a1 a2 a3 a4 a5 I.1 (G 1))) 0 (u1 (G 0) 1 (nI (I.1 + 20))) = G1 at ec
    have g80 : G1 80 = G 80 := by rw [← hG1, cw_b (by decide), cw_b (by decide)]
    have em : ∀ J', fX10_append (some 80) a1 a2 a3 a4 a5 (wc σ G1 J') = some (nI (I.1 + 20), wc σ (cw (cw G1 86 (app20 a1 a2 a3 a4 a5 I.1 (G1 86))) 80 (u1 (u1 (G 80) 0 0) 9 (nI (I.1 + 20)))) J') := by
      intro J'
      show fX10_append (some 80) a1 a2 a3 a4 a5 (wi (wc σ G1 J') G1) = _
      have mk' : MK (wc σ G1 J') 80 := mk
      unfold fX10_append
      rw [mk_o mk', bnP_1, mk_P mk', bnP_1, mk_I mk', bnP_1, up_k (by decide), g80, i2, if_pos (show nI I.1 ≤ 580 from nI_le (show I.1 ≤ 580 by omega) (by decide))]
      rw [show up G1 80 0 0 = cw (cw G1 86 (G1 86)) 80 (u1 (G 80) 0 0) by rw [cw_self, up_is, g80]]
      rw [m_four mk' (n := I.1) (by omega) (by rw [u1_k (by decide)]; exact i2), bnP_1, m_four mk' (n := I.1 + 4) (by omega) (u1_e _ _ _), bnP_1, m_four mk' (n := I.1 + 8) (by omega) (u1_e _ _ _), bnP_1, m_four mk' (n := I.1 + 12) (by omega) (u1_e _ _ _), bnP_1, m_four mk' (n := I.1 + 16) (by omega) (u1_e _ _ _), bnP_1, u1_u1, u1_u1, u1_u1, u1_u1, mk_I mk', bnP_1, cw_a, u1_e]
      rfl
    rw [ec, bnS_1]
    rw [em, bnS_1, if_pos rfl]
    refine ⟨σ, _, J, 0, 0, rfl, ⟨b, bs, ps, P, tx, E, (I.1 + 20, app20 a1 a2 a3 a4 a5 I.1 I.2), N, U, V, T, ?_, ?_, aw_in hA z, hD⟩, by omega, by omega, by omega⟩
    · refine cr_m (G := G1) (J := J) (cr_in (I' := (I.1 + 20, app20 a1 a2 a3 a4 a5 I.1 I.2)) hC hA ?_ ?_ ?_ ?_) (aw_in hA z) ?_ (fun _ _ => rfl)
      · intro k hk
        rw [← hG1, cw_a, u1_k hk]
      · rw [← hG1, cw_a, u1_e]
      · intro k hk
        rw [← hG1, cw_b (by decide), cw_a]
        exact app20_lt hC.2.2.1.2 k hk
      · intro a q0 q1
        rw [← hG1, cw_b q0, cw_b q1]
      · intro a ha
        rw [cw_b (by omega), cw_b (by omega)]
    · refine mr_in (I' := (I.1 + 20, app20 a1 a2 a3 a4 a5 I.1 I.2)) (mr_c (G := G) hM (G' := G1) ?_) ?_ ?_ ?_ ?_
      · intro a q1 q2
        rw [← hG1, cw_b (by omega), cw_b (by omega)]
      · intro k hk
        rw [cw_a, u1_k (by omega), u1_k (by omega), g80]
      · rw [cw_a, u1_e]
      · intro k hk
        rw [cw_b (by decide), cw_a]
        have e86 : G1 86 = G 86 := by rw [← hG1, cw_b (by decide), cw_b (by decide)]
        rw [e86]
        exact app20_lt hM.2.2.1.2 k hk
      · intro a ha
        rw [cw_b (by omega), cw_b (by omega)]
  · have ec : fX9_append (some 0) a1 a2 a3 a4 a5 (wc σ G J) = some (-1, wc σ G J) := by
      unfold fX9_append
      rw [cr_o hC, bnP_1, cr_I hC, bnP_1, i1, li_20, nI_add, if_neg (show ¬ nI (I.1 + 20) ≤ 600 from nI_ge (show 600 < I.1 + 20 by omega) (by omega))]
    have em : fX10_append (some 80) a1 a2 a3 a4 a5 (wc σ G J) = some (-1, wc σ (up G 80 0 0) J) := by
      show fX10_append (some 80) a1 a2 a3 a4 a5 (wi (wc σ G J) G) = _
      have mk' : MK (wc σ G J) 80 := mk
      unfold fX10_append
      rw [mk_o mk', bnP_1, mk_P mk', bnP_1, mk_I mk', bnP_1, up_k (by decide), i2, if_neg (show ¬ nI I.1 ≤ 580 from nI_ge (show 580 < I.1 by omega) (by omega))]
      rfl
    rw [ec, bnS_1]
    rw [em, bnS_1, if_pos rfl]
    exact step_q (y := J 89 0) (a := 0) (c := 0) hC hM hA hD (by rw [upJ_self]) (qg_m P G (Or.inl rfl) 0) (by decide) (by decide)
/-- the questions that throw nothing -/
theorem sc2 (hC : CR σ G J b bs ps P tx E I N U V T) (hM : MR σ G E I N U V T) (hA : AW E I N U V T) (hD : DK σ) {Lx : Nat} {xs : Nat → Int32} {v5 : Int32} (v3 v4 : Option Nat) : STEP σ (fL_c2 Lx xs (some 0) (some 80) v3 v4 v5 (wc σ G J)) := by
  have mk' : MK (wc σ G J) 80 := hM.1
  have em : fX10_parseError (some 80) (wc σ G J) = some (G 0 2, wc σ (up G 80 0 0) J) := by
    show fX10_parseError (some 80) (wi (wc σ G J) G) = _
    unfold fX10_parseError
    rw [mk_o mk', bnP_1, mk_P mk', bnP_1, mk_I mk', bnP_1, up_k (by decide), hM.2.1.2.1, hC.2.1.2.1]
    rfl
  unfold fL_c2 fX9_parseError
  rw [cr_o hC, bnP_1, cr_I hC, bnP_1, bnP_1, em, bnS_1, if_pos rfl]
  exact step_q (y := J 89 0) (a := 0) (c := 0) hC hM hA hD (by rw [upJ_self]) (qg_m P G (Or.inl rfl) 0) (by decide) (by decide)
theorem sc3 (hC : CR σ G J b bs ps P tx E I N U V T) (hM : MR σ G E I N U V T) (hA : AW E I N U V T) (hD : DK σ) {Lx : Nat} {xs : Nat → Int32} {v5 : Int32} (v3 v4 : Option Nat) : STEP σ (fL_c3 Lx xs (some 0) (some 80) v3 v4 v5 (wc σ G J)) := by
  have mk' : MK (wc σ G J) 80 := hM.1
  have em : fX10_errorPosition (some 80) (wc σ G J) = some (G 0 3, wc σ (up G 80 0 0) J) := by
    show fX10_errorPosition (some 80) (wi (wc σ G J) G) = _
    unfold fX10_errorPosition
    rw [mk_o mk', bnP_1, mk_P mk', bnP_1, mk_I mk', bnP_1, up_k (by decide), hM.2.1.2.2, hC.2.1.2.2]
    rfl
  unfold fL_c3 fX9_errorPosition
  rw [cr_o hC, bnP_1, cr_I hC, bnP_1, bnP_1, em, bnS_1, if_pos rfl]
  exact step_q (y := J 89 0) (a := 0) (c := 0) hC hM hA hD (by rw [upJ_self]) (qg_m P G (Or.inl rfl) 0) (by decide) (by decide)
theorem sc4 (hC : CR σ G J b bs ps P tx E I N U V T) (hM : MR σ G E I N U V T) (hA : AW E I N U V T) (hD : DK σ) {Lx : Nat} {xs : Nat → Int32} {v5 : Int32} (v3 v4 : Option Nat) : STEP σ (fL_c4 Lx xs (some 0) (some 80) v3 v4 v5 (wc σ G J)) := by
  have mk' : MK (wc σ G J) 80 := hM.1
  have em : fX10_buffered (some 80) (wc σ G J) = some (G 0 1, wc σ (up G 80 0 0) J) := by
    show fX10_buffered (some 80) (wi (wc σ G J) G) = _
    unfold fX10_buffered
    rw [mk_o mk', bnP_1, mk_P mk', bnP_1, mk_I mk', bnP_1, up_k (by decide), hM.2.2.1.1, hC.2.2.1.1]
    rfl
  unfold fL_c4 fX9_buffered
  rw [cr_o hC, bnP_1, cr_I hC, bnP_1, bnP_1, em, bnS_1, if_pos rfl]
  exact step_q (y := J 89 0) (a := 0) (c := 0) hC hM hA hD (by rw [upJ_self]) (qg_m P G (Or.inl rfl) 0) (by decide) (by decide)
theorem sc50 (hC : CR σ G J b bs ps P tx E I N U V T) (hM : MR σ G E I N U V T) (hA : AW E I N U V T) (hD : DK σ) {Lx : Nat} {xs : Nat → Int32} {v5 : Int32} (v3 v4 : Option Nat) : STEP σ (fL_c50 Lx xs (some 0) (some 80) v3 v4 v5 (wc σ G J)) := by
  have mk' : MK (wc σ G J) 80 := hM.1
  have em : fX10_undoable (some 80) (wc σ G J) = some (G 0 10, wc σ (up G 80 0 0) J) := by
    show fX10_undoable (some 80) (wi (wc σ G J) G) = _
    unfold fX10_undoable
    rw [mk_o mk', bnP_1, mk_P mk', bnP_1, mk_I mk', bnP_1, up_k (by decide), hM.2.2.2.2.1.1, hC.2.2.2.2.1.1]
    rfl
  unfold fL_c50 fX9_undoable
  rw [cr_o hC, bnP_1, cr_I hC, bnP_1, bnP_1, em, bnS_1, if_pos rfl]
  exact step_q (y := J 89 0) (a := 0) (c := 0) hC hM hA hD (by rw [upJ_self]) (qg_m P G (Or.inl rfl) 0) (by decide) (by decide)
end INP
