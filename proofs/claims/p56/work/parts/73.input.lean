/-! THE PURE LEVEL, 33: the buffer; APPEND, PARSEERROR, ERRORPOSITION, BUFFERED, UNDOABLE -/
section INP
variable {σ : HpT} {G G' : Nat → Nat → Int32} {J J' : Nat → Nat → Int64} {b bs ps tx : Nat} {P : Nat → Option Nat} {E : tE} {I I' T : tI} {N : Nat → Int32} {U : tU} {V : tV}
theorem rb_same (h : PB σ P tx) {i x : Nat} {M : tN} (w1 : W1 M) (hi : i < 12) (hx : P i = some x) (hG : ∀ a, x ≤ a → a < x + 33 → G' a = G a) (hJ : ∀ a, x ≤ a → a < x + 33 → J' a = J a) (r : RB G J x M) : RB G' J' x M := rb_cong w1 (fun a h1 h2 _ _ _ _ => hG a h1 h2) hJ r
/-- another buffer -/
theorem cr_in (hC : CR σ G J b bs ps P tx E I N U V T) (hA : AW E I N U V T) (h0 : ∀ k, k ≠ 1 → G' 0 k = G 0 k) (h1 : G' 0 1 = nI I'.1) (h2 : ∀ k, k < I'.1 → G' 1 k = I'.2 k) (hG : ∀ a, a ≠ 0 → a ≠ 1 → G' a = G a) : CR σ G' J b bs ps P tx E I' N U V T := by
  obtain ⟨⟨ck, c1, c2, c3, c4, pb⟩, ⟨e1, e2, e3⟩, -, hN, ⟨u1, u2, u3, u4⟩, hV, ⟨t1, t2, t3, t4⟩⟩ := hC
  have bk : ∀ i x, i < 12 → P i = some x → ∀ a, x ≤ a → a < x + 33 → G' a = G a := fun i x hi hx a h1 h2 => by
    have := (pb.1 i x hi hx).2.1
    exact hG a (by omega) (by omega)
  have tx2 := ck.2.2.2.2.2.2.2.2.1
  refine ⟨⟨ck, c1, c2, c3, c4, pb⟩, ⟨by rw [h0 4 (by decide)]; exact e1, by rw [h0 2 (by decide)]; exact e2, by rw [h0 3 (by decide)]; exact e3⟩, ⟨h1, h2⟩, fun q => rb_same pb (hA.2.1 q).1 (by decide) c3 (bk 0 b (by decide) c3) (fun _ _ _ => rfl) (hN q), ⟨by rw [h0 10 (by decide)]; exact u1, by rw [h0 9 (by decide)]; exact u2, u3, fun k hk => ?_⟩, fun k hk => ⟨by rw [hG 73 (by decide) (by decide)]; exact (hV k hk).1, fun q => ?_⟩, ⟨by rw [hG 78 (by decide) (by decide)]; exact t1, by rw [hG 78 (by decide) (by decide)]; exact t2, t3, fun k hk => by rw [hG tx (by omega) (by omega)]; exact t4 k hk⟩⟩
  · obtain ⟨x, hx, r⟩ := u4 k hk
    have hi : 2 + (ps + k) % 8 < 12 := by have := Nat.mod_lt (ps + k) (show 0 < 8 by decide); omega
    exact ⟨x, hx, rb_same pb (hA.2.2.1 k hk).1 hi hx (bk _ x hi hx) (fun _ _ _ => rfl) r⟩
  · obtain ⟨x, hx, r⟩ := (hV k hk).2 q
    exact ⟨x, hx, rb_same pb (hA.2.2.2 k hk q).1 (by omega) hx (bk _ x (by omega) hx) (fun _ _ _ => rfl) r⟩
theorem aw_in (hA : AW E I N U V T) (h : I'.1 ≤ 600) : AW E I' N U V T := ⟨⟨hA.1.1, h, hA.1.2.2.1, hA.1.2.2.2.1, hA.1.2.2.2.2⟩, hA.2.1, hA.2.2.1, hA.2.2.2⟩
theorem cr_o (hC : CR σ G J b bs ps P tx E I N U V T) (G' : Nat → Nat → Int32) (J' : Nat → Nat → Int64) : isK (wc σ G' J') (some 0) 9 = some () := isK_c hC.1.1.1.2.1
theorem cr_I (hC : CR σ G J b bs ps P tx E I N U V T) (G' : Nat → Nat → Int32) (J' : Nat → Nat → Int64) (k : Nat) : gI (wc σ G' J') (some 0) 9 k = some (G' 0 k) := gI_c hC.1.1.1.2.1 (by have := hC.1.1.1.1; omega)
theorem cr_P (hC : CR σ G J b bs ps P tx E I N U V T) (G' : Nat → Nat → Int32) (J' : Nat → Nat → Int64) (k : Nat) (x : Int32) : pI (wc σ G' J') (some 0) 9 k x = some (wc σ (up G' 0 k x) J') := pI_c hC.1.1.1.2.1 (by have := hC.1.1.1.1; omega)
theorem cr_r0 (hC : CR σ G J b bs ps P tx E I N U V T) (G' : Nat → Nat → Int32) (J' : Nat → Nat → Int64) : gR (wc σ G' J') (some 0) 9 0 = some (some 1) := gR_c hC.1.1.1.2.1 hC.1.1.1.2.2.2.2
theorem cr_a1 (hC : CR σ G J b bs ps P tx E I N U V T) (G' : Nat → Nat → Int32) (J' : Nat → Nat → Int64) {n : Nat} (hn : n < 600) : aI (wc σ G' J') (some 1) 22 (nI n) = some (G' 1 n) := aI_c hC.1.1.1.2.2.1 (by have := hC.1.1.1.1; omega) hC.1.1.1.2.2.2.1 hn (by decide)
theorem cr_s1 (hC : CR σ G J b bs ps P tx E I N U V T) (G' : Nat → Nat → Int32) (J' : Nat → Nat → Int64) {n : Nat} (x : Int32) (hn : n < 600) : sB (wc σ G' J') (some 1) (nI n) x = some (wc σ (up G' 1 n x.toInt8.toInt32) J') := sB_c hC.1.1.1.2.2.1 (by have := hC.1.1.1.1; omega) hC.1.1.1.2.2.2.1 hn (by decide)
/-- four bytes of an int -/
def bt (v s : Int32) : Int32 := ((v >>> s).toInt8.toInt32).toInt8.toInt32
def app4 (v : Int32) (n : Nat) (f : Nat → Int32) : Nat → Int32 := u1 (u1 (u1 (u1 f n (bt v 24)) (n + 1) (bt v 16)) (n + 2) (bt v 8)) (n + 3) (bt v 0)
theorem c_four (hC : CR σ G J b bs ps P tx E I N U V T) {n : Nat} (hn : n + 4 ≤ 600) {G1 : Nat → Nat → Int32} {f0 : Nat → Int32} (h0 : f0 1 = nI n) (f : Nat → Int32) (v : Int32) : fX9_putFourBytes (some 0) v (wc σ (cw (cw G1 1 f) 0 f0) J) = some (wc σ (cw (cw G1 1 (app4 v n f)) 0 (u1 f0 1 (nI (n + 4)))) J) := by
  have one : ∀ (q : Int32) (n : Nat) (f : Nat → Int32) (g0 : Nat → Int32), ¬ q < 0 → n < 600 → g0 1 = nI n → fX9_putFourBytes_l1 (some 0) v q (wc σ (cw (cw G1 1 f) 0 g0) J) = some (.inl (q + (-8)), wc σ (cw (cw G1 1 (u1 f n (bt v (q &&& 31)))) 0 (u1 g0 1 (nI (n + 1)))) J) := by
    intro q n f g0 hq hn h0
    unfold fX9_putFourBytes_l1
    rw [if_neg hq, cr_I hC, bnP_1, cw_a, h0, if_neg (show ¬ (600 : Int32) ≤ nI n from nI_ge hn (by decide)), cr_r0 hC, bnP_1, bnP_1, cr_s1 hC _ _ _ hn, bnP_1, cr_I hC, bnP_1, up_a (by decide), cw_a, h0, cr_P hC, bnP_1, nI_a1]
    have e : up (up (cw (cw G1 1 f) 0 g0) 1 n ((v >>> (q &&& 31)).toInt8.toInt32.toInt8.toInt32)) 0 1 (nI (n + 1)) = cw (cw G1 1 (u1 f n (bt v (q &&& 31)))) 0 (u1 g0 1 (nI (n + 1))) := by
      funext a j
      unfold up cw u1 bt
      by_cases a0 : a = 0
      · subst a0
        simp
      · by_cases a1 : a = 1
        · subst a1
          simp
        · simp [a0, a1]
    rw [e]
  unfold fX9_putFourBytes
  rw [cr_o hC, bnP_1, show FUEL = 199995 + 1 + 1 + 1 + 1 + 1 from rfl]
  rw [lpS_s _ (one 24 n f f0 (by decide) (by omega) h0), show (24 : Int32) + (-8) = 16 by decide]
  rw [lpS_s _ (one 16 (n + 1) _ _ (by decide) (by omega) (u1_e _ _ _)), show (16 : Int32) + (-8) = 8 by decide]
  rw [lpS_s _ (one 8 (n + 2) _ _ (by decide) (by omega) (u1_e _ _ _)), show (8 : Int32) + (-8) = 0 by decide]
  rw [lpS_s _ (one 0 (n + 3) _ _ (by decide) (by omega) (u1_e _ _ _)), show (0 : Int32) + (-8) = -8 by decide]
  rw [lpS_e (r := ()) (σ2 := _) _ (by
    unfold fX9_putFourBytes_l1
    exact if_pos (by decide)), bnS_1]
  rw [show (24 : Int32) &&& 31 = 24 by decide, show (16 : Int32) &&& 31 = 16 by decide, show (8 : Int32) &&& 31 = 8 by decide, show (0 : Int32) &&& 31 = 0 by decide]
  have e : u1 (u1 (u1 (u1 f0 1 (nI (n + 1))) 1 (nI (n + 1 + 1))) 1 (nI (n + 2 + 1))) 1 (nI (n + 3 + 1)) = u1 f0 1 (nI (n + 4)) := by
    funext j
    unfold u1
    by_cases q : j = 1
    · rw [if_pos q, if_pos q]
    · rw [if_neg q, if_neg q, if_neg q, if_neg q, if_neg q]
  rw [e]
  rfl
def app20 (a b c d e : Int32) (n : Nat) (f : Nat → Int32) : Nat → Int32 := app4 e (n + 16) (app4 d (n + 12) (app4 c (n + 8) (app4 b (n + 4) (app4 a n f))))
theorem u1_u1 (f : Nat → Int32) (k : Nat) (x y : Int32) : u1 (u1 f k x) k y = u1 f k y := by
  funext j
  unfold u1
  by_cases q : j = k
  · rw [if_pos q, if_pos q]
  · rw [if_neg q, if_neg q, if_neg q]
theorem app4_lt {v : Int32} {n : Nat} {f g : Nat → Int32} (h : ∀ k, k < n → f k = g k) : ∀ k, k < n + 4 → app4 v n f k = app4 v n g k := by
  intro k hk
  unfold app4 u1
  by_cases q3 : k = n + 3
  · rw [if_pos q3, if_pos q3]
  · rw [if_neg q3, if_neg q3]
    by_cases q2 : k = n + 2
    · rw [if_pos q2, if_pos q2]
    · rw [if_neg q2, if_neg q2]
      by_cases q1 : k = n + 1
      · rw [if_pos q1, if_pos q1]
      · rw [if_neg q1, if_neg q1]
        by_cases q0 : k = n
        · rw [if_pos q0, if_pos q0]
        · rw [if_neg q0, if_neg q0]
          exact h k (by omega)
theorem app20_lt {a b c d e : Int32} {n : Nat} {f g : Nat → Int32} (h : ∀ k, k < n → f k = g k) : ∀ k, k < n + 20 → app20 a b c d e n f k = app20 a b c d e n g k := app4_lt (app4_lt (app4_lt (app4_lt (app4_lt h))))
theorem cw_id2 (G : Nat → Nat → Int32) (a c : Nat) (h : a ≠ c) : G = cw (cw G a (G a)) c (G c) := by
  rw [cw_self]
  exact (cw_self G c).symm
end INP
