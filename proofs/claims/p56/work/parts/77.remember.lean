/-! THE PURE LEVEL, 37: what the class and the reference remember before a change -/
section RMB
variable {σ σ' : HpT} {G G' : Nat → Nat → Int32} {J J' : Nat → Nat → Int64} {b bs ps ps' tx : Nat} {P : Nat → Option Nat} {E : tE} {I I' T : tI} {N N' : Nat → Int32} {U U' : tU} {V : tV}
/-- the class's side with other Books -/
theorem cr_new (hC : CR σ G J b bs ps P tx E I N U V T) (h0 : ∀ k, k < 5 → G' 0 k = G 0 k) (h1 : ∀ a, a = 1 ∨ a = 73 ∨ a = 78 ∨ a = tx → G' a = G a) (hN : E.1 ≠ 0 → RB G' J' b N') (hU : G' 0 10 = nI U'.1 ∧ G' 0 9 = nI ps' ∧ ps' < 8 ∧ ∀ k, k < U'.1 → ∃ x, P (2 + (ps' + k) % 8) = some x ∧ RB G' J' x (U'.2 k)) (hV : ∀ k, k < 2 → V.1 k = true → ∃ x, P (10 + k) = some x ∧ RB G' J' x (V.2 k)) : CR σ G' J' b bs ps' P tx E I N' U' V T := by
  obtain ⟨q, ⟨e1, e2, e3⟩, ⟨i1, i2⟩, -, -, hV', ⟨t1, t2, t3, t4⟩⟩ := hC
  refine ⟨q, ⟨by rw [h0 4 (by decide)]; exact e1, by rw [h0 2 (by decide)]; exact e2, by rw [h0 3 (by decide)]; exact e3⟩, ⟨by rw [h0 1 (by decide)]; exact i1, fun k hk => by rw [h1 1 (by omega)]; exact i2 k hk⟩, hN, hU, fun k hk => ⟨by rw [h1 73 (by omega)]; exact (hV' k hk).1, hV k hk⟩, ⟨by rw [h1 78 (by omega)]; exact t1, by rw [h1 78 (by omega)]; exact t2, t3, fun k hk => by rw [h1 tx (by omega)]; exact t4 k hk⟩⟩
/-- a Book's cells changed: the others stay -/
theorem rb_oth (pb : PB σ P tx) {i x j y : Nat} {M : tN} (w1 : W1 M) (hi : i < 12) (hx : P i = some x) (hj : j < 12) (hy : P j = some y) (hij : j ≠ i) (hG : ∀ a, 2 ≤ a → a < x ∨ x + 33 ≤ a → G' a = G a) (hJ : ∀ a, a < x ∨ x + 33 ≤ a → J' a = J a) (r : RB G J y M) : RB G' J' y M := by
  have q : x + 33 ≤ y ∨ y + 33 ≤ x := by
    rcases Nat.lt_or_ge i j with z | z
    · exact pb.2.1 i j x y z hj hx hy
    · exact (pb.2.1 j i y x (by omega) hi hy hx).symm
  have q2 := (pb.1 j y hj hy).2.1
  exact rb_same pb w1 hj hy (fun a h1 h2 => hG a (by omega) (by omega)) (fun a h1 h2 => hJ a (by omega)) r
theorem pb_lo (pb : PB σ P tx) {i x : Nat} (hi : i < 12) (hx : P i = some x) (ht : tx = 79 ∨ 91 ≤ tx) {a : Nat} (ha : a < 2 ∨ 68 ≤ a ∧ a < 91 ∨ a = tx) : a < x ∨ x + 33 ≤ a := by
  have := (pb.1 i x hi hx).2
  omega
/-- the Book in use changed -/
theorem cr_book (hC : CR σ G J b bs ps P tx E I N U V T) (hA : AW E I N U V T) (hG : ∀ a, a < b ∨ b + 33 ≤ a → G' a = G a) (hJ : ∀ a, a < b ∨ b + 33 ≤ a → J' a = J a) (hN : E.1 ≠ 0 → RB G' J' b N') : CR σ G' J' b bs ps P tx E I N' U V T := by
  have pb := hC.1.2.2.2.2.2
  have c3 := hC.1.2.2.2.1
  have ht := hC.1.1.2.2.2.2.2.2.2.2.1
  have lo : ∀ a, a < 2 ∨ 68 ≤ a ∧ a < 91 ∨ a = tx → G' a = G a := fun a ha => hG a (pb_lo pb (by decide) c3 ht ha)
  obtain ⟨u1, u2, u3, u4⟩ := hC.2.2.2.2.1
  refine cr_new hC (fun k _ => by rw [lo 0 (by omega)]) (fun a ha => lo a (by omega)) hN ⟨by rw [lo 0 (by omega)]; exact u1, by rw [lo 0 (by omega)]; exact u2, u3, fun k hk => ?_⟩ fun k hk q => ?_
  · obtain ⟨x, hx, r⟩ := u4 k hk
    have hi : 2 + (ps + k) % 8 < 12 := by have := Nat.mod_lt (ps + k) (show 0 < 8 by decide); omega
    exact ⟨x, hx, rb_oth pb (hA.2.2.1 k hk).1 (by decide) c3 hi hx (by omega) (fun a _ h => hG a h) hJ r⟩
  · obtain ⟨x, hx, r⟩ := (hC.2.2.2.2.2.1 k hk).2 q
    exact ⟨x, hx, rb_oth pb (hA.2.2.2 k hk q).1 (by decide) c3 (by omega) hx (by omega) (fun a _ h => hG a h) hJ r⟩
theorem nI_m8 {n : Nat} (h : n < 2 ^ 31) : nI n - nI n / 8 * 8 = nI (n % 8) := by
  exact pk_rem h (by decide) (by decide)
/-- the past, one place made free -/
def freeU (U : tU) : tU := if U.1 = 8 then (7, fun k => U.2 (k + 1)) else U
theorem freeU_lt (h : U.1 ≤ 8) : (freeU U).1 < 8 := by
  unfold freeU
  by_cases q : U.1 = 8
  · rw [if_pos q]
    exact (by decide : 7 < 8)
  · rw [if_neg q]
    omega
theorem pushU_f (U : tU) (N : tN) : pushU U N = ((freeU U).1 + 1, fun k => if k = (freeU U).1 then N else (freeU U).2 k) := by
  unfold pushU freeU
  by_cases q : U.1 = 8
  · rw [if_pos q, if_pos q]
  · rw [if_neg q, if_neg q]
theorem aw_free (hA : AW E I N U V T) : AW E I N (freeU U) V T := by
  obtain ⟨⟨a1, a2, a3, a4, a5⟩, b1, b2, b3⟩ := hA
  unfold freeU
  by_cases q : U.1 = 8
  · rw [if_pos q]
    exact ⟨⟨a1, a2, fun e => absurd (a3 e) (by omega), by show 7 ≤ 8; decide, a5⟩, b1, fun k hk => b2 (k + 1) (by have : k < 7 := hk; omega), b3⟩
  · rw [if_neg q]
    exact ⟨⟨a1, a2, a3, a4, a5⟩, b1, b2, b3⟩
theorem aw_push (hA : AW E I N U V T) (hE : E.1 ≠ 0) : AW E I N (pushU U N) V T := by
  have h := aw_free hA
  have l := freeU_lt hA.1.2.2.2.1
  rw [pushU_f]
  obtain ⟨⟨a1, a2, a3, a4, a5⟩, b1, b2, b3⟩ := h
  refine ⟨⟨a1, a2, fun e => absurd e hE, by show (freeU U).1 + 1 ≤ 8; omega, a5⟩, b1, fun k hk => ?_, b3⟩
  show WFN (if k = (freeU U).1 then N else (freeU U).2 k)
  by_cases q : k = (freeU U).1
  · rw [if_pos q]
    exact b1 hE
  · rw [if_neg q]
    exact b2 k (by have : k < (freeU U).1 + 1 := hk; omega)
theorem aw_now (hA : AW E I N U V T) (h : E.1 ≠ 0 → WFN N') : AW E I N' U V T := ⟨hA.1, h, hA.2.2⟩
theorem c_free (hC : CR σ G J b bs ps P tx E I N U V T) (hA : AW E I N U V T) : ∃ f ps', (if nI U.1 = 8 then bnP (gI (wc σ G J) (some 0) 9 9) (fun x8 => bnP (pI (wc σ G J) (some 0) 9 9 ((x8 + 1) - (x8 + 1) / 8 * 8)) (fun s12 => bnP (gI s12 (some 0) 9 10) (fun x13 => bnP (pI s12 (some 0) 9 10 (x13 - 1)) (fun s17 => some ((), s17))))) else some ((), wc σ G J)) = some ((), wc σ (cw G 0 f) J) ∧ CR σ (cw G 0 f) J b bs ps' P tx E I N (freeU U) V T := by
  have u := hC.2.2.2.2.1
  have ha := hA.1.2.2.2.1
  have pb := hC.1.2.2.2.2.2
  by_cases q : U.1 = 8
  · refine ⟨u1 (u1 (G 0) 9 (nI ((ps + 1) % 8))) 10 (nI 7), (ps + 1) % 8, ?_, ?_⟩
    · rw [if_pos (by rw [q]; rfl), cr_I hC, bnP_1, u.2.1, nI_a1, nI_m8 (by have := u.2.2.1; omega), cr_P hC, bnP_1, cr_I hC, bnP_1, up_k (by decide), u.1, q, cr_P hC, bnP_1, up_is, up_is, cw_cw, cw_a]
      rfl
    · unfold freeU
      rw [if_pos q]
      refine cr_new hC (fun k hk => ?_) (fun a ha => ?_) (fun e => ?_) ⟨?_, ?_, Nat.mod_lt _ (by decide), fun k hk => ?_⟩ fun k hk e => ?_
      · rw [cw_a, u1_k (by omega), u1_k (by omega)]
      · have := hC.1.1.2.2.2.2.2.2.2.2.1
        exact cw_b (by omega)
      · exact rb_same pb (hA.2.1 e).1 (by decide) hC.1.2.2.2.1 (fun a h1 h2 => cw_b (by have := cr_b hC; omega)) (fun _ _ _ => rfl) (hC.2.2.2.1 e)
      · rw [cw_a, u1_e]
      · rw [cw_a, u1_k (by decide), u1_e]
      · have hk : k < 7 := hk
        obtain ⟨x, hx, r⟩ := u.2.2.2 (k + 1) (by omega)
        have hm := Nat.mod_lt (ps + (k + 1)) (show 0 < 8 by decide)
        refine ⟨x, ?_, rb_same pb (hA.2.2.1 (k + 1) (by omega)).1 (by omega) hx (fun a h1 h2 => cw_b (by have := (pb.1 _ x (by omega) hx).2.1; omega)) (fun _ _ _ => rfl) r⟩
        rw [show ((ps + 1) % 8 + k) % 8 = (ps + (k + 1)) % 8 by omega]
        exact hx
      · obtain ⟨x, hx, r⟩ := (hC.2.2.2.2.2.1 k hk).2 e
        exact ⟨x, hx, rb_same pb (hA.2.2.2 k hk e).1 (by omega) hx (fun a h1 h2 => cw_b (by have := (pb.1 _ x (by omega) hx).2.1; omega)) (fun _ _ _ => rfl) r⟩
  · refine ⟨G 0, ps, ?_, ?_⟩
    · rw [if_neg (show ¬ nI U.1 = 8 from fun e => q ((nI_eq (b := 8) (by omega) (by decide)).mp e)), cw_self]
    · rw [cw_self]
      unfold freeU
      rw [if_neg q]
      exact hC
/-- the class remembers the Book in use -/
theorem c_remember (hC : CR σ G J b bs ps P tx E I N U V T) (hA : AW E I N U V T) (hE : E.1 ≠ 0) (hb : hN σ + 40 < BIG) : ∃ σ' G' J' ps' P' i j, fX9_remember (some 0) (wc σ G J) = some (.ok (), wc σ' G' J', i, j) ∧ CR σ' G' J' b bs ps' P' tx E I N (pushU U N) V T ∧ EXM σ σ' G G' J J' ∧ i ≤ 33 ∧ j ≤ 2354 ∧ WX σ J J' := by
  have l := freeU_lt hA.1.2.2.2.1
  have hA1 := aw_free hA
  obtain ⟨f, ps', e1, hC1⟩ := c_free hC hA
  have u := hC1.2.2.2.2.1
  have hm := Nat.mod_lt (ps' + (freeU U).1) (show 0 < 8 by decide)
  obtain ⟨σ', G', J', x, i, j, P', e2, hC2, hx, hX, hi, hj, hW⟩ := c_rowAt hC1 hA1 hb (ra := 71) (Or.inl ⟨rfl, rfl, rfl⟩) hm
  have u2 := hC2.2.2.2.2.1
  have pb2 := hC2.1.2.2.2.2.2
  have ck2 := hC2.1.1
  have c3 := hC2.1.2.2.2.1
  obtain ⟨hk0, hr0, hr5⟩ : hK σ' 0 = 9 ∧ hR σ' 0 8 = some 71 ∧ hR σ' 0 5 = some b := ⟨ck2.1.2.1, ck2.2.1.2.1, hC2.1.2.1⟩
  have hbx : b + 33 ≤ x ∨ x + 33 ≤ b := pb2.2.1 0 _ b x (by omega) (by omega) c3 hx
  obtain ⟨G2, J2, e3, g3, j3, r3⟩ := c_take (pb2.1 0 b (by decide) c3).1 (pb2.1 _ x (by omega) hx).1 (hA.2.1 hE) (hC2.2.2.2.1 hE) hbx
  have ht := ck2.2.2.2.2.2.2.2.2.1
  have lo : ∀ a, a < 2 ∨ 68 ≤ a ∧ a < 91 ∨ a = tx → G2 a = G' a := fun a ha => g3 a (pb_lo pb2 (by omega) hx ht ha)
  have loJ : ∀ a, a < 2 ∨ 68 ≤ a ∧ a < 91 ∨ a = tx → J2 a = J' a := fun a ha => j3 a (pb_lo pb2 (by omega) hx ht ha)
  have hx2 := (pb2.1 _ x (by omega) hx).2.1
  have rbx : ∀ i y M, i < 12 → P' i = some y → i ≠ 2 + (ps' + (freeU U).1) % 8 → W1 M → RB G' J' y M → RB (up G2 0 10 (nI ((freeU U).1 + 1))) J2 y M := fun i y M hi hy hne w1 r => rb_oth pb2 w1 (by omega) hx hi hy hne (fun a h1 h2 => by rw [up_a (by omega)]; exact g3 a h2) j3 r
  refine ⟨σ', up G2 0 10 (nI ((freeU U).1 + 1)), J2, ps', P', i, j, ?_, ?_, ?_, hi, hj, fun a q1 q2 q3 => (j3 a (bk_out (pb2.1 _ x (by omega) hx).1 (by rw [(hX.2.1 a q1).1]; exact q2) (by rw [(hX.2.1 a q1).2.1]; exact q3))).trans (hW a q1 q2 q3)⟩
  · unfold fX9_remember
    rw [cr_o hC, bnP_1, cr_I hC, bnP_1, hC.2.2.2.2.1.1, e1, bnS_1]
    rw [gR_c hC.1.1.1.2.1 hC.1.1.2.1.2.1, bnP_1, cr_I hC, bnP_1, cr_I hC, bnP_1, u.1, u.2.1, nI_add, nI_m8 (by have := u.2.2.1; omega), e2, bnA_ok, gR_c hk0 hr5, bnP_1, e3, bnP_1, cr_I hC2, bnP_1, lo 0 (by omega), u2.1, nI_a1, cr_P hC2, bnP_1, addC_1]
    rfl
  · rw [pushU_f]
    refine cr_new hC2 (fun k hk => ?_) (fun a ha => ?_) (fun e => ?_) ⟨up_eq _ _ _ _, ?_, u2.2.2.1, fun k hk => ?_⟩ fun k hk e => ?_
    · rw [up_k (by omega), lo 0 (by omega)]
    · rw [up_a (by omega), lo a (by omega)]
    · exact rbx 0 b N (by decide) c3 (by omega) (hA.2.1 hE).1 (hC2.2.2.2.1 hE)
    · rw [up_k (by decide), lo 0 (by omega)]
      exact u2.2.1
    · have hk : k < (freeU U).1 + 1 := hk
      show ∃ x, P' (2 + (ps' + k) % 8) = some x ∧ RB (up G2 0 10 (nI ((freeU U).1 + 1))) J2 x (if k = (freeU U).1 then N else (freeU U).2 k)
      by_cases q : k = (freeU U).1
      · rw [if_pos q, q]
        exact ⟨x, hx, rb_same pb2 (hA.2.1 hE).1 (by omega) hx (fun a h1 h2 => up_a (by omega)) (fun _ _ _ => rfl) r3⟩
      · rw [if_neg q]
        obtain ⟨y, hy, r⟩ := u2.2.2.2 k (by omega)
        have hm2 := Nat.mod_lt (ps' + k) (show 0 < 8 by decide)
        exact ⟨y, hy, rbx _ y _ (by omega) hy (by have := u2.2.2.1; omega) (hA1.2.2.1 k (by omega)).1 r⟩
    · obtain ⟨y, hy, r⟩ := (hC2.2.2.2.2.2.1 k hk).2 e
      exact ⟨y, hy, rbx _ y _ (by omega) hy (by omega) (hA.2.2.2 k hk e).1 r⟩
  · refine ⟨hX.1, hX.2.1, fun a h1 h2 => ?_⟩
    have q := hX.2.2 a h1 h2
    rw [up_a (by omega), lo a (by omega), loJ a (by omega), q.1, cw_b (by omega)]
    exact ⟨rfl, q.2⟩
theorem u1_id (f : Nat → Int32) (k : Nat) : u1 f k (f k) = f := funext fun j => by
  by_cases q : j = k
  · rw [q, u1_e]
  · rw [u1_k q]
end RMB
