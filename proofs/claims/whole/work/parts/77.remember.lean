/-! THE PURE LEVEL, 37: what the class and the reference remember before a change -/
section RMB
variable {σ σ' : HpT} {G G' : Nat → Nat → Int32} {J J' : Nat → Nat → Int64} {b bs ps ps' tx : Nat} {P : Nat → Option Nat} {E : tE} {I I' T : tI} {N N' : Nat → Int32} {U U' : tU} {V : tV}
/-- the class's side with other Books -/
theorem cr_new (hC : CR σ G J b bs ps P tx E I N U V T) (h0 : ∀ k, k < 5 → G' 0 k = G 0 k) (h1 : ∀ a, a = 1 ∨ a = 73 ∨ a = 78 ∨ a = tx → G' a = G a) (hN : E.1 ≠ 0 → RB G' J' b N') (hU : G' 0 10 = nI U'.1 ∧ G' 0 9 = nI ps' ∧ ps' < 8 ∧ ∀ k, k < U'.1 → ∃ x, P (2 + (ps' + k) % 8) = some x ∧ RB G' J' x (U'.2 k)) (hV : ∀ k, k < 2 → V.1 k = true → ∃ x, P (10 + k) = some x ∧ RB G' J' x (V.2 k)) : CR σ G' J' b bs ps' P tx E I N' U' V T := by
  obtain ⟨q, ⟨e1, e2, e3⟩, ⟨i1, i2⟩, -, -, hV', ⟨t1, t2, t3, t4⟩⟩ := hC
  refine ⟨q, ⟨by rw [h0 4 (by decide)]; exact e1, by rw [h0 2 (by decide)]; exact e2, by rw [h0 3 (by decide)]; exact e3⟩, ⟨by rw [h0 1 (by decide)]; exact i1, fun k hk => by rw [h1 1 (by omega)]; exact i2 k hk⟩, hN, hU, fun k hk => ⟨by rw [h1 73 (by omega)]; exact (hV' k hk).1, hV k hk⟩, ⟨by rw [h1 78 (by omega)]; exact t1, by rw [h1 78 (by omega)]; exact t2, t3, fun k hk => by rw [h1 tx (by omega)]; exact t4 k hk⟩⟩
/-- a Book's cells changed: the others stay -/
theorem rb_oth (pb : PB σ P tx) {i x j y : Nat} {M : tN} (w1 : W1 M) (hi : i < 12) (hx : P i = some x) (hj : j < 12) (hy : P j = some y) (hij : j ≠ i) (hG : ∀ a, 2 ≤ a → a < x ∨ x + 33 ≤ a → G' a = G a) (hJ : ∀ a, a < x ∨ x + 33 ≤ a → J' a = J a) (r : RB G J y M) : RB G' J' y M := by
  have q : x + 33 ≤ y ∨ y + 33 ≤ x := by
    rcases Nat.lt_or_ge i j with z | z
    · exact pb.2.1 i j x y z hj hx hy
    · exact (pb.2.1 j i y x (by omega) hi hy hx).symm
  have q2 := (pb.1 j y hj hy).2.1
  exact rb_same pb w1 hj hy (fun a h1 h2 => hG a (by omega) (by omega)) (fun a h1 h2 => hJ a (by omega)) r
theorem pb_lo (pb : PB σ P tx) {i x : Nat} (hi : i < 12) (hx : P i = some x) (ht : tx = 79 ∨ 91 ≤ tx) {a : Nat} (ha : a < 2 ∨ 68 ≤ a ∧ a < 91 ∨ a = tx) : a < x ∨ x + 33 ≤ a := by
  have := (pb.1 i x hi hx).2
  omega
/-- the Book in use changed -/
theorem cr_book (hC : CR σ G J b bs ps P tx E I N U V T) (hA : AW E I N U V T) (hG : ∀ a, a < b ∨ b + 33 ≤ a → G' a = G a) (hJ : ∀ a, a < b ∨ b + 33 ≤ a → J' a = J a) (hN : E.1 ≠ 0 → RB G' J' b N') : CR σ G' J' b bs ps P tx E I N' U V T := by
  have pb := hC.1.2.2.2.2.2
  have c3 := hC.1.2.2.2.1
  have ht := hC.1.1.2.2.2.2.2.2.2.2.1
  have lo : ∀ a, a < 2 ∨ 68 ≤ a ∧ a < 91 ∨ a = tx → G' a = G a := fun a ha => hG a (pb_lo pb (by decide) c3 ht ha)
  obtain ⟨u1, u2, u3, u4⟩ := hC.2.2.2.2.1
  refine cr_new hC (fun k _ => by rw [lo 0 (by omega)]) (fun a ha => lo a (by omega)) hN ⟨by rw [lo 0 (by omega)]; exact u1, by rw [lo 0 (by omega)]; exact u2, u3, fun k hk => ?_⟩ fun k hk q => ?_
  · obtain ⟨x, hx, r⟩ := u4 k hk
    have hi : 2 + (ps + k) % 8 < 12 := by have := Nat.mod_lt (ps + k) (show 0 < 8 by decide); omega
    exact ⟨x, hx, rb_oth pb (hA.2.2.1 k hk).1 (by decide) c3 hi hx (by omega) (fun a _ h => hG a h) hJ r⟩
  · obtain ⟨x, hx, r⟩ := (hC.2.2.2.2.2.1 k hk).2 q
    exact ⟨x, hx, rb_oth pb (hA.2.2.2 k hk q).1 (by decide) c3 (by omega) hx (by omega) (fun a _ h => hG a h) hJ r⟩
/-- the reference's row changed -/
theorem mr_now (hM : MR σ G E I N U V T) (h0 : ∀ k, k = 6 ∨ k = 7 ∨ k = 9 ∨ k = 10 ∨ k = 11 ∨ k = 23 → G' 80 k = G 80 k) (h1 : ∀ a, a = 83 ∨ a = 84 ∨ a = 85 ∨ a = 86 ∨ a = 88 → G' a = G a) (hN : G' 81 = N') (hz : ∀ j, 6139 ≤ j → N' j = 0) : MR σ G' E I N' U V T := by
  obtain ⟨mk, ⟨e1, e2, e3⟩, ⟨i1, i2⟩, -, ⟨u1, u2⟩, hV, ⟨t1, t2⟩⟩ := hM
  exact ⟨mk, ⟨by rw [h0 6 (by omega)]; exact e1, by rw [h0 10 (by omega)]; exact e2, by rw [h0 11 (by omega)]; exact e3⟩, ⟨by rw [h0 9 (by omega)]; exact i1, by rw [h1 86 (by omega)]; exact i2⟩, ⟨hN, hz⟩, ⟨by rw [h0 7 (by omega)]; exact u1, by rw [h1 83 (by omega)]; exact u2⟩, by rw [h1 85 (by omega), h1 84 (by omega)]; exact hV, ⟨by rw [h0 23 (by omega)]; exact t1, by rw [h1 88 (by omega)]; exact t2⟩⟩
theorem nI_m8 {n : Nat} (h : n < 2 ^ 31) : nI n - nI n / 8 * 8 = nI (n % 8) := by
  exact pk_rem h (by decide) (by decide)
/-- the past, one place made free -/
def freeU (U : tU) : tU := if U.1 = 8 then (7, fun k => U.2 (k + 1)) else U
theorem freeU_lt (h : U.1 ≤ 8) : (freeU U).1 < 8 := by
  unfold freeU
  by_cases q : U.1 = 8
  · rw [if_pos q]
    exact (by decide : 7 < 8)
  · rw [if_neg q]
    omega
theorem pushU_f (U : tU) (N : tN) : pushU U N = ((freeU U).1 + 1, fun k => if k = (freeU U).1 then N else (freeU U).2 k) := by
  unfold pushU freeU
  by_cases q : U.1 = 8
  · rw [if_pos q, if_pos q]
  · rw [if_neg q, if_neg q]
theorem aw_free (hA : AW E I N U V T) : AW E I N (freeU U) V T := by
  obtain ⟨⟨a1, a2, a3, a4, a5⟩, b1, b2, b3⟩ := hA
  unfold freeU
  by_cases q : U.1 = 8
  · rw [if_pos q]
    exact ⟨⟨a1, a2, fun e => absurd (a3 e) (by omega), by show 7 ≤ 8; decide, a5⟩, b1, fun k hk => b2 (k + 1) (by have : k < 7 := hk; omega), b3⟩
  · rw [if_neg q]
    exact ⟨⟨a1, a2, a3, a4, a5⟩, b1, b2, b3⟩
theorem aw_push (hA : AW E I N U V T) (hE : E.1 ≠ 0) : AW E I N (pushU U N) V T := by
  have h := aw_free hA
  have l := freeU_lt hA.1.2.2.2.1
  rw [pushU_f]
  obtain ⟨⟨a1, a2, a3, a4, a5⟩, b1, b2, b3⟩ := h
  refine ⟨⟨a1, a2, fun e => absurd e hE, by show (freeU U).1 + 1 ≤ 8; omega, a5⟩, b1, fun k hk => ?_, b3⟩
  show WFN (if k = (freeU U).1 then N else (freeU U).2 k)
  by_cases q : k = (freeU U).1
  · rw [if_pos q]
    exact b1 hE
  · rw [if_neg q]
    exact b2 k (by have : k < (freeU U).1 + 1 := hk; omega)
theorem aw_now (hA : AW E I N U V T) (h : E.1 ≠ 0 → WFN N') : AW E I N' U V T := ⟨hA.1, h, hA.2.2⟩
theorem c_free (hC : CR σ G J b bs ps P tx E I N U V T) (hA : AW E I N U V T) : ∃ f ps', (if nI U.1 = 8 then bnP (gI (wc σ G J) (some 0) 9 9) (fun x8 => bnP (pI (wc σ G J) (some 0) 9 9 ((x8 + 1) - (x8 + 1) / 8 * 8)) (fun s12 => bnP (gI s12 (some 0) 9 10) (fun x13 => bnP (pI s12 (some 0) 9 10 (x13 - 1)) (fun s17 => some ((), s17))))) else some ((), wc σ G J)) = some ((), wc σ (cw G 0 f) J) ∧ CR σ (cw G 0 f) J b bs ps' P tx E I N (freeU U) V T := by
  have u := hC.2.2.2.2.1
  have ha := hA.1.2.2.2.1
  have pb := hC.1.2.2.2.2.2
  by_cases q : U.1 = 8
  · refine ⟨u1 (u1 (G 0) 9 (nI ((ps + 1) % 8))) 10 (nI 7), (ps + 1) % 8, ?_, ?_⟩
    · rw [if_pos (by rw [q]; rfl), cr_I hC, bnP_1, u.2.1, nI_a1, nI_m8 (by have := u.2.2.1; omega), cr_P hC, bnP_1, cr_I hC, bnP_1, up_k (by decide), u.1, q, cr_P hC, bnP_1, up_is, up_is, cw_cw, cw_a]
      rfl
    · unfold freeU
      rw [if_pos q]
      refine cr_new hC (fun k hk => ?_) (fun a ha => ?_) (fun e => ?_) ⟨?_, ?_, Nat.mod_lt _ (by decide), fun k hk => ?_⟩ fun k hk e => ?_
      · rw [cw_a, u1_k (by omega), u1_k (by omega)]
      · have := hC.1.1.2.2.2.2.2.2.2.2.1
        exact cw_b (by omega)
      · exact rb_same pb (hA.2.1 e).1 (by decide) hC.1.2.2.2.1 (fun a h1 h2 => cw_b (by have := cr_b hC; omega)) (fun _ _ _ => rfl) (hC.2.2.2.1 e)
      · rw [cw_a, u1_e]
      · rw [cw_a, u1_k (by decide), u1_e]
      · have hk : k < 7 := hk
        obtain ⟨x, hx, r⟩ := u.2.2.2 (k + 1) (by omega)
        have hm := Nat.mod_lt (ps + (k + 1)) (show 0 < 8 by decide)
        refine ⟨x, ?_, rb_same pb (hA.2.2.1 (k + 1) (by omega)).1 (by omega) hx (fun a h1 h2 => cw_b (by have := (pb.1 _ x (by omega) hx).2.1; omega)) (fun _ _ _ => rfl) r⟩
        rw [show ((ps + 1) % 8 + k) % 8 = (ps + (k + 1)) % 8 by omega]
        exact hx
      · obtain ⟨x, hx, r⟩ := (hC.2.2.2.2.2.1 k hk).2 e
        exact ⟨x, hx, rb_same pb (hA.2.2.2 k hk e).1 (by omega) hx (fun a h1 h2 => cw_b (by have := (pb.1 _ x (by omega) hx).2.1; omega)) (fun _ _ _ => rfl) r⟩
  · refine ⟨G 0, ps, ?_, ?_⟩
    · rw [if_neg (show ¬ nI U.1 = 8 from fun e => q ((nI_eq (b := 8) (by omega) (by decide)).mp e)), cw_self]
    · rw [cw_self]
      unfold freeU
      rw [if_neg q]
      exact hC
/-- the class remembers the Book in use -/
theorem c_remember (hC : CR σ G J b bs ps P tx E I N U V T) (hA : AW E I N U V T) (hE : E.1 ≠ 0) (hb : hN σ + 40 < BIG) : ∃ σ' G' J' ps' P' i j, fX9_remember (some 0) (wc σ G J) = some (.ok (), wc σ' G' J', i, j) ∧ CR σ' G' J' b bs ps' P' tx E I N (pushU U N) V T ∧ EXM σ σ' G G' J J' ∧ i ≤ 33 ∧ j ≤ 2354 := by
  have l := freeU_lt hA.1.2.2.2.1
  have hA1 := aw_free hA
  obtain ⟨f, ps', e1, hC1⟩ := c_free hC hA
  have u := hC1.2.2.2.2.1
  have hm := Nat.mod_lt (ps' + (freeU U).1) (show 0 < 8 by decide)
  obtain ⟨σ', G', J', x, i, j, P', e2, hC2, hx, hX, hi, hj⟩ := c_rowAt hC1 hA1 hb (ra := 71) (Or.inl ⟨rfl, rfl, rfl⟩) hm
  have u2 := hC2.2.2.2.2.1
  have pb2 := hC2.1.2.2.2.2.2
  have ck2 := hC2.1.1
  have c3 := hC2.1.2.2.2.1
  obtain ⟨hk0, hr0, hr5⟩ : hK σ' 0 = 9 ∧ hR σ' 0 8 = some 71 ∧ hR σ' 0 5 = some b := ⟨ck2.1.2.1, ck2.2.1.2.1, hC2.1.2.1⟩
  have hbx : b + 33 ≤ x ∨ x + 33 ≤ b := pb2.2.1 0 _ b x (by omega) (by omega) c3 hx
  obtain ⟨G2, J2, e3, g3, j3, r3⟩ := c_take (pb2.1 0 b (by decide) c3).1 (pb2.1 _ x (by omega) hx).1 (hA.2.1 hE) (hC2.2.2.2.1 hE) hbx
  have ht := ck2.2.2.2.2.2.2.2.2.1
  have lo : ∀ a, a < 2 ∨ 68 ≤ a ∧ a < 91 ∨ a = tx → G2 a = G' a := fun a ha => g3 a (pb_lo pb2 (by omega) hx ht ha)
  have loJ : ∀ a, a < 2 ∨ 68 ≤ a ∧ a < 91 ∨ a = tx → J2 a = J' a := fun a ha => j3 a (pb_lo pb2 (by omega) hx ht ha)
  have hx2 := (pb2.1 _ x (by omega) hx).2.1
  have rbx : ∀ i y M, i < 12 → P' i = some y → i ≠ 2 + (ps' + (freeU U).1) % 8 → W1 M → RB G' J' y M → RB (up G2 0 10 (nI ((freeU U).1 + 1))) J2 y M := fun i y M hi hy hne w1 r => rb_oth pb2 w1 (by omega) hx hi hy hne (fun a h1 h2 => by rw [up_a (by omega)]; exact g3 a h2) j3 r
  refine ⟨σ', up G2 0 10 (nI ((freeU U).1 + 1)), J2, ps', P', i, j, ?_, ?_, ?_, hi, hj⟩
  · unfold fX9_remember
    rw [cr_o hC, bnP_1, cr_I hC, bnP_1, hC.2.2.2.2.1.1, e1, bnS_1]
    rw [gR_c hC.1.1.1.2.1 hC.1.1.2.1.2.1, bnP_1, cr_I hC, bnP_1, cr_I hC, bnP_1, u.1, u.2.1, nI_add, nI_m8 (by have := u.2.2.1; omega), e2, bnA_ok, gR_c hk0 hr5, bnP_1, e3, bnP_1, cr_I hC2, bnP_1, lo 0 (by omega), u2.1, nI_a1, cr_P hC2, bnP_1, addC_1]
    rfl
  · rw [pushU_f]
    refine cr_new hC2 (fun k hk => ?_) (fun a ha => ?_) (fun e => ?_) ⟨up_eq _ _ _ _, ?_, u2.2.2.1, fun k hk => ?_⟩ fun k hk e => ?_
    · rw [up_k (by omega), lo 0 (by omega)]
    · rw [up_a (by omega), lo a (by omega)]
    · exact rbx 0 b N (by decide) c3 (by omega) (hA.2.1 hE).1 (hC2.2.2.2.1 hE)
    · rw [up_k (by decide), lo 0 (by omega)]
      exact u2.2.1
    · have hk : k < (freeU U).1 + 1 := hk
      show ∃ x, P' (2 + (ps' + k) % 8) = some x ∧ RB (up G2 0 10 (nI ((freeU U).1 + 1))) J2 x (if k = (freeU U).1 then N else (freeU U).2 k)
      by_cases q : k = (freeU U).1
      · rw [if_pos q, q]
        exact ⟨x, hx, rb_same pb2 (hA.2.1 hE).1 (by omega) hx (fun a h1 h2 => up_a (by omega)) (fun _ _ _ => rfl) r3⟩
      · rw [if_neg q]
        obtain ⟨y, hy, r⟩ := u2.2.2.2 k (by omega)
        have hm2 := Nat.mod_lt (ps' + k) (show 0 < 8 by decide)
        exact ⟨y, hy, rbx _ y _ (by omega) hy (by have := u2.2.2.1; omega) (hA1.2.2.1 k (by omega)).1 r⟩
    · obtain ⟨y, hy, r⟩ := (hC2.2.2.2.2.2.1 k hk).2 e
      exact ⟨y, hy, rbx _ y _ (by omega) hy (by omega) (hA.2.2.2 k hk e).1 r⟩
  · refine ⟨hX.1, hX.2.1, fun a h1 h2 => ?_⟩
    have q := hX.2.2 a h1 h2
    rw [up_a (by omega), lo a (by omega), loJ a (by omega), q.1, cw_b (by omega)]
    exact ⟨rfl, q.2⟩
theorem u1_id (f : Nat → Int32) (k : Nat) : u1 f k (f k) = f := funext fun j => by
  by_cases q : j = k
  · rw [q, u1_e]
  · rw [u1_k q]
/-- the reference lays a row down -/
theorem m_lays {x y p q zx zy : Nat} (kx : hK σ x = 20) (ky : hK σ y = 20) (lx : x < hN σ) (ly : y < hN σ) (hx : hZ σ x = zx) (hy : hZ σ y = zy) (hne : x ≠ y) (h1 : p + 6139 ≤ zx) (h2 : q + 6139 ≤ zy) (h3 : zx < 2 ^ 31) (h4 : zy < 2 ^ 31) : ∃ f, fX10_lays (some x) (nI p) (some y) (nI q) (wi σ G) = some (wi σ (cw G y f)) ∧ ∀ j, f j = if q ≤ j ∧ j < q + 6139 then G x (p + (j - q)) else G y j := by
  have key := lpS_f (f := fX10_lays_l1 (some x) (nI p) (some y) (nI q)) (a := 0) (σ := wi σ G) (r := ()) 6139 (fun k => nI k) (fun k => wi σ (cw G y (fun j => if q ≤ j ∧ j < q + k then G x (p + (j - q)) else G y j))) rfl (by
    show wi σ (cw G y (fun j => if q ≤ j ∧ j < q + 0 then G x (p + (j - q)) else G y j)) = wi σ G
    rw [show (fun j => if q ≤ j ∧ j < q + 0 then G x (p + (j - q)) else G y j) = G y from funext fun j => if_neg (by omega), cw_self]) (by decide) (fun k hk => by
    unfold fX10_lays_l1
    rw [if_neg (show ¬ (6139 : Int32) ≤ nI k from nI_ge hk (by decide)), nI_add, aI_e kx lx hx (by omega) h3, bnP_1, nI_add, sI_e ky ly hy (by omega) h4, bnP_1, nI_a1, up_cw, cw_b hne]
    have e : u1 (fun j => if q ≤ j ∧ j < q + k then G x (p + (j - q)) else G y j) (q + k) (G x (p + k)) = fun j => if q ≤ j ∧ j < q + (k + 1) then G x (p + (j - q)) else G y j := by
      funext j
      by_cases z : j = q + k
      · rw [z, u1_e, if_pos (by omega), Nat.add_sub_cancel_left]
      · rw [u1_k z]
        by_cases z2 : q ≤ j ∧ j < q + k
        · rw [if_pos z2, if_pos (by omega)]
        · rw [if_neg z2, if_neg (by omega)]
    rw [e]) (by
    unfold fX10_lays_l1
    exact if_pos (by decide))
  refine ⟨_, ?_, fun j => rfl⟩
  unfold fX10_lays
  rw [key, bnS_1]
theorem m_shift (h : MK σ 80) : ∃ f, lpS (fX10_remembers_l1 (some 80)) FUEL 0 (wi σ G) = some ((), wi σ (cw G 83 f)) ∧ ∀ j, f j = if j < 42973 then G 83 (j + 6139) else G 83 j := by
  have key := lpS_f (f := fX10_remembers_l1 (some 80)) (a := 0) (σ := wi σ G) (r := ()) 42973 (fun k => nI k) (fun k => wi σ (cw G 83 (fun j => if j < k then G 83 (j + 6139) else G 83 j))) rfl (by
    show wi σ (cw G 83 (fun j => if j < 0 then G 83 (j + 6139) else G 83 j)) = wi σ G
    rw [show (fun j => if j < 0 then G 83 (j + 6139) else G 83 j) = G 83 from funext fun j => if_neg (by omega), cw_self]) (by decide) (fun k hk => by
    unfold fX10_remembers_l1
    rw [if_neg (show ¬ (42973 : Int32) ≤ nI k from nI_ge hk (by decide)), mk_r3 h, bnP_1, bnP_1, show nI k + 6139 = nI (k + 6139) from nI_add k 6139, mk_a3 h (by omega), bnP_1, mk_s3 h (by omega), bnP_1, nI_a1, show 80 + 3 = 83 from rfl, up_cw, cw_a, if_neg (by omega)]
    have e : u1 (fun j => if j < k then G 83 (j + 6139) else G 83 j) k (G 83 (k + 6139)) = fun j => if j < k + 1 then G 83 (j + 6139) else G 83 j := by
      funext j
      by_cases z : j = k
      · rw [z, u1_e, if_pos (by omega)]
      · rw [u1_k z]
        by_cases z2 : j < k
        · rw [if_pos z2, if_pos (by omega)]
        · rw [if_neg z2, if_neg (by omega)]
    rw [e]) (by
    unfold fX10_remembers_l1
    exact if_pos (by decide))
  exact ⟨_, key, fun j => rfl⟩
theorem rwN_of {f : Nat → Int32} {k : Nat} {M : tN} (hz : ∀ j, 6139 ≤ j → M j = 0) (h : ∀ j, j < 6139 → f (6139 * k + j) = M j) : M = rwN f k := funext fun j => by
  unfold rwN
  by_cases q : j < 6139
  · rw [if_pos q, h j q]
  · rw [if_neg q, hz j (by omega)]
theorem rwN_z (f : Nat → Int32) (k : Nat) : ∀ j, 6139 ≤ j → rwN f k j = 0 := fun j hj => if_neg (by omega)
/-- the row of undos behind a remembering -/
def shF (U : tU) (f : Nat → Int32) : Nat → Int32 := if U.1 = 8 then fun j => if j < 42973 then f (j + 6139) else f j else f
def remF (U : tU) (N : tN) (f : Nat → Int32) : Nat → Int32 := fun j => if (freeU U).1 * 6139 ≤ j ∧ j < (freeU U).1 * 6139 + 6139 then N (0 + (j - (freeU U).1 * 6139)) else shF U f j
/-- the reference remembers -/
theorem m_remembers (hM : MR σ G E I N U V T) (hA : AW E I N U V T) : fX10_remembers (some 80) (wi σ G) = some (wi σ (up (cw G 83 (remF U N (G 83))) 80 7 (nI (pushU U N).1))) ∧ ∀ k, k < (pushU U N).1 → (pushU U N).2 k = rwN (remF U N (G 83)) k := by
  have h := hM.1
  have u := hM.2.2.2.2.1
  have n := hM.2.2.2.1
  have hu := hA.1.2.2.2.1
  have l := freeU_lt hu
  have st : (if nI U.1 = 8 then bnS (lpS (fX10_remembers_l1 (some 80)) FUEL 0 (wi σ G)) (fun r9 s27 => bnP (gI s27 (some 80) 10 7) (fun x28 => bnP (pI s27 (some 80) 10 7 (x28 - 1)) (fun s32 => some ((), s32)))) else some ((), wi σ G)) = some ((), wi σ (up (cw G 83 (shF U (G 83))) 80 7 (nI (freeU U).1))) ∧ ∀ k, k < (freeU U).1 → (freeU U).2 k = rwN (shF U (G 83)) k := by
    unfold freeU shF
    by_cases q : U.1 = 8
    · obtain ⟨f, e, hf⟩ := m_shift (G := G) h
      obtain rfl : f = fun j => if j < 42973 then G 83 (j + 6139) else G 83 j := funext hf
      refine ⟨?_, fun k hk => ?_⟩
      · rw [if_pos q]
        rw [if_pos (by rw [q]; rfl), e, bnS_1, mk_I h, bnP_1, cw_b (by decide), u.1, if_pos q, q, mk_P h, bnP_1, show nI 8 - 1 = nI 7 by decide]
      · rw [if_pos q] at hk
        rw [if_pos q, if_pos q]
        have hk : k < 7 := hk
        show U.2 (k + 1) = _
        refine rwN_of ?_ ?_
        · rw [u.2 (k + 1) (by omega)]
          exact rwN_z _ _
        · intro j hj
          rw [u.2 (k + 1) (by omega), if_pos (by omega)]
          unfold rwN
          rw [if_pos hj]
          congr 1
          omega
    · refine ⟨?_, fun k hk => ?_⟩
      · rw [if_neg (show ¬ nI U.1 = 8 from fun e => q ((nI_eq (b := 8) (by omega) (by decide)).mp e)), if_neg q, if_neg q, cw_self, ← u.1]
        congr 2
        rw [up_is, u1_id, cw_self]
      · rw [if_neg q] at hk
        rw [if_neg q, if_neg q]
        exact u.2 k hk
  obtain ⟨e, hf⟩ := st
  generalize hsf : shF U (G 83) = f at e hf
  have l2 := m_lays (G := up (cw G 83 f) 80 7 (nI (freeU U).1)) (x := 81) (y := 83) (p := 0) (q := (freeU U).1 * 6139) h.2.2.1.1 h.2.2.1.2.2.1 (by have := h.1; omega) (by have := h.1; omega) h.2.2.2.1.1 h.2.2.2.1.2.2.1 (by decide) (by decide) (by omega) (by decide) (by decide)
  obtain ⟨f2, e2, hf2⟩ := l2
  have e81 : up (cw G 83 f) 80 7 (nI (freeU U).1) 81 = N := by rw [up_a (by decide), cw_b (by decide), n.1]
  have e83 : up (cw G 83 f) 80 7 (nI (freeU U).1) 83 = f := by rw [up_a (by decide), cw_a]
  rw [e81, e83] at hf2
  obtain rfl : f2 = remF U N (G 83) := by
    rw [funext hf2]
    unfold remF
    rw [hsf]
  refine ⟨?_, fun k hk => ?_⟩
  · unfold fX10_remembers
    rw [mk_o h, bnP_1, mk_I h, bnP_1, u.1, e, bnS_1, mk_r1 h, bnP_1, mk_r3 h, bnP_1, mk_I h, bnP_1, up_eq, show (6139 : Int32) = nI 6139 from rfl, pk_mul]
    rw [show fX10_lays (some (80 + 1)) 0 (some (80 + 3)) (nI ((freeU U).1 * 6139)) (wi σ (up (cw G 83 f) 80 7 (nI (freeU U).1))) = _ from e2, bnP_1, mk_I h, bnP_1, cw_b (by decide), up_eq, nI_a1, mk_P h, bnP_1, pushU_f]
    congr 2
    funext a j
    unfold up cw
    by_cases a0 : a = 80
    · subst a0
      simp
      by_cases j7 : j = 7
      · simp [j7]
      · simp [j7]
    · by_cases a3 : a = 83
      · subst a3
        simp
      · simp [a0, a3]
  · rw [pushU_f] at hk ⊢
    have hk : k < (freeU U).1 + 1 := hk
    show (if k = (freeU U).1 then N else (freeU U).2 k) = _
    by_cases q : k = (freeU U).1
    · rw [if_pos q]
      refine rwN_of n.2 fun j hj => ?_
      rw [hf2, if_pos (by omega)]
      congr 1
      omega
    · rw [if_neg q]
      refine rwN_of ?_ ?_
      · rw [hf k (by omega)]
        exact rwN_z _ _
      · intro j hj
        rw [hf k (by omega), hf2, if_neg (by omega)]
        unfold rwN
        rw [if_pos hj]
/-- the reference's past one longer -/
theorem mr_push {f : Nat → Int32} (hM : MR σ G E I N U V T) (h : ∀ k, k < (pushU U N).1 → (pushU U N).2 k = rwN f k) : MR σ (up (cw G 83 f) 80 7 (nI (pushU U N).1)) E I N (pushU U N) V T := by
  obtain ⟨mk, ⟨e1, e2, e3⟩, ⟨i1, i2⟩, ⟨n1, n2⟩, ⟨u1, u2⟩, hV, ⟨t1, t2⟩⟩ := hM
  have o : ∀ k, k ≠ 7 → up (cw G 83 f) 80 7 (nI (pushU U N).1) 80 k = G 80 k := fun k hk => by rw [up_k hk, cw_b (by decide)]
  have g : ∀ a, a ≠ 80 → a ≠ 83 → up (cw G 83 f) 80 7 (nI (pushU U N).1) a = G a := fun a h1 h2 => by rw [up_a h1, cw_b h2]
  refine ⟨mk, ⟨by rw [o 6 (by decide)]; exact e1, by rw [o 10 (by decide)]; exact e2, by rw [o 11 (by decide)]; exact e3⟩, ⟨by rw [o 9 (by decide)]; exact i1, by rw [g 86 (by decide) (by decide)]; exact i2⟩, ⟨by rw [g 81 (by decide) (by decide)]; exact n1, n2⟩, ⟨up_eq _ _ _ _, fun k hk => ?_⟩, by rw [g 85 (by decide) (by decide), g 84 (by decide) (by decide)]; exact hV, ⟨by rw [o 23 (by decide)]; exact t1, by rw [g 88 (by decide) (by decide)]; exact t2⟩⟩
  rw [up_a (by decide), cw_a]
  exact h k hk
end RMB
