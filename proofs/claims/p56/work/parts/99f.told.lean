/-! p56, pure: bytes are told -/
theorem sh_tn (y : Int32) {a : Nat} (ha : a < 256) : ((y <<< ((8 : Int32) &&& 31)) ||| nI a).toBitVec.toNat = y.toBitVec.toNat * 256 % 2 ^ 32 + a := by
  have h1 := pk_shl y ((8 : Int32) &&& 31) 8 (by decide)
  have h2 : (nI a).toBitVec.toNat = a := pk_tn (by omega)
  have hy : y.toBitVec.toNat < 2 ^ 32 := y.toBitVec.isLt
  have e : y.toBitVec.toNat * 2 ^ 8 % 2 ^ 32 = (y.toBitVec.toNat % 2 ^ 24) <<< 8 := by
    rw [Nat.shiftLeft_eq]
    omega
  show ((y <<< ((8 : Int32) &&& 31)).toBitVec ||| (nI a).toBitVec).toNat = _
  rw [BitVec.toNat_or, h1, h2, e, ← Nat.shiftLeft_add_eq_or_of_lt (show a < 2 ^ 8 from ha), ← e]
theorem i32_tn {x y : Int32} (h : x.toBitVec.toNat = y.toBitVec.toNat) : x = y := Int32.toBitVec_inj.mp (BitVec.eq_of_toNat_eq h)
def sh8 (y a : Int32) : Int32 := (y <<< ((8 : Int32) &&& 31)) ||| a
theorem sh4_e (x : Int32) {a b c d : Nat} (ha : a < 128) (hb : b < 128) (hc : c < 128) (hd : d < 128) : sh8 (sh8 (sh8 (sh8 x (nI a)) (nI b)) (nI c)) (nI d) = nI (a * 16777216 + b * 65536 + c * 256 + d) := by
  apply i32_tn
  have hx : x.toBitVec.toNat < 2 ^ 32 := x.toBitVec.isLt
  rw [pk_tn (by omega)]
  unfold sh8
  rw [sh_tn _ (by omega), sh_tn _ (by omega), sh_tn _ (by omega), sh_tn _ (by omega)]
  omega
theorem to8_e {m : Nat} (h : m < 2 ^ 31) (hm : m % 256 < 128) : (nI m).toInt8.toInt32 = nI (m % 256) := by
  apply Int32.toInt_inj.mp
  rw [Int8.toInt_toInt32, Int32.toInt_toInt8, nI_toInt h, nI_toInt (by omega), Int.bmod_def]
  have e : ((m : Int) % ((2 ^ 8 : Nat) : Int)) = ((m % 256 : Nat) : Int) := by omega
  rw [e, if_pos (by omega)]
theorem bt_e {m s : Nat} {v : Int32} (h : m < 2 ^ 31) (hv : (v.toBitVec.smod 32).toNat = s) (hm : m / 2 ^ s % 256 < 128) : bt (nI m) v = nI (m / 2 ^ s % 256) := by
  have hd : m / 2 ^ s < 2 ^ 31 := Nat.lt_of_le_of_lt (Nat.div_le_self _ _) h
  unfold bt
  rw [pk_shrN h v s hv, to8_e hd hm]
  exact by_ok _ hm
/-- the row of the law behind k bytes -/
def mkR (X c : Nat → Int32) : Nat → Nat → Int32
  | 0 => X
  | k + 1 => u1 (mkR X c k) (k / 4) (sh8 (mkR X c k (k / 4)) (c k))
theorem mkR_g (X c : Nat → Int32) (j : Nat) : ∀ k, (k ≤ 4 * j → mkR X c k j = X j) ∧ (4 * j + 4 ≤ k → mkR X c k j = sh8 (sh8 (sh8 (sh8 (X j) (c (4 * j))) (c (4 * j + 1))) (c (4 * j + 2))) (c (4 * j + 3))) := by
  have h0 : ∀ k, k ≤ 4 * j → mkR X c k j = X j := by
    intro k
    induction k with
    | zero => exact fun _ => rfl
    | succ k ih =>
      intro hk
      show u1 (mkR X c k) (k / 4) _ j = X j
      rw [u1_k (by omega)]
      exact ih (by omega)
  have st : ∀ i, i < 4 → mkR X c (4 * j + i + 1) j = sh8 (mkR X c (4 * j + i) j) (c (4 * j + i)) := by
    intro i hi
    show u1 (mkR X c (4 * j + i)) ((4 * j + i) / 4) (sh8 (mkR X c (4 * j + i) ((4 * j + i) / 4)) (c (4 * j + i))) j = _
    rw [show (4 * j + i) / 4 = j by omega, u1_e]
  have h4 : mkR X c (4 * j + 4) j = sh8 (sh8 (sh8 (sh8 (X j) (c (4 * j))) (c (4 * j + 1))) (c (4 * j + 2))) (c (4 * j + 3)) := by
    rw [show 4 * j + 4 = 4 * j + 3 + 1 from rfl, st 3 (by decide), show 4 * j + 3 = 4 * j + 2 + 1 from rfl, st 2 (by decide), show 4 * j + 2 = 4 * j + 1 + 1 from rfl, st 1 (by decide), show 4 * j + 1 = 4 * j + 0 + 1 from rfl, st 0 (by decide), Nat.add_zero, h0 _ (Nat.le_refl _)]
  refine fun k => ⟨h0 k, ?_⟩
  intro hk
  obtain ⟨i, rfl⟩ : ∃ i, k = 4 * j + 4 + i := ⟨k - (4 * j + 4), by omega⟩
  clear hk
  induction i with
  | zero => exact h4
  | succ i ih =>
    show u1 (mkR X c (4 * j + 4 + i)) ((4 * j + 4 + i) / 4) _ j = _
    rw [u1_k (by omega)]
    exact ih
def by8 (c : Nat → Int32) : Prop := ∀ k, ∃ d, d < 128 ∧ c k = nI d
theorem mkR_4 (X : Nat → Int32) {c : Nat → Int32} (h : by8 c) {j : Nat} : bt (mkR X c (4 * j + 4) j) 24 = c (4 * j) ∧ bt (mkR X c (4 * j + 4) j) 16 = c (4 * j + 1) ∧ bt (mkR X c (4 * j + 4) j) 8 = c (4 * j + 2) ∧ bt (mkR X c (4 * j + 4) j) 0 = c (4 * j + 3) := by
  obtain ⟨a, ha, ea⟩ := h (4 * j)
  obtain ⟨b, hb, eb⟩ := h (4 * j + 1)
  obtain ⟨e, he, ee⟩ := h (4 * j + 2)
  obtain ⟨d, hd, ed⟩ := h (4 * j + 3)
  rw [(mkR_g X c j _).2 (Nat.le_refl _), ea, eb, ee, ed, sh4_e _ ha hb he hd]
  refine ⟨?_, ?_, ?_, ?_⟩
  · rw [bt_e (s := 24) (by omega) (by decide) (by omega)]
    congr 1
    omega
  · rw [bt_e (s := 16) (by omega) (by decide) (by omega)]
    congr 1
    omega
  · rw [bt_e (s := 8) (by omega) (by decide) (by omega)]
    congr 1
    omega
  · rw [bt_e (s := 0) (by omega) (by decide) (by omega)]
    congr 1
    omega
theorem app4_in {v : Int32} {n : Nat} {f : Nat → Int32} : (∀ k, k ≠ n → k ≠ n + 1 → k ≠ n + 2 → k ≠ n + 3 → app4 v n f k = f k) ∧ app4 v n f n = bt v 24 ∧ app4 v n f (n + 1) = bt v 16 ∧ app4 v n f (n + 2) = bt v 8 ∧ app4 v n f (n + 3) = bt v 0 := by
  unfold app4
  refine ⟨fun k h0 h1 h2 h3 => ?_, ?_, ?_, ?_, u1_e _ _ _⟩
  · rw [u1_k h3, u1_k h2, u1_k h1, u1_k h0]
  · rw [u1_k (by omega), u1_k (by omega), u1_k (by omega), u1_e]
  · rw [u1_k (by omega), u1_k (by omega), u1_e]
  · rw [u1_k (by omega), u1_e]
theorem app20_in {a b c d e : Int32} {n : Nat} {f : Nat → Int32} : (∀ k, k < n → app20 a b c d e n f k = f k) ∧
    (app20 a b c d e n f n = bt a 24 ∧ app20 a b c d e n f (n + 1) = bt a 16 ∧ app20 a b c d e n f (n + 2) = bt a 8 ∧ app20 a b c d e n f (n + 3) = bt a 0) ∧
    (app20 a b c d e n f (n + 4) = bt b 24 ∧ app20 a b c d e n f (n + 5) = bt b 16 ∧ app20 a b c d e n f (n + 6) = bt b 8 ∧ app20 a b c d e n f (n + 7) = bt b 0) ∧
    (app20 a b c d e n f (n + 8) = bt c 24 ∧ app20 a b c d e n f (n + 9) = bt c 16 ∧ app20 a b c d e n f (n + 10) = bt c 8 ∧ app20 a b c d e n f (n + 11) = bt c 0) ∧
    (app20 a b c d e n f (n + 12) = bt d 24 ∧ app20 a b c d e n f (n + 13) = bt d 16 ∧ app20 a b c d e n f (n + 14) = bt d 8 ∧ app20 a b c d e n f (n + 15) = bt d 0) ∧
    (app20 a b c d e n f (n + 16) = bt e 24 ∧ app20 a b c d e n f (n + 17) = bt e 16 ∧ app20 a b c d e n f (n + 18) = bt e 8 ∧ app20 a b c d e n f (n + 19) = bt e 0) := by
  unfold app20
  generalize h1 : app4 a n f = f1
  generalize h2 : app4 b (n + 4) f1 = f2
  generalize h3 : app4 c (n + 8) f2 = f3
  generalize h4 : app4 d (n + 12) f3 = f4
  obtain ⟨p0, p1, p2, p3, p4⟩ := app4_in (v := a) (n := n) (f := f)
  obtain ⟨q0, q1, q2, q3, q4⟩ := app4_in (v := b) (n := n + 4) (f := f1)
  obtain ⟨r0, r1, r2, r3, r4⟩ := app4_in (v := c) (n := n + 8) (f := f2)
  obtain ⟨s0, s1, s2, s3, s4⟩ := app4_in (v := d) (n := n + 12) (f := f3)
  obtain ⟨t0, t1, t2, t3, t4⟩ := app4_in (v := e) (n := n + 16) (f := f4)
  rw [h1] at p0 p1 p2 p3 p4
  rw [h2] at q0 q1 q2 q3 q4
  rw [h3] at r0 r1 r2 r3 r4
  rw [h4] at s0 s1 s2 s3 s4
  have T : ∀ k, k < n + 16 → app4 e (n + 16) f4 k = f4 k := fun k hk => t0 k (by omega) (by omega) (by omega) (by omega)
  have S : ∀ k, k < n + 12 → f4 k = f3 k := fun k hk => s0 k (by omega) (by omega) (by omega) (by omega)
  have R : ∀ k, k < n + 8 → f3 k = f2 k := fun k hk => r0 k (by omega) (by omega) (by omega) (by omega)
  have Q : ∀ k, k < n + 4 → f2 k = f1 k := fun k hk => q0 k (by omega) (by omega) (by omega) (by omega)
  have P : ∀ k, k < n → f1 k = f k := fun k hk => p0 k (by omega) (by omega) (by omega) (by omega)
  refine ⟨fun k hk => by rw [T k (by omega), S k (by omega), R k (by omega), Q k (by omega), P k hk], ⟨?_, ?_, ?_, ?_⟩, ⟨?_, ?_, ?_, ?_⟩, ⟨?_, ?_, ?_, ?_⟩, ⟨?_, ?_, ?_, ?_⟩, ⟨t1, t2, t3, t4⟩⟩
  · rw [T _ (by omega), S _ (by omega), R _ (by omega), Q _ (by omega)]; exact p1
  · rw [T _ (by omega), S _ (by omega), R _ (by omega), Q _ (by omega)]; exact p2
  · rw [T _ (by omega), S _ (by omega), R _ (by omega), Q _ (by omega)]; exact p3
  · rw [T _ (by omega), S _ (by omega), R _ (by omega), Q _ (by omega)]; exact p4
  · rw [T _ (by omega), S _ (by omega), R _ (by omega)]; exact q1
  · rw [T _ (by omega), S _ (by omega), R _ (by omega)]; exact q2
  · rw [T _ (by omega), S _ (by omega), R _ (by omega)]; exact q3
  · rw [T _ (by omega), S _ (by omega), R _ (by omega)]; exact q4
  · rw [T _ (by omega), S _ (by omega)]; exact r1
  · rw [T _ (by omega), S _ (by omega)]; exact r2
  · rw [T _ (by omega), S _ (by omega)]; exact r3
  · rw [T _ (by omega), S _ (by omega)]; exact r4
  · rw [T _ (by omega)]; exact s1
  · rw [T _ (by omega)]; exact s2
  · rw [T _ (by omega)]; exact s3
  · rw [T _ (by omega)]; exact s4
theorem app20_c {X c : Nat → Int32} (h : by8 c) {n k : Nat} {f : Nat → Int32} (hk : k < 20) : app20 (mkR X c 20 0) (mkR X c 20 1) (mkR X c 20 2) (mkR X c 20 3) (mkR X c 20 4) n f (n + k) = c k := by
  have e : ∀ j, j < 5 → mkR X c 20 j = mkR X c (4 * j + 4) j := fun j hj => by rw [(mkR_g X c j _).2 (by omega), (mkR_g X c j _).2 (Nat.le_refl _)]
  rw [e 0 (by decide), e 1 (by decide), e 2 (by decide), e 3 (by decide), e 4 (by decide)]
  obtain ⟨a0, a1, a2, a3⟩ := mkR_4 X h (j := 0)
  obtain ⟨b0, b1, b2, b3⟩ := mkR_4 X h (j := 1)
  obtain ⟨c0, c1, c2, c3⟩ := mkR_4 X h (j := 2)
  obtain ⟨d0, d1, d2, d3⟩ := mkR_4 X h (j := 3)
  obtain ⟨e0, e1, e2, e3⟩ := mkR_4 X h (j := 4)
  obtain ⟨-, ⟨p0, p1, p2, p3⟩, ⟨q0, q1, q2, q3⟩, ⟨r0, r1, r2, r3⟩, ⟨s0, s1, s2, s3⟩, ⟨t0, t1, t2, t3⟩⟩ := app20_in (a := mkR X c (4 * 0 + 4) 0) (b := mkR X c (4 * 1 + 4) 1) (c := mkR X c (4 * 2 + 4) 2) (d := mkR X c (4 * 3 + 4) 3) (e := mkR X c (4 * 4 + 4) 4) (n := n) (f := f)
  have hk2 : k = 0 ∨ k = 1 ∨ k = 2 ∨ k = 3 ∨ k = 4 ∨ k = 5 ∨ k = 6 ∨ k = 7 ∨ k = 8 ∨ k = 9 ∨ k = 10 ∨ k = 11 ∨ k = 12 ∨ k = 13 ∨ k = 14 ∨ k = 15 ∨ k = 16 ∨ k = 17 ∨ k = 18 ∨ k = 19 := by omega
  rcases hk2 with rfl | rfl | rfl | rfl | rfl | rfl | rfl | rfl | rfl | rfl | rfl | rfl | rfl | rfl | rfl | rfl | rfl | rfl | rfl | rfl
  · exact p0.trans a0
  · exact p1.trans a1
  · exact p2.trans a2
  · exact p3.trans a3
  · exact q0.trans b0
  · exact q1.trans b1
  · exact q2.trans b2
  · exact q3.trans b3
  · exact r0.trans c0
  · exact r1.trans c1
  · exact r2.trans c2
  · exact r3.trans c3
  · exact s0.trans d0
  · exact s1.trans d1
  · exact s2.trans d2
  · exact s3.trans d3
  · exact t0.trans e0
  · exact t1.trans e1
  · exact t2.trans e2
  · exact t3.trans e3
section P56F
variable {σ : HpT} {G G' G0 : Nat → Nat → Int32} {J : Nat → Nat → Int64} {b bs ps tx n t : Nat} {P : Nat → Option Nat} {E : tE} {I T : tI} {N : tN} {U : tU} {V : tV} {c : Nat → Int32}
theorem c_append (hC : CR σ G J b bs ps P tx E I N U V T) (hA : AW E I N U V T) (h : I.1 + 20 ≤ 600) (a1 a2 a3 a4 a5 : Int32) : ∃ G', fX9_append (some 0) a1 a2 a3 a4 a5 (wc σ G J) = some (nI (I.1 + 20), wc σ G' J) ∧ CR σ G' J b bs ps P tx E (I.1 + 20, app20 a1 a2 a3 a4 a5 I.1 I.2) N U V T ∧ ∀ a, a ≠ 0 → a ≠ 1 → G' a = G a := by
  have i1 := hC.2.2.1.1
  refine ⟨cw (cw G 1 (app20 a1 a2 a3 a4 a5 I.1 (G 1))) 0 (u1 (G 0) 1 (nI (I.1 + 20))), ?_, cr_in (I' := (I.1 + 20, app20 a1 a2 a3 a4 a5 I.1 I.2)) hC hA ?_ ?_ ?_ ?_, fun a h0 h1 => by rw [cw_b h0, cw_b h1]⟩
  · unfold fX9_append
    rw [cr_o hC, bnP_1, cr_I hC, bnP_1, i1, li_20, nI_add, if_pos (show nI (I.1 + 20) ≤ 600 from nI_le h (by decide))]
    rw [show wc σ G J = wc σ (cw (cw G 1 (G 1)) 0 (G 0)) J by rw [← cw_id2 G 1 0 (by decide)]]
    rw [c_four hC (by omega) i1, bnP_1, c_four hC (n := I.1 + 4) (by omega) (u1_e _ _ _), bnP_1, c_four hC (n := I.1 + 8) (by omega) (u1_e _ _ _), bnP_1, c_four hC (n := I.1 + 12) (by omega) (u1_e _ _ _), bnP_1, c_four hC (n := I.1 + 16) (by omega) (u1_e _ _ _), bnP_1, u1_u1, u1_u1, u1_u1, u1_u1, cr_I hC, bnP_1, cw_a, u1_e]
    rfl
  · intro k hk
    rw [cw_a, u1_k hk]
  · rw [cw_a, u1_e]
  · intro k hk
    rw [cw_b (by decide), cw_a]
    exact app20_lt (fun j hj => hC.2.2.1.2 j hj) k hk
  · intro a h0 h1
    rw [cw_b h0, cw_b h1]
/-- behind t bytes of the row c -/
def PI (σ : HpT) (G0 : Nat → Nat → Int32) (J : Nat → Nat → Int64) (b bs ps tx : Nat) (P : Nat → Option Nat) (E : tE) (N : tN) (U : tU) (V : tV) (T : tI) (c : Nat → Int32) (t : Nat) (G : Nat → Nat → Int32) : Prop :=
  ∃ f X, CR σ G J b bs ps P tx E (20 * (t / 20), f) N U V T ∧ AW E (20 * (t / 20), f) N U V T ∧ (hK σ 80 = 20 ∧ hZ σ 80 = 7) ∧ (∀ j, j < 20 * (t / 20) → f j = c j) ∧ ((∀ j, j < 5 → G 80 j = mkR X (fun u => c (20 * (t / 20) + u)) (t % 20) j) ∧ G 80 5 = nI (t % 20) ∧ G 80 6 = nI t) ∧ ∀ a, a ≠ 0 → a ≠ 1 → a ≠ 80 → G a = G0 a
theorem pi_put (hc : by8 c) (ht : t + 20 < 600) (h : PI σ G0 J b bs ps tx P E N U V T c t G) : ∃ G', fL_put (some 0) (some 80) (c t) (wc σ G J) = some (wc σ G' J) ∧ PI σ G0 J b bs ps tx P E N U V T c (t + 1) G' := by
  obtain ⟨f, X, hC, hA, ⟨k80, z80⟩, hf, ⟨m0, m5, m6⟩, fr⟩ := h
  have hn : 80 < hN σ := by have := hC.1.1.1.1; omega
  have A : ∀ (G : Nat → Nat → Int32) (n : Nat), n < 7 → aI (wc σ G J) (some 80) 20 (nI n) = some (G 80 n) := fun G n hn7 => aI_c k80 hn z80 hn7 (by decide)
  have S : ∀ (G : Nat → Nat → Int32) (n : Nat) (x : Int32), n < 7 → sI (wc σ G J) (some 80) (nI n) x = some (wc σ (up G 80 n x) J) := fun G n x hn7 => sI_c k80 hn z80 hn7 (by decide)
  have hm := Nat.mod_lt t (show 0 < 20 by decide)
  have hd := Nat.div_add_mod t 20
  have ed : nI (t % 20) / 4 = nI (t % 20 / 4) := pk_div (d := 4) (by omega) (by decide) (by decide)
  have e20 : 20 * (t / 20) + t % 20 = t := hd
  generalize hG1 : up (up (up G 80 (t % 20 / 4) (sh8 (G 80 (t % 20 / 4)) (c t))) 80 5 (nI (t % 20 + 1))) 80 6 (nI (t + 1)) = G1
  have r5 : G1 80 5 = nI (t % 20 + 1) := by rw [← hG1, up_k (by decide), up_eq]
  have r6 : G1 80 6 = nI (t + 1) := by rw [← hG1, up_eq]
  have rj : ∀ j, j < 5 → G1 80 j = mkR X (fun u => c (20 * (t / 20) + u)) (t % 20 + 1) j := fun j hj => by
    show _ = u1 (mkR X (fun u => c (20 * (t / 20) + u)) (t % 20)) (t % 20 / 4) (sh8 (mkR X (fun u => c (20 * (t / 20) + u)) (t % 20) (t % 20 / 4)) (c (20 * (t / 20) + t % 20))) j
    rw [e20, ← hG1, up_k (by omega), up_k (by omega), ← m0 (t % 20 / 4) (by omega)]
    by_cases q : j = t % 20 / 4
    · rw [q, up_eq, u1_e]
    · rw [up_k q, u1_k q, m0 j hj]
  have ra : ∀ a, a ≠ 80 → G1 a = G a := fun a ha => by rw [← hG1, up_a ha, up_a ha, up_a ha]
  have hC1 : CR σ G1 J b bs ps P tx E (20 * (t / 20), f) N U V T := cr_frame hC hA (fun a ha => ra a (fun q => ha (Or.inl (by omega)))) (fun _ _ => rfl)
  have head : fL_put (some 0) (some 80) (c t) (wc σ G J) = if nI (t % 20 + 1) = 20 then bnP (fL_flush (some 0) (some 80) (wc σ G1 J)) (fun s22 => some s22) else some (wc σ G1 J) := by
    unfold fL_put
    rw [show aI (wc σ G J) (some 80) 20 5 = _ from A G 5 (by decide), bnP_1, m5, ed, A G _ (by omega), bnP_1, S G _ _ (by omega), bnP_1, show aI _ (some 80) 20 5 = _ from A _ 5 (by decide), bnP_1, up_k (by omega), m5, nI_a1, show sI _ (some 80) 5 _ = _ from S _ 5 _ (by decide), bnP_1, show aI _ (some 80) 20 6 = _ from A _ 6 (by decide), bnP_1, up_k (by decide), up_k (by omega), m6, nI_a1, show sI _ (some 80) 6 _ = _ from S _ 6 _ (by decide), bnP_1]
    rw [show up (up (up G 80 (t % 20 / 4) (G 80 (t % 20 / 4) <<< ((8 : Int32) &&& 31) ||| c t)) 80 5 (nI (t % 20 + 1))) 80 6 (nI (t + 1)) = G1 from hG1, show aI _ (some 80) 20 5 = _ from A _ 5 (by decide), bnP_1, r5]
  by_cases q : t % 20 = 19
  · have hdiv : (t + 1) / 20 = t / 20 + 1 := by omega
    have hmod : (t + 1) % 20 = 0 := by omega
    obtain ⟨G2, e2, hC2, f2⟩ := c_append hC1 hA (show 20 * (t / 20) + 20 ≤ 600 by omega) (G1 80 0) (G1 80 1) (G1 80 2) (G1 80 3) (G1 80 4)
    have g80 : G2 80 = G1 80 := f2 80 (by decide) (by decide)
    have hA2 : AW E (20 * (t / 20) + 20, app20 (G1 80 0) (G1 80 1) (G1 80 2) (G1 80 3) (G1 80 4) (20 * (t / 20)) f) N U V T := aw_in hA (show 20 * (t / 20) + 20 ≤ 600 by omega)
    have ef : ∀ G, CR σ G J b bs ps P tx E (20 * (t / 20) + 20, app20 (G1 80 0) (G1 80 1) (G1 80 2) (G1 80 3) (G1 80 4) (20 * (t / 20)) f) N U V T → CR σ G J b bs ps P tx E (20 * ((t + 1) / 20), app20 (G1 80 0) (G1 80 1) (G1 80 2) (G1 80 3) (G1 80 4) (20 * (t / 20)) f) N U V T := fun G h => by
      rw [hdiv, Nat.mul_add]
      exact h
    refine ⟨up G2 80 5 0, ?_, app20 (G1 80 0) (G1 80 1) (G1 80 2) (G1 80 3) (G1 80 4) (20 * (t / 20)) f, up G2 80 5 0 80, ef _ (cr_frame hC2 hA2 (fun a ha => up_a (fun q => ha (Or.inl (by omega)))) (fun _ _ => rfl)), aw_in hA (show 20 * ((t + 1) / 20) ≤ 600 by omega), ⟨k80, z80⟩, fun j hj => ?_, ⟨fun j hj => ?_, ?_, ?_⟩, fun a h0 h1 h8 => ?_⟩
    · rw [head, if_pos (show nI (t % 20 + 1) = 20 by rw [q]; rfl)]
      unfold fL_flush
      rw [show aI _ (some 80) 20 0 = _ from A G1 0 (by decide), bnP_1, show aI _ (some 80) 20 1 = _ from A G1 1 (by decide), bnP_1, show aI _ (some 80) 20 2 = _ from A G1 2 (by decide), bnP_1, show aI _ (some 80) 20 3 = _ from A G1 3 (by decide), bnP_1, show aI _ (some 80) 20 4 = _ from A G1 4 (by decide), bnP_1, e2, bnS_1, show sI _ (some 80) 5 0 = _ from S G2 5 0 (by decide), bnP_1, bnP_1]
    · have b8 : by8 (fun u => c (20 * (t / 20) + u)) := fun k => hc _
      rw [rj 0 (by decide), rj 1 (by decide), rj 2 (by decide), rj 3 (by decide), rj 4 (by decide), q]
      by_cases y : j < 20 * (t / 20)
      · rw [(app20_in).1 j y]
        exact hf j y
      · obtain ⟨i, rfl⟩ : ∃ i, j = 20 * (t / 20) + i := ⟨j - 20 * (t / 20), by omega⟩
        exact app20_c (X := X) b8 (show i < 20 by omega)
    · rw [hmod]
      rfl
    · rw [hmod, up_eq]
      rfl
    · rw [up_k (by decide), g80, r6]
    · rw [up_a h8, f2 a h0 h1, ra a h8]
      exact fr a h0 h1 h8
  · have hdiv : (t + 1) / 20 = t / 20 := by omega
    have hmod : (t + 1) % 20 = t % 20 + 1 := by omega
    refine ⟨G1, ?_, f, X, ?_⟩
    · rw [head, if_neg (show ¬ nI (t % 20 + 1) = 20 from fun e => q (by
        have := (nI_eq (b := 20) (by omega) (by decide)).mp e
        omega))]
    · rw [hdiv, hmod]
      exact ⟨hC1, hA, ⟨k80, z80⟩, hf, ⟨rj, r5, r6⟩, fun a h0 h1 h8 => (ra a h8).trans (fr a h0 h1 h8)⟩
theorem pi_5 (h : PI σ G0 J b bs ps tx P E N U V T c t G) {m : Nat} (hm : m < 7) : aI (wc σ G J) (some 80) 20 (nI m) = some (G 80 m) ∧ ∀ x, sI (wc σ G J) (some 80) (nI m) x = some (wc σ (up G 80 m x) J) := by
  obtain ⟨f, X, hC, -, ⟨k80, z80⟩, -⟩ := h
  have hn : 80 < hN σ := by have := hC.1.1.1.1; omega
  exact ⟨aI_c k80 hn z80 hm (by decide), fun x => sI_c k80 hn z80 hm (by decide)⟩
/-- what is told: n bytes of the row c, which goes on with blanks -/
theorem c_told {x : Nat} (hc : by8 c) (hn : n + 40 ≤ 560) (hb : ∀ k, n ≤ k → c k = 32) (hlen : ∀ G, (∀ a, a ≠ 0 → a ≠ 1 → a ≠ 80 → G a = G0 a) → fJ0_length_8abf5 (some x) (wc σ G J) = some (nI n)) (hch : ∀ G, (∀ a, a ≠ 0 → a ≠ 1 → a ≠ 80 → G a = G0 a) → ∀ i, i < n → fJ0_charAt_5068e (some x) (nI i) (wc σ G J) = some (c i)) (h0 : PI σ G0 J b bs ps tx P E N U V T c 0 G) :
    ∃ G' f e, fL_told (some 0) (some 80) (some x) (wc σ G J) = some (nI n, wc σ G' J) ∧ CR σ G' J b bs ps P tx E (e, f) N U V T ∧ AW E (e, f) N U V T ∧ n ≤ e ∧ (∀ j, j < e → f j = c j) ∧ G' 80 5 = 0 ∧ G' 80 6 = 0 ∧ ∀ a, a ≠ 0 → a ≠ 1 → a ≠ 80 → G' a = G0 a := by
  obtain ⟨r1, S1, e1, G1, rfl, p1⟩ := lpS_i (f := fL_told_l1 (some 0) (some 80) (some x)) (fun m (a : Int32) S => ∃ t G', t + m = n ∧ a = nI t ∧ S = wc σ G' J ∧ PI σ G0 J b bs ps tx P E N U V T c t G') (fun (_ : Unit) S => ∃ G', S = wc σ G' J ∧ PI σ G0 J b bs ps tx P E N U V T c n G') n FUEL 0 (wc σ G J) (show n < 200000 by omega) ⟨0, G, Nat.zero_add _, rfl, rfl, h0⟩ (by
    rintro m a S ⟨t, G', ht, rfl, rfl, p⟩
    obtain ⟨G2, e2, p2⟩ := pi_put hc (by omega) p
    obtain ⟨f, X, -, -, -, -, -, fr⟩ := id p
    refine Or.inl ⟨_, _, ?_, t + 1, G2, by omega, nI_a1 t, rfl, p2⟩
    unfold fL_told_l1
    rw [hlen G' fr, bnP_1, if_neg (nI_ge (show t < n by omega) (by omega)), hch G' fr t (by omega), bnP_1, e2, bnP_1]) (by
    rintro a S ⟨t, G', ht, rfl, rfl, p⟩
    obtain rfl : t = n := by omega
    obtain ⟨f, X, -, -, -, -, -, fr⟩ := id p
    refine ⟨(), _, ?_, G', rfl, p⟩
    unfold fL_told_l1
    rw [hlen G' fr, bnP_1, if_pos (nI_le (Nat.le_refl _) (by omega))])
  obtain ⟨r2, S2, e2, G2, t2, rfl, h20, hge, p2⟩ := lpS_i (f := fL_said_l1 (some 0) (some 80) (nI n)) (fun m (_ : Unit) S => ∃ t G', t + m = 20 * ((n + 19) / 20) ∧ n ≤ t ∧ S = wc σ G' J ∧ PI σ G0 J b bs ps tx P E N U V T c t G') (fun (_ : Unit) S => ∃ G' t, S = wc σ G' J ∧ t = 20 * ((n + 19) / 20) ∧ n ≤ t ∧ PI σ G0 J b bs ps tx P E N U V T c t G') (20 * ((n + 19) / 20) - n) FUEL () (wc σ G1 J) (show _ < 200000 by omega) ⟨n, G1, by omega, Nat.le_refl _, rfl, p1⟩ (by
    rintro m a S ⟨t, G', ht, hle, rfl, p⟩
    obtain ⟨G3, e3, p3⟩ := pi_put hc (by omega) p
    obtain ⟨f, X, -, -, -, -, ⟨-, m5, -⟩, -⟩ := id p
    refine Or.inl ⟨(), _, ?_, t + 1, G3, by omega, by omega, rfl, p3⟩
    rw [hb t hle] at e3
    unfold fL_said_l1
    rw [show aI _ (some 80) 20 5 = _ from (pi_5 p (m := 5) (by decide)).1, bnP_1, m5, if_neg (nI_nle (show 0 < t % 20 by omega) (by omega)), e3, bnP_1]) (by
    rintro a S ⟨t, G', ht, hle, rfl, p⟩
    obtain ⟨f, X, -, -, -, -, ⟨-, m5, -⟩, -⟩ := id p
    refine ⟨(), _, ?_, G', t, rfl, by omega, hle, p⟩
    unfold fL_said_l1
    rw [show aI _ (some 80) 20 5 = _ from (pi_5 p (m := 5) (by decide)).1, bnP_1, m5, show t % 20 = 0 by omega, if_pos (show nI 0 ≤ 0 by decide)])
  obtain ⟨f1, X1, -, -, -, -, ⟨-, -, m6⟩, -⟩ := id p1
  obtain ⟨f2, X2, hC2, hA2, -, hf2, ⟨-, m5', -⟩, fr2⟩ := id p2
  have hdv : 20 * (t2 / 20) = t2 := by omega
  refine ⟨up G2 80 6 0, f2, 20 * (t2 / 20), ?_, cr_frame hC2 hA2 (fun a ha => up_a (fun q => ha (Or.inl (by omega)))) (fun _ _ => rfl), hA2, by omega, hf2, ?_, up_eq _ _ _ _, fun a a0 a1 a8 => by rw [up_a a8]; exact fr2 a a0 a1 a8⟩
  · unfold fL_told fL_said
    rw [e1, bnS_1, show aI _ (some 80) 20 6 = _ from (pi_5 p1 (m := 6) (by decide)).1, bnP_1, m6, e2, bnS_1, show sI _ (some 80) 6 0 = _ from (pi_5 p2 (m := 6) (by decide)).2 0, bnP_1, bnS_1]
  · rw [up_k (by decide), m5', show t2 % 20 = 0 by omega]
    rfl
end P56F
