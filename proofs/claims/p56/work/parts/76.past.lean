/-! THE PURE LEVEL, 36: rows of Books; the past is kept -/
theorem bk_ext {σ σ' : HpT} {x : Nat} (h : BK σ x) (hn : hN σ ≤ hN σ') (hf : ∀ a, x ≤ a → a < x + 33 → hK σ' a = hK σ a ∧ hZ σ' a = hZ σ a ∧ ∀ k, hR σ' a k = hR σ a k) : BK σ' x := by
  obtain ⟨b1, ⟨k0, k1, k2, k13, k14⟩, ⟨z1, z2⟩, ⟨r6, r7, r8, r9, r10, r11⟩, ba, bp, ⟨s1, s2, ⟨s3, s4, s5, s6, s7, s8⟩, ⟨y3, y4, y5, y6, y7, y8⟩, q1, q2, q3, q4, q5, q6⟩, ⟨l1, l2, ⟨l3, l4⟩, ⟨l5, l6⟩, l7, l8⟩⟩ := h
  have K := fun a h1 h2 => (hf a h1 h2).1
  have Z := fun a h1 h2 => (hf a h1 h2).2.1
  have R := fun a h1 h2 => (hf a h1 h2).2.2
  refine ⟨by omega, ⟨by rw [K x (by omega) (by omega)]; exact k0, by rw [K (x + 1) (by omega) (by omega)]; exact k1, by rw [K (x + 2) (by omega) (by omega)]; exact k2, by rw [K (x + 13) (by omega) (by omega)]; exact k13, by rw [K (x + 14) (by omega) (by omega)]; exact k14⟩, ⟨by rw [Z (x + 1) (by omega) (by omega)]; exact z1, by rw [Z (x + 2) (by omega) (by omega)]; exact z2⟩, ⟨by rw [R x (by omega) (by omega)]; exact r6, by rw [R x (by omega) (by omega)]; exact r7, by rw [R x (by omega) (by omega)]; exact r8, by rw [R x (by omega) (by omega)]; exact r9, by rw [R x (by omega) (by omega)]; exact r10, by rw [R x (by omega) (by omega)]; exact r11⟩, fun j hj => ?_, fun j hj => ?_, ⟨by omega, by rw [K (x + 3) (by omega) (by omega)]; exact s2, ⟨by rw [K (x + 3 + 1) (by omega) (by omega)]; exact s3, by rw [K (x + 3 + 2) (by omega) (by omega)]; exact s4, by rw [K (x + 3 + 3) (by omega) (by omega)]; exact s5, by rw [K (x + 3 + 4) (by omega) (by omega)]; exact s6, by rw [K (x + 3 + 5) (by omega) (by omega)]; exact s7, by rw [K (x + 3 + 6) (by omega) (by omega)]; exact s8⟩, ⟨by rw [Z (x + 3 + 1) (by omega) (by omega)]; exact y3, by rw [Z (x + 3 + 2) (by omega) (by omega)]; exact y4, by rw [Z (x + 3 + 3) (by omega) (by omega)]; exact y5, by rw [Z (x + 3 + 4) (by omega) (by omega)]; exact y6, by rw [Z (x + 3 + 5) (by omega) (by omega)]; exact y7, by rw [Z (x + 3 + 6) (by omega) (by omega)]; exact y8⟩, by rw [R (x + 3) (by omega) (by omega)]; exact q1, by rw [R (x + 3) (by omega) (by omega)]; exact q2, by rw [R (x + 3) (by omega) (by omega)]; exact q3, by rw [R (x + 3) (by omega) (by omega)]; exact q4, by rw [R (x + 3) (by omega) (by omega)]; exact q5, by rw [R (x + 3) (by omega) (by omega)]; exact q6⟩, ⟨by omega, by rw [K (x + 10) (by omega) (by omega)]; exact l2, ⟨by rw [K (x + 10 + 1) (by omega) (by omega)]; exact l3, by rw [K (x + 10 + 2) (by omega) (by omega)]; exact l4⟩, ⟨by rw [Z (x + 10 + 1) (by omega) (by omega)]; exact l5, by rw [Z (x + 10 + 2) (by omega) (by omega)]; exact l6⟩, by rw [R (x + 10) (by omega) (by omega)]; exact l7, by rw [R (x + 10) (by omega) (by omega)]; exact l8⟩⟩
  · rw [K (x + 15 + j) (by omega) (by omega), R (x + 1) (by omega) (by omega)]
    exact ba j hj
  · rw [K (x + 25 + j) (by omega) (by omega), R (x + 2) (by omega) (by omega)]
    exact bp j hj
theorem lk_ext {σ σ' : HpT} {x : Nat} (h : LK σ x) (hn : hN σ ≤ hN σ') (hf : ∀ a, x ≤ a → a < x + 3 → hK σ' a = hK σ a ∧ hZ σ' a = hZ σ a ∧ ∀ k, hR σ' a k = hR σ a k) : LK σ' x := by
  obtain ⟨l1, l2, ⟨l3, l4⟩, ⟨l5, l6⟩, l7, l8⟩ := h
  exact ⟨by omega, by rw [(hf x (by omega) (by omega)).1]; exact l2, ⟨by rw [(hf (x + 1) (by omega) (by omega)).1]; exact l3, by rw [(hf (x + 2) (by omega) (by omega)).1]; exact l4⟩, ⟨by rw [(hf (x + 1) (by omega) (by omega)).2.1]; exact l5, by rw [(hf (x + 2) (by omega) (by omega)).2.1]; exact l6⟩, by rw [(hf x (by omega) (by omega)).2.2]; exact l7, by rw [(hf x (by omega) (by omega)).2.2]; exact l8⟩
/-- arrays of a hundred longs stay -/
def WX (σ : HpT) (J J' : Nat → Nat → Int64) : Prop := ∀ a, a < hN σ → hK σ a = 21 → hZ σ a = 100 → J' a = J a
/-- no cell of a Book is one -/
theorem bk_out {σ : HpT} {x a : Nat} (B : BK σ x) (h1 : hK σ a = 21) (h2 : hZ σ a = 100) : a < x ∨ x + 33 ≤ a := by
  obtain ⟨b0, ⟨b1, b2, b3, b4, b5⟩, -, -, b6, b7, ⟨-, s1, ⟨s2, s3, s4, s5, s6, s7⟩, ⟨z1, z2, z3, z4, z5, z6⟩, -⟩, ⟨-, l1, ⟨l2, l3⟩, -⟩⟩ := B
  by_cases h : a < x ∨ x + 33 ≤ a
  · exact h
  · exfalso
    have e : a = x ∨ a = x + 1 ∨ a = x + 2 ∨ a = x + 3 ∨ a = x + 3 + 1 ∨ a = x + 3 + 2 ∨ a = x + 3 + 3 ∨ a = x + 3 + 4 ∨ a = x + 3 + 5 ∨ a = x + 3 + 6 ∨ a = x + 10 ∨ a = x + 10 + 1 ∨ a = x + 10 + 2 ∨ a = x + 13 ∨ a = x + 14 ∨ (∃ k, k < 10 ∧ a = x + 15 + k) ∨ ∃ k, k < 8 ∧ a = x + 25 + k := by
      by_cases q : a < x + 15
      · omega
      · by_cases q2 : a < x + 25
        · exact Or.inr (Or.inr (Or.inr (Or.inr (Or.inr (Or.inr (Or.inr (Or.inr (Or.inr (Or.inr (Or.inr (Or.inr (Or.inr (Or.inr (Or.inr (Or.inl ⟨a - (x + 15), by omega, by omega⟩)))))))))))))))
        · exact Or.inr (Or.inr (Or.inr (Or.inr (Or.inr (Or.inr (Or.inr (Or.inr (Or.inr (Or.inr (Or.inr (Or.inr (Or.inr (Or.inr (Or.inr (Or.inr ⟨a - (x + 25), by omega, by omega⟩)))))))))))))))
    rcases e with rfl | rfl | rfl | rfl | rfl | rfl | rfl | rfl | rfl | rfl | rfl | rfl | rfl | rfl | rfl | ⟨k, hk, rfl⟩ | ⟨k, hk, rfl⟩
    · omega
    · omega
    · omega
    · omega
    · omega
    · omega
    · omega
    · omega
    · omega
    · omega
    · omega
    · omega
    · omega
    · omega
    · omega
    · have := (b6 k hk).1
      omega
    · have := (b7 k hk).1
      omega
/-- the heap may grow, the rows of Books may point to more; the reference's cells stay -/
def EXM (σ σ' : HpT) (G G' : Nat → Nat → Int32) (J J' : Nat → Nat → Int64) : Prop := (hN σ ≤ hN σ' ∧ hN σ' ≤ hN σ + 33) ∧ (∀ a, a < hN σ → hK σ' a = hK σ a ∧ hZ σ' a = hZ σ a ∧ (a ≠ 0 → a ≠ 68 → a ≠ 69 → a ≠ 71 → a ≠ 72 → ∀ k, hR σ' a k = hR σ a k)) ∧ ∀ a, 80 ≤ a → a < 91 → G' a = G a ∧ J' a = J a
theorem exm_dk {σ σ' : HpT} {G G' : Nat → Nat → Int32} {J J' : Nat → Nat → Int64} (h : EXM σ σ' G G' J J') (hn : 91 ≤ hN σ) (d : DK σ) : DK σ' := by
  have F := fun a (ha : a < 91) => h.2.1 a (by omega)
  exact ⟨⟨by rw [(F 89 (by decide)).1]; exact d.1.1, by rw [(F 89 (by decide)).2.1]; exact d.1.2⟩, by rw [(F 90 (by decide)).1]; exact d.2.1, by rw [(F 90 (by decide)).2.1]; exact d.2.2⟩
theorem exm_cap {σ σ' : HpT} {G G' : Nat → Nat → Int32} {J J' : Nat → Nat → Int64} {tx : Nat} (h : EXM σ σ' G G' J J') (hn : 91 ≤ hN σ) (ht : hR σ 78 0 = some tx) (htx : tx < hN σ) : capO σ' = capO σ := by
  have e : hR σ' 78 0 = some tx := by rw [(h.2.1 78 (by omega)).2.2 (by decide) (by decide) (by decide) (by decide) (by decide) 0]; exact ht
  unfold capO
  rw [e, ht]
  exact (h.2.1 tx htx).2.1
theorem exm_rf (σ : HpT) (G G' : Nat → Nat → Int32) (J J' : Nat → Nat → Int64) (h : ∀ a, 80 ≤ a → a < 91 → G' a = G a ∧ J' a = J a) : EXM σ σ G G' J J' := ⟨⟨Nat.le_refl _, Nat.le_add_right _ _⟩, fun _ _ => ⟨rfl, rfl, fun _ _ _ _ _ _ => rfl⟩, h⟩
def pushU (U : tU) (N : tN) : tU := if U.1 = 8 then (8, fun k => if k = 7 then N else U.2 (k + 1)) else (U.1 + 1, fun k => if k = U.1 then N else U.2 k)
section PST
variable {σ σ' : HpT} {G G' : Nat → Nat → Int32} {J J' : Nat → Nat → Int64} {b bs ps tx : Nat} {P : Nat → Option Nat} {E : tE} {I I' T : tI} {N : Nat → Int32} {U : tU} {V : tV}
/-- the class's side moves to a heap that has grown -/
theorem cr_ext {P' : Nat → Option Nat} (hC : CR σ G J b bs ps P tx E I N U V T) (hA : AW E I N U V T) (hn : hN σ ≤ hN σ') (hf : ∀ a, a < hN σ → hK σ' a = hK σ a ∧ hZ σ' a = hZ σ a ∧ G' a = G a ∧ J' a = J a) (hR2 : ∀ a, a < hN σ → a ≠ 71 → a ≠ 72 → ∀ k, hR σ' a k = hR σ a k) (pb' : PB σ' P' tx) (hP : ∀ i x, i < 12 → P i = some x → P' i = some x) : CR σ' G' J' b bs ps P' tx E I N U V T := by
  obtain ⟨⟨ck, c1, c2, c3, c4, pb⟩, ⟨e1, e2, e3⟩, ⟨i1, i2⟩, hN', ⟨u1, u2, u3, u4⟩, hV, ⟨t1, t2, t3, t4⟩⟩ := hC
  obtain ⟨⟨k1, k2, k3, k4, k5⟩, ⟨k6, k7, k8, k9, k10, k11⟩, ⟨k12, k13, k14⟩, ⟨k15, k16, k17, k18, k19, k20⟩, k21, ⟨k22, k23, k24, k25⟩, ⟨k26, k27, k28, k29, k30⟩⟩ := ck
  have F := fun a (ha : a < 91) => hf a (by omega)
  have R := fun a (ha : a < 91) (h1 : a ≠ 71) (h2 : a ≠ 72) => hR2 a (by omega) h1 h2
  have rbx : ∀ i x M, i < 12 → P i = some x → W1 M → RB G J x M → RB G' J' x M := fun i x M hi hx w1 r => by
    have bx := (pb.1 i x hi hx).1.1
    exact rb_cong w1 (fun a _ h2 _ _ _ _ => (hf a (by omega)).2.2.1) (fun a _ h2 => (hf a (by omega)).2.2.2) r
  refine ⟨⟨⟨⟨by omega, by rw [(F 0 (by decide)).1]; exact k2, by rw [(F 1 (by decide)).1]; exact k3, by rw [(F 1 (by decide)).2.1]; exact k4, by rw [R 0 (by decide) (by decide) (by decide)]; exact k5⟩, ⟨by rw [R 0 (by decide) (by decide) (by decide)]; exact k6, by rw [R 0 (by decide) (by decide) (by decide)]; exact k7, by rw [R 0 (by decide) (by decide) (by decide)]; exact k8, by rw [R 0 (by decide) (by decide) (by decide)]; exact k9, by rw [R 0 (by decide) (by decide) (by decide)]; exact k10, by rw [R 0 (by decide) (by decide) (by decide)]; exact k11⟩, ⟨by rw [(F 68 (by decide)).1]; exact k12, by rw [R 68 (by decide) (by decide) (by decide)]; exact k13, by rw [(F 69 (by decide)).1]; exact k14⟩, ⟨by rw [(F 71 (by decide)).1]; exact k15, by rw [(F 71 (by decide)).2.1]; exact k16, by rw [(F 72 (by decide)).1]; exact k17, by rw [(F 72 (by decide)).2.1]; exact k18, by rw [(F 73 (by decide)).1]; exact k19, by rw [(F 73 (by decide)).2.1]; exact k20⟩, lk_ext k21 hn (fun a h1 h2 => ⟨(F a (by omega)).1, (F a (by omega)).2.1, R a (by omega) (by omega) (by omega)⟩), ⟨by rw [(F 77 (by decide)).1]; exact k22, by rw [R 77 (by decide) (by decide) (by decide)]; exact k23, by rw [(F 78 (by decide)).1]; exact k24, by rw [R 78 (by decide) (by decide) (by decide)]; exact k25⟩, ⟨by rw [(hf tx k27).1]; exact k26, by omega, k28, by rw [(hf tx k27).2.1]; exact k29, by rw [(hf tx k27).2.1]; exact k30⟩⟩, by rw [R 0 (by decide) (by decide) (by decide)]; exact c1, by rw [R 0 (by decide) (by decide) (by decide)]; exact c2, hP 0 b (by decide) c3, hP 1 bs (by decide) c4, pb'⟩, ⟨by rw [(F 0 (by decide)).2.2.1]; exact e1, by rw [(F 0 (by decide)).2.2.1]; exact e2, by rw [(F 0 (by decide)).2.2.1]; exact e3⟩, ⟨by rw [(F 0 (by decide)).2.2.1]; exact i1, by rw [(F 1 (by decide)).2.2.1]; exact i2⟩, fun q => rbx 0 b N (by decide) c3 (hA.2.1 q).1 (hN' q), ⟨by rw [(F 0 (by decide)).2.2.1]; exact u1, by rw [(F 0 (by decide)).2.2.1]; exact u2, u3, fun k hk => ?_⟩, fun k hk => ⟨by rw [(F 73 (by decide)).2.2.1]; exact (hV k hk).1, fun q => ?_⟩, ⟨by rw [(F 78 (by decide)).2.2.1]; exact t1, by rw [(F 78 (by decide)).2.2.1]; exact t2, by rw [(hf tx k27).2.1]; exact t3, by rw [(hf tx k27).2.2.1]; exact t4⟩⟩
  · obtain ⟨x, hx, r⟩ := u4 k hk
    have hi : 2 + (ps + k) % 8 < 12 := by have := Nat.mod_lt (ps + k) (show 0 < 8 by decide); omega
    exact ⟨x, hP _ x hi hx, rbx _ x _ hi hx (hA.2.2.1 k hk).1 r⟩
  · obtain ⟨x, hx, r⟩ := (hV k hk).2 q
    exact ⟨x, hP _ x (by omega) hx, rbx _ x _ (by omega) hx (hA.2.2.2 k hk q).1 r⟩
/-- a row's Book, made if there is none -/
theorem c_rowAt (hC : CR σ G J b bs ps P tx E I N U V T) (hA : AW E I N U V T) (hb : hN σ + 40 < BIG) {ra bi z k : Nat} (hrow : (ra = 71 ∧ bi = 2 ∧ z = 8) ∨ (ra = 72 ∧ bi = 10 ∧ z = 2)) (hk : k < z) : ∃ σ' G' J' x i j P', fX9_rowAt (some ra) (nI k) (wc σ G J) = some (.ok (some x), wc σ' G' J', i, j) ∧ CR σ' G' J' b bs ps P' tx E I N U V T ∧ P' (bi + k) = some x ∧ EXM σ σ' G G' J J' ∧ i ≤ 33 ∧ j ≤ 2354 ∧ WX σ J J' := by
  have ck := hC.1.1
  have pb := hC.1.2.2.2.2.2
  have hkr : hK σ ra = 27 := by
    rcases hrow with ⟨rfl, -, -⟩ | ⟨rfl, -, -⟩
    · exact ck.2.2.2.1.1
    · exact ck.2.2.2.1.2.2.1
  have hzr : hZ σ ra = z := by
    rcases hrow with ⟨rfl, -, rfl⟩ | ⟨rfl, -, rfl⟩
    · exact ck.2.2.2.1.2.1
    · exact ck.2.2.2.1.2.2.2.1
  have hrr : ∀ k, k < z → hR σ ra k = P (bi + k) := by
    rcases hrow with ⟨rfl, rfl, rfl⟩ | ⟨rfl, rfl, rfl⟩
    · exact pb.2.2.1
    · exact pb.2.2.2
  have hz31 : z < 2 ^ 31 := by rcases hrow with ⟨-, -, rfl⟩ | ⟨-, -, rfl⟩ <;> decide
  have hbi : bi + k < 12 := by omega
  have hra : ra < hN σ := by have := ck.1.1; omega
  unfold fX9_rowAt
  cases e : P (bi + k) with
  | some x =>
    refine ⟨σ, G, J, x, 0, 0, P, ?_, hC, e, exm_rf σ G G J J (fun _ _ _ => ⟨rfl, rfl⟩), by decide, by decide, fun _ _ _ _ => rfl⟩
    have a1 := aR_c (σ := σ) (G := G) (J := J) hkr hzr hk hz31 ((hrr k hk).trans e)
    rw [a1, bnP_1, if_neg (fun q => by cases q), bnA_ok, a1, bnP_1]
    rfl
  | none =>
    have a1 := aR_c (σ := σ) (G := G) (J := J) hkr hzr hk hz31 ((hrr k hk).trans e)
    obtain ⟨S0, S, s1, s2, s3, s4, s5⟩ := c_newBook (σ := wc σ G J) (h := hN σ) rfl (by omega)
    have lra : ra < hN S := by rw [s3]; omega
    have ks : hK S ra = 27 := by rw [(s5 ra hra).1]; exact hkr
    have zs : hZ S ra = z := by rw [(s5 ra hra).2.1]; exact hzr
    have kx : hK S (hN σ) = 1 := s4.2.1.1
    have sr : sR S (some ra) 27 1 (nI k) (some (hN σ)) = some (wR S ra k (some (hN σ))) := by
      unfold sR
      dsimp only
      rw [if_pos ⟨⟨⟨ks, by rw [zs]; exact inb_nI hk hz31⟩, lra⟩, kx, by rw [s3]; omega⟩, nI_clamp (by omega)]
    generalize hS2 : wR S ra k (some (hN σ)) = S2 at sr
    have n2 : hN S2 = hN σ + 33 := by rw [← hS2]; exact s3
    have k2 : ∀ a, hK S2 a = hK S a := fun a => by rw [← hS2]; rfl
    have z2 : ∀ a, hZ S2 a = hZ S a := fun a => by rw [← hS2]; rfl
    have r2 : ∀ a k', hR S2 a k' = if a = ra ∧ k' = k then some (hN σ) else hR S a k' := fun a k' => by rw [← hS2]; exact hR_wR _ _ _ _ _ _ lra
    have g2 : S2.2.2.2.1 = S.2.2.2.1 := by rw [← hS2]; rfl
    have j2 : S2.2.2.2.2.1 = S.2.2.2.2.1 := by rw [← hS2]; rfl
    have F : ∀ a, a < hN σ → hK S2 a = hK σ a ∧ hZ S2 a = hZ σ a ∧ S2.2.2.2.1 a = G a ∧ S2.2.2.2.2.1 a = J a := fun a ha => ⟨by rw [k2]; exact (s5 a ha).1, by rw [z2]; exact (s5 a ha).2.1, by rw [g2]; exact (s5 a ha).2.2.2.1, by rw [j2]; exact (s5 a ha).2.2.2.2⟩
    have R : ∀ a, a < hN σ → a ≠ ra → ∀ k', hR S2 a k' = hR σ a k' := fun a ha hne k' => by
      rw [r2, if_neg (fun q => hne q.1)]
      exact (s5 a ha).2.2.1 k'
    have Rr : ∀ k', k' < z → hR S2 ra k' = if k' = k then some (hN σ) else P (bi + k') := fun k' hk' => by
      rw [r2]
      by_cases q : k' = k
      · rw [if_pos ⟨rfl, q⟩, if_pos q]
      · rw [if_neg (fun q2 => q q2.2), if_neg q, (s5 ra hra).2.2.1 k']
        exact hrr k' hk'
    have hra2 : ra = 71 ∨ ra = 72 := by omega
    have hn91 := ck.1.1
    have bkn : BK S2 (hN σ) := bk_ext s4 (by rw [s3, n2]; exact Nat.le_refl _) (fun a h1 h2 => ⟨k2 a, z2 a, fun k' => by rw [r2, if_neg (fun q => by omega)]⟩)
    generalize hP' : (fun i => if i = bi + k then some (hN σ) else P i) = P'
    have p1 : P' (bi + k) = some (hN σ) := by rw [← hP']; exact if_pos rfl
    have p2 : ∀ i, i ≠ bi + k → P' i = P i := fun i hi => by rw [← hP']; exact if_neg hi
    have pb' : PB S2 P' tx := by
      refine ⟨fun i x hi hx => ?_, fun i j x y hij hj hx hy => ?_, fun k' hk' => ?_, fun k' hk' => ?_⟩
      · by_cases q : i = bi + k
        · rw [q, p1] at hx
          cases hx
          exact ⟨bkn, Or.inr (Or.inr ck.1.1), Or.inl ck.2.2.2.2.2.2.2.1⟩
        · rw [p2 i q] at hx
          obtain ⟨q1, q2, q3⟩ := pb.1 i x hi hx
          have := q1.1
          exact ⟨bk_ext q1 (by rw [n2]; omega) (fun a h1 h2 => ⟨(F a (by omega)).1, (F a (by omega)).2.1, R a (by omega) (by omega)⟩), q2, q3⟩
      · by_cases q : i = bi + k
        · rw [q, p1] at hx
          cases hx
          rw [p2 j (by omega)] at hy
          have := (pb.1 j y hj hy).1.1
          omega
        · rw [p2 i q] at hx
          by_cases q2 : j = bi + k
          · rw [q2, p1] at hy
            cases hy
            have := (pb.1 i x (by omega) hx).1.1
            omega
          · rw [p2 j q2] at hy
            exact pb.2.1 i j x y hij hj hx hy
      · rcases hrow with ⟨rfl, rfl, rfl⟩ | ⟨rfl, rfl, rfl⟩
        · rw [Rr k' hk']
          by_cases q : k' = k
          · rw [if_pos q, q, p1]
          · rw [if_neg q, p2 _ (by omega)]
        · rw [R 71 (by omega) (by decide), p2 _ (by omega)]
          exact pb.2.2.1 k' hk'
      · rcases hrow with ⟨rfl, rfl, rfl⟩ | ⟨rfl, rfl, rfl⟩
        · rw [R 72 (by omega) (by decide), p2 _ (by omega)]
          exact pb.2.2.2 k' hk'
        · rw [Rr k' hk']
          by_cases q : k' = k
          · rw [if_pos q, q, p1]
          · rw [if_neg q, p2 _ (by omega)]
    refine ⟨S2, S2.2.2.2.1, S2.2.2.2.2.1, hN σ, 33, 2354, P', ?_, cr_ext hC hA (by rw [n2]; omega) F (fun a ha h71 h72 => R a ha (by omega)) pb' (fun i x hi hx => ?_), p1, ⟨⟨by rw [n2]; omega, by rw [n2]; exact Nat.le_refl _⟩, fun a ha => ⟨(F a ha).1, (F a ha).2.1, fun _ _ _ h71 h72 => R a ha (by omega)⟩, fun a h1 h2 => ⟨(F a (by omega)).2.2.1, (F a (by omega)).2.2.2⟩⟩, by decide, by decide, fun a ha _ _ => (F a ha).2.2.2⟩
    · have a2 : aR S2 (some ra) 27 (nI k) = some (some (hN σ)) := by
        rw [show S2 = wc S2 S2.2.2.2.1 S2.2.2.2.2.1 from (wc_self S2).symm]
        exact aR_c (by rw [k2]; exact ks) (by rw [z2]; exact zs) hk hz31 (by rw [Rr k hk, if_pos rfl])
      rw [a1, bnP_1, if_pos rfl, s1, bnA_ok, s2, bnA_ok, sr, bnP_1]
      show bnA (some (.ok (), S2, 33, 2354)) _ = _
      rw [bnA_ok, a2, bnP_1, addC_1, wc_self]
    · rw [p2 i (fun q => by rw [q, e] at hx; cases hx)]
      exact hx
end PST
