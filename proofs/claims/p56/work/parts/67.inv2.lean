/-! THE PURE LEVEL, 27: what holds between calls, whole -/
/-- the cells of the class, but its Books -/
def CK (σ : HpT) (tx : Nat) : Prop := (91 ≤ hN σ ∧ hK σ 0 = 9 ∧ hK σ 1 = 22 ∧ hZ σ 1 = 600 ∧ hR σ 0 0 = some 1) ∧ (hR σ 0 7 = some 68 ∧ hR σ 0 8 = some 71 ∧ hR σ 0 11 = some 72 ∧ hR σ 0 12 = some 73 ∧ hR σ 0 13 = some 74 ∧ hR σ 0 14 = some 77) ∧ (hK σ 68 = 5 ∧ hR σ 68 3 = some 69 ∧ hK σ 69 = 7) ∧ (hK σ 71 = 27 ∧ hZ σ 71 = 8 ∧ hK σ 72 = 27 ∧ hZ σ 72 = 2 ∧ hK σ 73 = 23 ∧ hZ σ 73 = 2) ∧ LK σ 74 ∧ (hK σ 77 = 6 ∧ hR σ 77 0 = some 78 ∧ hK σ 78 = 11 ∧ hR σ 78 0 = some tx) ∧ (hK σ tx = 22 ∧ tx < hN σ ∧ (tx = 79 ∨ 91 ≤ tx) ∧ 16 ≤ hZ σ tx ∧ hZ σ tx ≤ 40002)
/-- the Books: 0 the one in use, 1 the spare one, 2 to 9 of the past, 10 and 11 of the slots -/
def PB (σ : HpT) (P : Nat → Option Nat) (tx : Nat) : Prop := (∀ i x, i < 12 → P i = some x → BK σ x ∧ (x = 2 ∨ x = 35 ∨ 91 ≤ x) ∧ (tx < x ∨ x + 33 ≤ tx)) ∧ (∀ i j x y, i < j → j < 12 → P i = some x → P j = some y → x + 33 ≤ y ∨ y + 33 ≤ x) ∧ (∀ k, k < 8 → hR σ 71 k = P (2 + k)) ∧ (∀ k, k < 2 → hR σ 72 k = P (10 + k))
/-- cells that tell nothing between calls -/
def SCR (P : Nat → Option Nat) (a : Nat) : Prop := (80 ≤ a ∧ a < 91) ∨ (a = 68 ∨ a = 69 ∨ a = 74 ∨ a = 75 ∨ a = 76) ∨ ∃ i x, i < 12 ∧ P i = some x ∧ (a = x + 12 ∨ a = x + 13 ∨ a = x + 14)
abbrev tE : Type := Int32 × Int32 × Int32
abbrev tI : Type := Nat × (Nat → Int32)
abbrev tN : Type := Nat → Int32
abbrev tU : Type := Nat × (Nat → Nat → Int32)
abbrev tV : Type := (Nat → Bool) × (Nat → Nat → Int32)
/-- the class's side: E loaded, error, its place; I the buffer; N the book; U the past; V the slots; T the text -/
def CR (σ : HpT) (G : Nat → Nat → Int32) (J : Nat → Nat → Int64) (b bs ps : Nat) (P : Nat → Option Nat) (tx : Nat) (E : tE) (I : tI) (N : tN) (U : tU) (V : tV) (T : tI) : Prop :=
  (CK σ tx ∧ hR σ 0 5 = some b ∧ hR σ 0 6 = some bs ∧ P 0 = some b ∧ P 1 = some bs ∧ PB σ P tx) ∧
  (G 0 4 = E.1 ∧ G 0 2 = E.2.1 ∧ G 0 3 = E.2.2) ∧
  (G 0 1 = nI I.1 ∧ ∀ k, k < I.1 → G 1 k = I.2 k) ∧
  (E.1 ≠ 0 → RB G J b N) ∧
  (G 0 10 = nI U.1 ∧ G 0 9 = nI ps ∧ ps < 8 ∧ ∀ k, k < U.1 → ∃ x, P (2 + (ps + k) % 8) = some x ∧ RB G J x (U.2 k)) ∧
  (∀ k, k < 2 → G 73 k = bI (V.1 k) ∧ (V.1 k = true → ∃ x, P (10 + k) = some x ∧ RB G J x (V.2 k))) ∧
  (G 78 3 = nI T.1 ∧ G 78 1 = 0 ∧ T.1 ≤ hZ σ tx ∧ ∀ k, k < T.1 → G tx k = T.2 k)
/-- a text: not too long, of small bytes -/
def TX (T : tI) : Prop := T.1 ≤ 20000 ∧ ∀ k, k < T.1 → ∃ d, d < 128 ∧ T.2 k = nI d
def AW (E : tE) (I : tI) (N : tN) (U : tU) (V : tV) (T : tI) : Prop := ((E.1 = 0 ∨ E.1 = 1) ∧ I.1 ≤ 600 ∧ (E.1 = 0 → U.1 = 0) ∧ U.1 ≤ 8 ∧ TX T) ∧ (E.1 ≠ 0 → WFN N) ∧ (∀ k, k < U.1 → WFN (U.2 k)) ∧ ∀ k, k < 2 → V.1 k = true → WFN (V.2 k)
def DK (σ : HpT) : Prop := (hK σ 89 = 21 ∧ hZ σ 89 = 1) ∧ hK σ 90 = 24 ∧ hZ σ 90 = 1
section IV
variable {σ : HpT} {G G' : Nat → Nat → Int32} {J J' : Nat → Nat → Int64} {b bs ps tx : Nat} {P : Nat → Option Nat} {E : tE} {I T : tI} {N : tN} {U : tU} {V : tV}
theorem scr_out (h : PB σ P tx) {i x a : Nat} (hi : i < 12) (hx : P i = some x) (h1 : x ≤ a) (h2 : a < x + 33) (h3 : a ≠ x + 12) (h4 : a ≠ x + 13) (h5 : a ≠ x + 14) : ¬ SCR P a := by
  have q := (h.1 i x hi hx).2.1
  rintro (s | s | ⟨j, y, hj, hy, s⟩)
  · omega
  · omega
  · rcases Nat.lt_trichotomy i j with z | z | z
    · have := h.2.1 i j x y z hj hx hy
      omega
    · subst z
      rw [hx] at hy
      cases hy
      omega
    · have := h.2.1 j i y x z hi hy hx
      omega
theorem scr_lo (h : PB σ P tx) {a : Nat} (ha : a = 0 ∨ a = 1 ∨ a = 70 ∨ a = 71 ∨ a = 72 ∨ a = 73 ∨ a = 77 ∨ a = 78) : ¬ SCR P a := by
  rintro (s | s | ⟨j, y, hj, hy, s⟩)
  · omega
  · omega
  · have := (h.1 j y hj hy).2.1
    omega
theorem scr_tx (h : PB σ P tx) (ht : tx = 79 ∨ 91 ≤ tx) : ¬ SCR P tx := by
  rintro (s | s | ⟨j, y, hj, hy, s⟩)
  · omega
  · omega
  · have := (h.1 j y hj hy).2.2
    omega
theorem rb_frame (h : PB σ P tx) {i x : Nat} {M : tN} (w1 : W1 M) (hi : i < 12) (hx : P i = some x) (hG : ∀ a, ¬ SCR P a → G' a = G a) (hJ : ∀ a, a ≠ 89 → J' a = J a) (r : RB G J x M) : RB G' J' x M :=
  rb_cong w1 (fun a h1 h2 h3 h4 h5 _ => hG a (scr_out h hi hx h1 h2 h3 h4 h5)) (fun a h1 h2 => hJ a (by have := (h.1 i x hi hx).2.1; omega)) r
theorem cr_frame (hC : CR σ G J b bs ps P tx E I N U V T) (hA : AW E I N U V T) (hG : ∀ a, ¬ SCR P a → G' a = G a) (hJ : ∀ a, a ≠ 89 → J' a = J a) : CR σ G' J' b bs ps P tx E I N U V T := by
  obtain ⟨⟨ck, c1, c2, c3, c4, pb⟩, ⟨e1, e2, e3⟩, ⟨i1, i2⟩, hN, ⟨u1, u2, u3, u4⟩, hV, ⟨t1, t2, t3, t4⟩⟩ := hC
  have g0 := hG 0 (scr_lo pb (by omega))
  have g1 := hG 1 (scr_lo pb (by omega))
  have g73 := hG 73 (scr_lo pb (by omega))
  have g78 := hG 78 (scr_lo pb (by omega))
  have gtx := hG tx (scr_tx pb ck.2.2.2.2.2.2.2.2.1)
  refine ⟨⟨ck, c1, c2, c3, c4, pb⟩, ⟨by rw [g0]; exact e1, by rw [g0]; exact e2, by rw [g0]; exact e3⟩, ⟨by rw [g0]; exact i1, fun k hk => by rw [g1]; exact i2 k hk⟩, fun q => rb_frame pb (hA.2.1 q).1 (by decide) c3 hG hJ (hN q), ⟨by rw [g0]; exact u1, by rw [g0]; exact u2, u3, fun k hk => ?_⟩, fun k hk => ⟨by rw [g73]; exact (hV k hk).1, fun q => ?_⟩, ⟨by rw [g78]; exact t1, by rw [g78]; exact t2, t3, fun k hk => by rw [gtx]; exact t4 k hk⟩⟩
  · obtain ⟨x, hx, r⟩ := u4 k hk
    exact ⟨x, hx, rb_frame pb (hA.2.2.1 k hk).1 (by have := Nat.mod_lt (ps + k) (show 0 < 8 by decide); omega) hx hG hJ r⟩
  · obtain ⟨x, hx, r⟩ := (hV k hk).2 q
    exact ⟨x, hx, rb_frame pb (hA.2.2.2 k hk q).1 (by omega) hx hG hJ r⟩
theorem cr_nk (hC : CR σ G J b bs ps P tx E I N U V T) : NK σ 0 b := by
  obtain ⟨⟨ck, c1, c2, c3, c4, pb⟩, -⟩ := hC
  exact ⟨ck.1.2.1, by have := ck.1.1; omega, c1, (pb.1 0 b (by decide) c3).1⟩
/-- what a question changes -/
def QG (P : Nat → Option Nat) (G G' : Nat → Nat → Int32) : Prop := (∀ a, ¬ SCR P a → G' a = G a) ∧ (∀ k, k = 6 ∨ k = 7 ∨ k = 9 ∨ k = 10 ∨ k = 11 ∨ k = 23 → G' 80 k = G 80 k) ∧ ∀ a, a = 81 ∨ a = 83 ∨ a = 84 ∨ a = 85 ∨ a = 86 ∨ a = 88 → G' a = G a
theorem qg_c (P : Nat → Option Nat) (G : Nat → Nat → Int32) {a : Nat} (ha : SCR P a) (hn : a < 80 ∨ 91 ≤ a ∨ a = 82 ∨ a = 87 ∨ a = 89 ∨ a = 90) (f : Nat → Int32) : QG P G (cw G a f) := by
  refine ⟨fun c hc => cw_b (fun q => hc (by rw [q]; exact ha)), fun j _ => by rw [cw_b (by omega)], fun c hc => cw_b (by omega)⟩
theorem qg_tr {G2 : Nat → Nat → Int32} (h1 : QG P G G') (h2 : QG P G' G2) : QG P G G2 := ⟨fun a ha => (h2.1 a ha).trans (h1.1 a ha), fun k hk => (h2.2.1 k hk).trans (h1.2.1 k hk), fun a ha => (h2.2.2 a ha).trans (h1.2.2 a ha)⟩
theorem qg_rf (P : Nat → Option Nat) (G : Nat → Nat → Int32) : QG P G G := ⟨fun _ _ => rfl, fun _ _ => rfl, fun _ _ => rfl⟩
end IV
