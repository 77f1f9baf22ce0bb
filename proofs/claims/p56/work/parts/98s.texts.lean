/-! THE PURE LEVEL, 77: a text is written: what is left of it between calls -/
section ENVS
variable {S0 S : HpT} {t0 tx tx' i j b bs ps : Nat} {N : tN} {T T' : tI} {σ : HpT} {G : Nat → Nat → Int32} {J : Nat → Nat → Int64} {P : Nat → Option Nat} {E : tE} {I : tI} {U : tU} {V : tV}
theorem cr_tx (hC : CR σ G J b bs ps P tx E I N U V T) (hA : AW E I N U V T) (h : TXS (wc σ G J) tx T' S tx' i j) : CR S S.2.2.2.1 S.2.2.2.2.1 b bs ps P tx' E I N U V T' := by
  obtain ⟨⟨ck, c1, c2, c3, c4, pb⟩, ⟨e1, e2, e3⟩, ⟨i1, i2⟩, hN', ⟨u1, u2, u3, u4⟩, hV, -⟩ := hC
  obtain ⟨⟨k1, k2, k3, k4, k5⟩, ⟨k6, k7, k8, k9, k10, k11⟩, ⟨k12, k13, k14⟩, ⟨k15, k16, k17, k18, k19, k20⟩, k21, -, ⟨k26, k27, k28, k29, k30⟩⟩ := ck
  obtain ⟨⟨a1, a2, a3, a4, a5, a6⟩, ⟨b1, b2, b3, b4, b5, b6⟩, ⟨x1, x2, x3, x4, x5, x6⟩, ⟨d1, d2⟩, -⟩ := h
  have d1 : hN σ ≤ hN S := d1
  have b3 : tx' = tx ∨ hN σ ≤ tx' := b3
  have F := fun a (ha : a < 91) => d2 a (show a < hN σ by omega)
  have g : ∀ a, a < hN σ → a ≠ 78 → a ≠ tx → S.2.2.2.1 a = G a := fun a ha q1 q2 => (d2 a ha).2.2.2.1 q1 q2
  have rbx : ∀ n x M, n < 12 → P n = some x → W1 M → RB G J x M → RB S.2.2.2.1 S.2.2.2.2.1 x M := fun n x M hn hx w1 r => by
    obtain ⟨q1, q2, q3⟩ := pb.1 n x hn hx
    have bx := q1.1
    exact rb_cong w1 (fun a h1 h2 _ _ _ _ => g a (by omega) (by omega) (by omega)) (fun a h1 h2 => (d2 a (show a < hN σ by omega)).2.2.2.2) r
  have hIS : ∀ a k, a < hN S → hI S a k = S.2.2.2.1 a k := fun a k ha => if_pos ha
  have g0 := g 0 (by omega) (by decide) (by omega)
  have R : ∀ a, a < 91 → a ≠ 78 → ∀ k, hR S a k = hR σ a k := fun a ha h8 => (F a ha).2.2.1 h8
  have pb' : PB S P tx' := by
    refine ⟨fun n x hn hx => ?_, pb.2.1, fun k hk => ?_, fun k hk => ?_⟩
    · obtain ⟨q1, q2, q3⟩ := pb.1 n x hn hx
      have bx := q1.1
      exact ⟨bk_ext q1 d1 (fun a h1 h2 => ⟨(d2 a (show a < hN σ by omega)).1, (d2 a (show a < hN σ by omega)).2.1, (d2 a (show a < hN σ by omega)).2.2.1 (by omega)⟩), q2, by omega⟩
    · rw [R 71 (by decide) (by decide)]
      exact pb.2.2.1 k hk
    · rw [R 72 (by decide) (by decide)]
      exact pb.2.2.2 k hk
  refine ⟨⟨⟨⟨by omega, (F 0 (by decide)).1.trans k2, (F 1 (by decide)).1.trans k3, (F 1 (by decide)).2.1.trans k4, by rw [R 0 (by decide) (by decide)]; exact k5⟩, ⟨by rw [R 0 (by decide) (by decide)]; exact k6, by rw [R 0 (by decide) (by decide)]; exact k7, by rw [R 0 (by decide) (by decide)]; exact k8, by rw [R 0 (by decide) (by decide)]; exact k9, by rw [R 0 (by decide) (by decide)]; exact k10, by rw [R 0 (by decide) (by decide)]; exact k11⟩, ⟨(F 68 (by decide)).1.trans k12, by rw [R 68 (by decide) (by decide)]; exact k13, (F 69 (by decide)).1.trans k14⟩, ⟨(F 71 (by decide)).1.trans k15, (F 71 (by decide)).2.1.trans k16, (F 72 (by decide)).1.trans k17, (F 72 (by decide)).2.1.trans k18, (F 73 (by decide)).1.trans k19, (F 73 (by decide)).2.1.trans k20⟩, lk_ext k21 d1 (fun a h1 h2 => ⟨(F a (by omega)).1, (F a (by omega)).2.1, R a (by omega) (by omega)⟩), ⟨a1, a2, a3, a4⟩, ⟨b1, b2, by omega, b4, b5⟩⟩, by rw [R 0 (by decide) (by decide)]; exact c1, by rw [R 0 (by decide) (by decide)]; exact c2, c3, c4, pb'⟩, ⟨by rw [g0]; exact e1, by rw [g0]; exact e2, by rw [g0]; exact e3⟩, ⟨by rw [g0]; exact i1, fun k hk => by rw [g 1 (by omega) (by decide) (by omega)]; exact i2 k hk⟩, fun q => rbx 0 b N (by decide) c3 (hA.2.1 q).1 (hN' q), ⟨by rw [g0]; exact u1, by rw [g0]; exact u2, u3, fun k hk => ?_⟩, fun k hk => ⟨by rw [g 73 (by omega) (by decide) (by omega)]; exact (hV k hk).1, fun q => ?_⟩, ⟨?_, ?_, x3, fun k hk => ?_⟩⟩
  · obtain ⟨x, hx, r⟩ := u4 k hk
    have hi : 2 + (ps + k) % 8 < 12 := by have := Nat.mod_lt (ps + k) (show 0 < 8 by decide); omega
    exact ⟨x, hx, rbx _ x _ hi hx (hA.2.2.1 k hk).1 r⟩
  · obtain ⟨x, hx, r⟩ := (hV k hk).2 q
    exact ⟨x, hx, rbx _ x _ (by omega) hx (hA.2.2.2 k hk q).1 r⟩
  · rw [← hIS 78 3 (by omega)]
    exact x1
  · rw [← hIS 78 1 (by omega)]
    exact x2
  · rw [← hIS tx' k b2]
    exact x4 k hk
end ENVS
