/-! THE PURE LEVEL, 77: a text is written: what is left of it between calls -/
/-- the class's cells ahead of a writing -/
def ENV (S : HpT) (t0 b : Nat) (N : tN) : Prop := NK S 0 b ∧ hR S 0 14 = some 77 ∧ ((b = 2 ∨ b = 35 ∨ 91 ≤ b) ∧ (t0 < b ∨ b + 33 ≤ t0) ∧ t0 ≠ 0) ∧ WFN N ∧ RB S.2.2.2.1 S.2.2.2.2.1 b N
section ENVS
variable {S0 S : HpT} {t0 tx tx' i j b bs ps : Nat} {N : tN} {T T' : tI} {σ : HpT} {G : Nat → Nat → Int32} {J : Nat → Nat → Int64} {P : Nat → Option Nat} {E : tE} {I : tI} {U : tU} {V : tV}
theorem en_S (e : ENV S0 t0 b N) (h : TXS S0 t0 T S tx i j) : ENV S t0 b N := by
  obtain ⟨⟨k0, n0, r5, B⟩, r14, ⟨hb, ht, h0⟩, hw, r⟩ := e
  obtain ⟨d1, d2⟩ := h.2.2.2.1
  have h91 := h.1.2.2.2.2.1
  have bn := B.1
  refine ⟨⟨by rw [(d2 0 n0).1]; exact k0, by omega, by rw [(d2 0 n0).2.2.1 (by decide)]; exact r5, bk_ext B d1 (fun a h1 h2 => ⟨(d2 a (by omega)).1, (d2 a (by omega)).2.1, (d2 a (by omega)).2.2.1 (by omega)⟩)⟩, by rw [(d2 0 n0).2.2.1 (by decide)]; exact r14, ⟨hb, ht, h0⟩, hw, rb_cong hw.1 (fun a h1 h2 _ _ _ _ => (d2 a (by omega)).2.2.2.1 (by omega) (by omega)) (fun a h1 h2 => (d2 a (by omega)).2.2.2.2) r⟩
theorem env_of (hC : CR σ G J b bs ps P tx E I N U V T) (hA : AW E I N U V T) (hE : E.1 ≠ 0) : ENV (wc σ G J) tx b N := by
  have ck := hC.1.1
  have pb := hC.1.2.2.2.2.2.1 0 b (by decide) hC.1.2.2.2.1
  exact ⟨cr_nk hC, ck.2.1.2.2.2.2.2, ⟨pb.2.1, pb.2.2, by have := ck.2.2.2.2.2.2.2.2.1; omega⟩, hA.2.1 hE, hC.2.2.2.1 hE⟩
theorem tx_of (hC : CR σ G J b bs ps P tx E I N U V T) (hA : AW E I N U V T) (hb : hN σ + 40100 < BIG) : TXS (wc σ G J) tx T (wc σ G J) tx 0 0 := by
  have ck := hC.1.1
  obtain ⟨t1, t2, t3, t4⟩ := hC.2.2.2.2.2.2
  obtain ⟨k22, k23, k24, k25⟩ := ck.2.2.2.2.2.1
  obtain ⟨k26, k27, k28, k29, k30⟩ := ck.2.2.2.2.2.2
  have hn := ck.1.1
  have hI_w : ∀ a k, a < hN σ → hI (wc σ G J) a k = G a k := fun a k ha => hI_wc k ha
  refine ⟨⟨k22, k23, k24, k25, hn, hb⟩, ⟨k26, k27, Or.inl rfl, k29, k30, by omega⟩, ⟨?_, ?_, t3, fun k hk => ?_, hA.1.2.2.2.2.1, hA.1.2.2.2.2.2⟩, ⟨Nat.le_refl _, fun a ha => ⟨rfl, rfl, fun _ _ => rfl, fun _ _ => rfl, rfl⟩⟩, ⟨Nat.le_refl _, Nat.le_refl _, by rw [Nat.zero_add]; exact Nat.le_refl _, by rw [Nat.zero_add]; exact Nat.le_refl _⟩⟩
  · rw [hI_w 78 3 (by omega)]
    exact t1
  · rw [hI_w 78 1 (by omega)]
    exact t2
  · rw [hI_w tx k k27]
    exact t4 k hk
theorem mr_tx (hM : MR σ G E I N U V T) (h : TXS (wc σ G J) tx T' S tx' i j) (ht : tx = 79 ∨ 91 ≤ tx) : MR S S.2.2.2.1 E I N U V T := by
  obtain ⟨d1, d2⟩ := h.2.2.2.1
  have h91 := h.1.2.2.2.2.1
  have F := fun a (h1 : 80 ≤ a) (h2 : a < 91) => d2 a (by omega)
  have g : ∀ a, 80 ≤ a → a < 91 → S.2.2.2.1 a = G a := fun a h1 h2 => (F a h1 h2).2.2.2.1 (by omega) (by omega)
  have q := mr_c (G' := S.2.2.2.1) hM g
  refine ⟨?_, q.2⟩
  obtain ⟨m1, m2, ⟨k1, k2, k3, k4, k5, k6, k7, k8⟩, ⟨z1, z2, z3, z4, z5, z6, z7, z8⟩, r⟩ := hM.1
  have d1' : hN σ ≤ hN S := d1
  refine ⟨by omega, (F 80 (by decide) (by decide)).1.trans m2, ⟨(F 81 (by decide) (by decide)).1.trans k1, (F 82 (by decide) (by decide)).1.trans k2, (F 83 (by decide) (by decide)).1.trans k3, (F 84 (by decide) (by decide)).1.trans k4, (F 85 (by decide) (by decide)).1.trans k5, (F 86 (by decide) (by decide)).1.trans k6, (F 87 (by decide) (by decide)).1.trans k7, (F 88 (by decide) (by decide)).1.trans k8⟩, ⟨(F 81 (by decide) (by decide)).2.1.trans z1, (F 82 (by decide) (by decide)).2.1.trans z2, (F 83 (by decide) (by decide)).2.1.trans z3, (F 84 (by decide) (by decide)).2.1.trans z4, (F 85 (by decide) (by decide)).2.1.trans z5, (F 86 (by decide) (by decide)).2.1.trans z6, (F 87 (by decide) (by decide)).2.1.trans z7, (F 88 (by decide) (by decide)).2.1.trans z8⟩, ?_⟩
  have R := (F 80 (by decide) (by decide)).2.2.1 (by decide)
  rw [R 1, R 2, R 3, R 4, R 5, R 8, R 21, R 22]
  exact r
theorem cr_tx (hC : CR σ G J b bs ps P tx E I N U V T) (hA : AW E I N U V T) (h : TXS (wc σ G J) tx T' S tx' i j) : CR S S.2.2.2.1 S.2.2.2.2.1 b bs ps P tx' E I N U V T' := by
  obtain ⟨⟨ck, c1, c2, c3, c4, pb⟩, ⟨e1, e2, e3⟩, ⟨i1, i2⟩, hN', ⟨u1, u2, u3, u4⟩, hV, -⟩ := hC
  obtain ⟨⟨k1, k2, k3, k4, k5⟩, ⟨k6, k7, k8, k9, k10, k11⟩, ⟨k12, k13, k14⟩, ⟨k15, k16, k17, k18, k19, k20⟩, k21, -, ⟨k26, k27, k28, k29, k30⟩⟩ := ck
  obtain ⟨⟨a1, a2, a3, a4, a5, a6⟩, ⟨b1, b2, b3, b4, b5, b6⟩, ⟨x1, x2, x3, x4, x5, x6⟩, ⟨d1, d2⟩, -⟩ := h
  have d1 : hN σ ≤ hN S := d1
  have b3 : tx' = tx ∨ hN σ ≤ tx' := b3
  have F := fun a (ha : a < 91) => d2 a (show a < hN σ by omega)
  have g : ∀ a, a < hN σ → a ≠ 78 → a ≠ tx → S.2.2.2.1 a = G a := fun a ha q1 q2 => (d2 a ha).2.2.2.1 q1 q2
  have rbx : ∀ n x M, n < 12 → P n = some x → W1 M → RB G J x M → RB S.2.2.2.1 S.2.2.2.2.1 x M := fun n x M hn hx w1 r => by
    obtain ⟨q1, q2, q3⟩ := pb.1 n x hn hx
    have bx := q1.1
    exact rb_cong w1 (fun a h1 h2 _ _ _ _ => g a (by omega) (by omega) (by omega)) (fun a h1 h2 => (d2 a (show a < hN σ by omega)).2.2.2.2) r
  have hIS : ∀ a k, a < hN S → hI S a k = S.2.2.2.1 a k := fun a k ha => if_pos ha
  have g0 := g 0 (by omega) (by decide) (by omega)
  have R : ∀ a, a < 91 → a ≠ 78 → ∀ k, hR S a k = hR σ a k := fun a ha h8 => (F a ha).2.2.1 h8
  have pb' : PB S P tx' := by
    refine ⟨fun n x hn hx => ?_, pb.2.1, fun k hk => ?_, fun k hk => ?_⟩
    · obtain ⟨q1, q2, q3⟩ := pb.1 n x hn hx
      have bx := q1.1
      exact ⟨bk_ext q1 d1 (fun a h1 h2 => ⟨(d2 a (show a < hN σ by omega)).1, (d2 a (show a < hN σ by omega)).2.1, (d2 a (show a < hN σ by omega)).2.2.1 (by omega)⟩), q2, by omega⟩
    · rw [R 71 (by decide) (by decide)]
      exact pb.2.2.1 k hk
    · rw [R 72 (by decide) (by decide)]
      exact pb.2.2.2 k hk
  refine ⟨⟨⟨⟨by omega, (F 0 (by decide)).1.trans k2, (F 1 (by decide)).1.trans k3, (F 1 (by decide)).2.1.trans k4, by rw [R 0 (by decide) (by decide)]; exact k5⟩, ⟨by rw [R 0 (by decide) (by decide)]; exact k6, by rw [R 0 (by decide) (by decide)]; exact k7, by rw [R 0 (by decide) (by decide)]; exact k8, by rw [R 0 (by decide) (by decide)]; exact k9, by rw [R 0 (by decide) (by decide)]; exact k10, by rw [R 0 (by decide) (by decide)]; exact k11⟩, ⟨(F 68 (by decide)).1.trans k12, by rw [R 68 (by decide) (by decide)]; exact k13, (F 69 (by decide)).1.trans k14⟩, ⟨(F 71 (by decide)).1.trans k15, (F 71 (by decide)).2.1.trans k16, (F 72 (by decide)).1.trans k17, (F 72 (by decide)).2.1.trans k18, (F 73 (by decide)).1.trans k19, (F 73 (by decide)).2.1.trans k20⟩, lk_ext k21 d1 (fun a h1 h2 => ⟨(F a (by omega)).1, (F a (by omega)).2.1, R a (by omega) (by omega)⟩), ⟨a1, a2, a3, a4⟩, ⟨b1, b2, by omega, b4, b5⟩⟩, by rw [R 0 (by decide) (by decide)]; exact c1, by rw [R 0 (by decide) (by decide)]; exact c2, c3, c4, pb'⟩, ⟨by rw [g0]; exact e1, by rw [g0]; exact e2, by rw [g0]; exact e3⟩, ⟨by rw [g0]; exact i1, fun k hk => by rw [g 1 (by omega) (by decide) (by omega)]; exact i2 k hk⟩, fun q => rbx 0 b N (by decide) c3 (hA.2.1 q).1 (hN' q), ⟨by rw [g0]; exact u1, by rw [g0]; exact u2, u3, fun k hk => ?_⟩, fun k hk => ⟨by rw [g 73 (by omega) (by decide) (by omega)]; exact (hV k hk).1, fun q => ?_⟩, ⟨?_, ?_, x3, fun k hk => ?_⟩⟩
  · obtain ⟨x, hx, r⟩ := u4 k hk
    have hi : 2 + (ps + k) % 8 < 12 := by have := Nat.mod_lt (ps + k) (show 0 < 8 by decide); omega
    exact ⟨x, hx, rbx _ x _ hi hx (hA.2.2.1 k hk).1 r⟩
  · obtain ⟨x, hx, r⟩ := (hV k hk).2 q
    exact ⟨x, hx, rbx _ x _ (by omega) hx (hA.2.2.2 k hk q).1 r⟩
  · rw [← hIS 78 3 (by omega)]
    exact x1
  · rw [← hIS 78 1 (by omega)]
    exact x2
  · rw [← hIS tx' k b2]
    exact x4 k hk
/-- a writing goes well -/
theorem txt_step {C : AT Int32} {M : HpT → Option (Int32 × HpT)} {g : Nat → HpT → AT Int32} (hC : CR σ G J b bs ps P tx E I N U V T) (hM : MR σ G E I N U V T) (hA : AW E I N U V T) (hD : DK σ)
    (h1 : TOP (wc σ G J) tx C (nI T'.1) T' 0 0) (h2 : ∀ S G1, MR S G1 E I N U V T → G1 88 = G 88 → M (wi S G1) = some (nI T'.1, wi S (mtG (up G1 80 0 0) T'))) :
    STEP σ (bnO (bnC C (fun x1 s2 => bnP (sJ s2 (some 89) 0 x1.toInt64) (fun s11 => some (.ok 0, s11, 0, 0))) g) (fun x3 s5 => bnS (M s5) (fun x12 s14 => bnP (fX10_thrown (some 80) s14) (fun x15 => (if x15 = x3 then (if x3 = 0 then bnP (aJ s14 (some 89) 0) (fun x17 => (if (lg_cmp x17 ((x12).toInt64)) = 0 then some (.ok (), s14, 0, 0) else none)) else some (.ok (), s14, 0, 0)) else none))))) := by
  obtain ⟨S, tx', i, j, eC, h⟩ := h1
  rw [Nat.zero_add, Nat.zero_add] at h
  have ht := hC.1.1.2.2.2.2.2.2.2.2.1
  have hn := hC.1.1.1.1
  have m2 := mr_tx hM h ht
  have c2 := cr_tx hC hA h
  obtain ⟨d1, d2⟩ := h.2.2.2.1
  have d1 : hN σ ≤ hN S := d1
  have g88 : S.2.2.2.1 88 = G 88 := (d2 88 (show 88 < hN σ by omega)).2.2.2.1 (by decide) (by omega)
  have dk : DK S := ⟨⟨(d2 89 (show 89 < hN σ by omega)).1.trans hD.1.1, (d2 89 (show 89 < hN σ by omega)).2.1.trans hD.1.2⟩, (d2 90 (show 90 < hN σ by omega)).1.trans hD.2.1, (d2 90 (show 90 < hN σ by omega)).2.1.trans hD.2.2⟩
  have hA2 : AW E I N U V T' := ⟨⟨hA.1.1, hA.1.2.1, hA.1.2.2.1, hA.1.2.2.2.1, h.2.2.1.2.2.2.2⟩, hA.2.1, hA.2.2.1, hA.2.2.2⟩
  have m3 : MR S (mtG (up S.2.2.2.1 80 0 0) T') E I N U V T' := by
    obtain ⟨mk, ⟨e1, e2, e3⟩, ⟨i1, i2⟩, ⟨n1, n2⟩, ⟨u1, u2⟩, hV, -⟩ := m2
    have o : ∀ k, k ≠ 23 → k ≠ 0 → mtG (up S.2.2.2.1 80 0 0) T' 80 k = S.2.2.2.1 80 k := fun k h23 h0 => by rw [mt_k h23, up_k h0]
    have gg : ∀ a, a ≠ 80 → a ≠ 88 → mtG (up S.2.2.2.1 80 0 0) T' a = S.2.2.2.1 a := fun a h8 h88 => by rw [mt_o h8 h88, up_a h8]
    refine ⟨mk, ⟨by rw [o 6 (by decide) (by decide)]; exact e1, by rw [o 10 (by decide) (by decide)]; exact e2, by rw [o 11 (by decide) (by decide)]; exact e3⟩, ⟨by rw [o 9 (by decide) (by decide)]; exact i1, by rw [gg 86 (by decide) (by decide)]; exact i2⟩, ⟨by rw [gg 81 (by decide) (by decide)]; exact n1, n2⟩, ⟨by rw [o 7 (by decide) (by decide)]; exact u1, by rw [gg 83 (by decide) (by decide)]; exact u2⟩, by rw [gg 85 (by decide) (by decide), gg 84 (by decide) (by decide)]; exact hV, ⟨mt_n, fun k _ => ?_⟩⟩
    show mtG (up S.2.2.2.1 80 0 0) T' 88 k = _
    unfold mtG
    rw [up_a (by decide), cw_a]
  have eC' : C = some (.ok (nI T'.1), wc S S.2.2.2.1 S.2.2.2.2.1, i, j) := eC
  obtain ⟨y, hy⟩ := lq_gen (σ1 := S) (G1 := S.2.2.2.1) (G2 := mtG (up S.2.2.2.1 80 0 0) T') (J1 := S.2.2.2.2.1) (m := 80) (d := 89) (i := i) (j := j) (C := C) (M := M) (g := g) (r := .ok (nI T'.1)) (x := nI T'.1) ⟨dk.1.1, by omega, dk.1.2⟩ m2.1 eC' (fun J' => by
    have m2' : MR (wc S S.2.2.2.1 J') S.2.2.2.1 E I N U V T := m2
    exact h2 _ _ m2' g88) ⟨rfl, by rw [mt_k (by decide), up_eq]⟩
  have q1 : capO S = hZ S tx' := by
    unfold capO
    rw [h.1.2.2.2.1]
  have q2 : capO σ = hZ σ tx := by
    unfold capO
    rw [hC.1.1.2.2.2.2.2.1.2.2.2]
  obtain ⟨z1, z2, z3, z4⟩ := h.2.2.2.2
  have z1 : hZ σ tx ≤ hZ S tx' := z1
  have z2 : hN S + hZ σ tx ≤ hN σ + hZ S tx' := z2
  have z3 : i + hZ σ tx ≤ hZ S tx' := z3
  have z4 : j + 2 * hZ σ tx ≤ 2 * hZ S tx' := z4
  refine ⟨S, _, upJ S.2.2.2.2.1 89 0 y, i, j, hy, ⟨b, bs, ps, P, tx', E, I, N, U, V, T', ?_, m3, hA2, dk⟩, by omega, by omega, by omega⟩
  exact cr_m c2 hA2 (fun a ha => by rw [mt_o (by omega) (by omega), up_a (by omega)]) (fun a ha => upJ_a ha)
end ENVS
