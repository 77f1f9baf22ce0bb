/-! p56, pure: the law is true -/
section P56XF
variable {σ : HpT} {G : Nat → Nat → Int32} {J : Nat → Nat → Int64} {b bs ps tx : Nat} {P : Nat → Option Nat} {E : tE} {I T : tI} {N : tN} {U : tU} {V : tV}
/-- a row of ints is made -/
theorem mk_ar (hC : CR σ G J b bs ps P tx E I N U V T) (hA : AW E I N U V T) (hM : MM σ G) (hS : hN σ < BIG) : ∃ G' J', nwR 21 100 (wc σ G J) = some (.ok (some (hN σ)), wc (wN σ 21 100) G' J', 1, 100) ∧ CR (wN σ 21 100) G' J' b bs ps P tx E I N U V T ∧ MM (wN σ 21 100) G' ∧ AR (wN σ 21 100) (hN σ) ∧ ∀ w, AR σ w → AR (wN σ 21 100) w ∧ w ≠ hN σ := by
  have fr := fr_wN σ 21 100 (fun _ => False)
  have h91 := hC.1.1.1.1
  obtain ⟨m1, m2, m3, m4⟩ := hM
  refine ⟨fun b j => if b = σ.1 then 0 else G b j, fun b j => if b = σ.1 then 0 else J b j, ?_, ?_, ⟨(fr.2 80 (by omega)).1.trans m1, (fr.2 80 (by omega)).2.1.trans m2, ?_, ?_⟩, ⟨?_, ?_, h91, ?_⟩, fun w hw => ⟨⟨(fr.2 w hw.2.2.2).1.trans hw.1, (fr.2 w hw.2.2.2).2.1.trans hw.2.1, hw.2.2.1, by have := fr.1; have := hw.2.2.2; omega⟩, by have := hw.2.2.2; omega⟩⟩
  · exact nwR_1 (κ := 21) (n := 100) (σ := wc σ G J) hS (by decide)
  · have pb := hC.1.2.2.2.2.2
    have pb' : PB (wN σ 21 100) P tx := by
      refine ⟨fun i x hi hx => ⟨bk_ext (pb.1 i x hi hx).1 fr.1 (fun a h1 h2 => ?_), (pb.1 i x hi hx).2⟩, pb.2.1, fun k hk => ?_, fun k hk => ?_⟩
      · have hax : a < hN σ := by
          have := (pb.1 i x hi hx).1.1
          omega
        exact ⟨(fr.2 a hax).1, (fr.2 a hax).2.1, fun k => ((fr.2 a hax).2.2 (fun q => q) k).2⟩
      · rw [((fr.2 71 (by omega)).2.2 (fun q => q) k).2]
        exact pb.2.2.1 k hk
      · rw [((fr.2 72 (by omega)).2.2 (fun q => q) k).2]
        exact pb.2.2.2 k hk
    refine cr_ext hC hA fr.1 (fun a ha => ⟨(fr.2 a ha).1, (fr.2 a ha).2.1, ?_, ?_⟩) (fun a ha _ _ k => ((fr.2 a ha).2.2 (fun q => q) k).2) pb' (fun i x _ h => h)
    · funext j
      exact if_neg (show ¬ a = σ.1 by have : hN σ = σ.1 := rfl; omega)
    · funext j
      exact if_neg (show ¬ a = σ.1 by have : hN σ = σ.1 := rfl; omega)
  · show (if 80 = σ.1 then 0 else G 80 5) = 0
    rw [if_neg (show ¬ 80 = σ.1 by have : hN σ = σ.1 := rfl; omega)]
    exact m3
  · show (if 80 = σ.1 then 0 else G 80 6) = 0
    rw [if_neg (show ¬ 80 = σ.1 by have : hN σ = σ.1 := rfl; omega)]
    exact m4
  · rw [hK_wN, if_pos rfl]
  · rw [hZ_wN, if_pos rfl]
  · rw [hN_wN]
    omega
end P56XF
theorem law_ok (L : Nat) (xs : Nat → Int32) : ∃ s a b, fL_law (σE L xs) = some ((.ok () : Except Nat Unit), s, a, b) ∧ a ≤ 600086 ∧ b ≤ 7301442 := by
  obtain ⟨R, nd, Q, kd, st, v1, c1, v2, c2, hb, S, i, j, x, σ', i2, j2, G', J, f, e, e1, hi, hj, e2, hi2, hj2, hn, e3, hC, hA, he, hf, ⟨m1, m2⟩, m5, m6, h128⟩ := told_1 L xs
  obtain ⟨b1, b2, b3, b4, b5, b6, b7, b8⟩ := hb
  have hat : ATT f (txtL R nd Q kd (bodyB v1 c1) st (bodyB v2 c2)).length 0 (txtL R nd Q kd (bodyB v1 c1) st (bodyB v2 c2)) := ⟨fun k hk => by rw [Nat.zero_add]; exact hf k hk, Nat.zero_add _, h128⟩
  obtain ⟨pE, N, hld, h3, hQ⟩ := ld_ok ⟨b1, b2⟩ b3 ⟨b4, b5⟩ b6 b7 b8 hat
  generalize txtL R nd Q kd (bodyB v1 c1) st (bodyB v2 c2) = Lt at *
  have hbig : BIG = 1000000 := rfl
  have hL := c_load hC hA (by omega) he
  dsimp only at hL
  rw [hld] at hL
  obtain ⟨σ2, G2, J2, e4, hC2, ⟨hx1, hx1'⟩, hx2, hx3⟩ := hL
  dsimp only at e4 hC2
  rw [h3] at e4
  have h91 := hC.1.1.1.1
  have hA2 : AW (1, 0, nO) (0, f) N (0, fun _ _ => 0) (fun _ => false, fun _ _ => 0) (0, fun _ => 0) := ⟨⟨Or.inr rfl, Nat.zero_le _, fun q => absurd q (by decide), Nat.zero_le _, ⟨Nat.zero_le _, fun k hk => absurd hk (Nat.not_lt_zero _)⟩⟩, fun _ => hQ.1, fun k hk => absurd hk (Nat.not_lt_zero _), fun k _ q => by cases q⟩
  have hM2 : MM σ2 G2 := by
    have q := hx2 80 (by omega)
    have g := (hx3 80 (by decide) (by decide)).1
    exact ⟨q.1.trans m1, q.2.1.trans m2, by rw [g]; exact m5, by rw [g]; exact m6⟩
  obtain ⟨G3, J3, e5, hC3, hM3, hw3, -⟩ := mk_ar hC2 hA2 hM2 (by omega)
  have n3 : hN (wN σ2 21 100) = hN σ2 + 1 := hN_wN _ _ _
  obtain ⟨G4, J4, e6, hC4, hM4, hw4, hk4⟩ := mk_ar hC3 hA2 hM3 (by omega)
  have n4 : hN (wN (wN σ2 21 100) 21 100) = hN σ2 + 1 + 1 := by rw [hN_wN, n3]
  obtain ⟨hw5, hne⟩ := hk4 _ hw3
  have hlst : LST (wN (wN σ2 21 100) 21 100) G4 J4 N (fun _ => false, fun _ _ => 0) (hN σ2) (hN (wN σ2 21 100)) (0, f) := ⟨_, _, _, _, _, _, _, _, hC4, hA2, rfl, hM4, hw5, hw4, hne⟩
  obtain ⟨σ5, G5, J5, N5, V5, I5, i5, j5, e7, hlst5, hQ5, hi5, hj5⟩ := rd_all 18 FUEL 0 _ _ _ _ _ _ (Nat.zero_add _) (show 18 < 200000 by decide) hlst rfl hQ (by omega)
  have hg : fX9_gap (some 0) (wc σ5 G5 J5) = some (.ok 0) := by
    rw [lq_gap hlst5, gap0 hQ5.1 hQ5.2.1 hQ5.2.2.1]
  -- the law's beginning, taken apart
  unfold prC at e1
  rcases bnA_s e1 with ⟨e9, -, q⟩ | ⟨x1, s3, p1, p2, p3, p4, p5, p6, p7, p8⟩
  · cases q
  obtain ⟨u, s10, r1, r2, r3, r4, r5, r6, r7, r8⟩ := bnO_s p6
  rcases bnA_s r6 with ⟨e9, -, q⟩ | ⟨x15, s17, t1, t2, t3, t4, t5, t6, t7, t8⟩
  · cases q
  rcases bnA_s t6 with ⟨e9, -, q⟩ | ⟨x22, s24, w1, w2, w3, w4, w5, w6, w7, w8⟩
  · cases q
  obtain ⟨u2, s31, y1, y2, y3, y4, y5, y6, y7, y8⟩ := bnO_s w6
  cases y6
  refine ⟨wc σ5 G5 J5, p1 + (r1 + (t1 + (w1 + (y1 + (i2 + (0 + (1 + (1 + (i5 + 0))))))))), p2 + (r2 + (t2 + (w2 + (y2 + (j2 + (0 + (100 + (100 + (j5 + 0))))))))), ?_, by omega, by omega⟩
  unfold fL_law
  rw [p5, bnA_ok, r5, bnO_ok, t5, bnA_ok, w5, bnA_ok, y5, bnO_ok, e2, bnO_ok, e3, bnS_1, e4, bnO_ok, if_pos (show nI 2 = 2 from rfl), bnP_1, e5, bnA_ok, e6, bnA_ok, show lpA (fL_law_l1 (some 0) (some 80) (some (hN σ2)) (some (hN (wN σ2 21 100)))) FUEL 0 (wc (wN (wN σ2 21 100) 21 100) G4 J4) = _ from e7, bnA_ok, hg, exO_1, bnP_1, if_pos (show (0 : Int32) = 0 from rfl), bnP_1]
  rfl
/-! the law's body, walked -/
theorem whole_start {p : Program} {e : Env} {s : State} {m : MethodId} {below : List Frame} {meth : Method} {c : Code} (l : Launch) (hflags : l.flags = flags0) {b L : Nat} {xs : Nat → Int32} (hL : L ≤ 260) (C0 : lw_At p s m meth c b L xs) : W p l e room_1 s m #[Value.ref b] below meth c s.heap [] 0 0 (lw_Z below #[Value.ref b] s) (entryFrame m ([Value.ref b] : List Value).toArray 18) := by
  obtain ⟨S, a9, b9, h, h1, h2⟩ := law_ok L xs
  exact whole_of l hflags h h1 h2 C0
