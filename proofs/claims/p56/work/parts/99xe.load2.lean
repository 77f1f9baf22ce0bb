/-! p56, pure: the text is read, 2 -/
section P56XE
variable {f : Nat → Int32} {e p q c n a k lo hi R nd kd m k1 k2 Q : Nat} {l w rest : List Nat} {N0 N N' : tN} {X : PRes}
/-- behind the first act -/
theorem fs_1 (hR : 4 ≤ R ∧ R ≤ 5) (hn : nd < 2) (hQ : 2 ≤ Q ∧ Q ≤ 4) (hkd : kd < 3) (hk : 0 < k) (b : BI (nwN R nd Q) N (nI kd) 0 0) (hW : nWd N = nWd (nwN R nd Q) + k) : FS N R nd kd k 0 ∧ ∀ g, g < k → N (127 + 13 * g + 2) = 0 ∧ N (127 + 13 * g + 4) = 0 := by
  obtain ⟨w0, -, e0, e1, e2, ez⟩ := nw_wf (r := R) (t := nd) (q := Q) (by omega) (by omega) (by omega) (by omega) (by omega)
  have a0 : nAc (nwN R nd Q) = 0 := nv_n (n := 0) (ez 3 (by decide)) (by decide)
  have d0 : nWd (nwN R nd Q) = 0 := nv_n (n := 0) (ez 4 (by decide)) (by decide)
  have c0 : nCl (nwN R nd Q) = 0 := nv_n (n := 0) (ez 5 (by decide)) (by decide)
  have hw := bi_wf w0 (by rw [a0]; decide) b (by omega) (fun q => by have := q.1; omega) rfl hkd
  obtain ⟨fr, ⟨n3, n4, n5, k0, w12⟩, ⟨⟨x1, x2, x3, x4, x5⟩, x6, x7, -⟩, -, words, -⟩ := b
  rw [a0] at fr n3 x1 x2 x3 x4 x5 x6 x7
  rw [d0] at fr words x6 x7 hW
  rw [c0] at fr
  rw [Nat.zero_add] at hW
  rw [hW] at x7 words
  have lo : ∀ j, j < 9 → j ≠ 3 → j ≠ 4 → j ≠ 5 → N j = nwN R nd Q j := fun j h1 h2 h3 h4 => fr j h2 h3 h4 (Or.inl (by omega)) (Or.inl (by omega)) (Or.inl (by omega)) (Or.inl (by omega))
  have hk2 : k ≤ 240 := by
    have := (w1_b hw.1)
    omega
  refine ⟨⟨hw, ⟨?_, nv_n (n := 1) n3 (by decide), hW, ?_⟩, ⟨(lo 1 (by decide) (by decide) (by decide) (by decide)).trans e1, x1, x2, x4, (lo 7 (by decide) (by decide) (by decide) (by decide)).trans (ez 7 (by decide)), (lo 8 (by decide) (by decide) (by decide) (by decide)).trans (ez 8 (by decide))⟩, nv_n (n := 0) x6 (by decide), ?_⟩, fun g hg => ?_⟩
  · exact nv_n ((lo 0 (by decide) (by decide) (by decide) (by decide)).trans e0) (by omega)
  · exact nv_n (n := 0) ((lo 6 (by decide) (by decide) (by decide) (by decide)).trans (ez 6 (by decide))) (by decide)
  · exact nv_n (n := k) x7 (by omega)
  · exact ⟨(words g (Nat.zero_le _) hg).1, (words g (Nat.zero_le _) hg).2.1⟩
/-- behind the second act -/
theorem fs_2 {fe : Nat} (hw0 : WFN N0) (h0 : nRm N0 = R ∧ nAc N0 = 1 ∧ nWd N0 = k1 ∧ nCp N0 = 0) (h10 : N0 10 = 1) (h7 : N0 7 = nI fe) (h8 : N0 8 = 0) (h13 : N0 13 = nI fe) (hfe : fe ≤ 200) (hk : 0 < k) (b : BI N0 N (nI 2) 0 0) (hW : nWd N = nWd N0 + k) : QN 0 N ∧ N 3 = nI 2 := by
  obtain ⟨a1, a2, a3, a4⟩ := h0
  have hno : ¬ isO N0 := fun q => by
    have := q.2
    rw [a2] at this
    rw [show N0 (9 + 9 * (1 - 1) + 1) = 1 from h10] at this
    exact absurd this (by decide)
  have hw := bi_wf hw0 (by omega) b (by omega) hno rfl (by decide)
  obtain ⟨fr, ⟨n3, n4, n5, k0, w12⟩, ⟨⟨x1, x2, x3, x4, x5⟩, x6, x7, -⟩, -, words, -⟩ := b
  rw [a2] at fr n3 x1 x2 x3 x4 x5 x6 x7
  have lo : ∀ j, j < 18 → j ≠ 3 → j ≠ 4 → j ≠ 5 → N j = N0 j := fun j h1 h2 h3 h4 => fr j h2 h3 h4 (Or.inl (by omega)) (Or.inl (by omega)) (Or.inl (by omega)) (Or.inl (by omega))
  have c2 : nAc N = 2 := nv_n (n := 2) n3 (by decide)
  have cp : nCp N = 0 := (nv_e (lo 6 (by decide) (by decide) (by decide) (by decide))).trans a4
  have e7 : N 7 = nI fe := (lo 7 (by decide) (by decide) (by decide) (by decide)).trans h7
  have e13 : N 13 = nI fe := (lo 13 (by decide) (by decide) (by decide) (by decide)).trans h13
  have x5 : N 22 = 0 := x5
  have x4 : N 21 = 0 := x4
  refine ⟨⟨hw, c2, ?_, ⟨fe, e7, by omega⟩, ⟨0, x4, Nat.le_refl _⟩, fun _ => x5⟩, n3⟩
  unfold CSH
  rw [c2, cp, e7, (lo 8 (by decide) (by decide) (by decide) (by decide)).trans h8]
  show nI fe = 0 + (0 + N 13 + N 22) + 0
  rw [e13, x5, Int32.zero_add, Int32.zero_add, Int32.add_zero, Int32.add_zero]
theorem ld_ok {v1 v2 : Int32} {c1 c2 : Nat} {st : Bool} (hR : 4 ≤ R ∧ R ≤ 5) (hn : nd < 2) (hQ : 2 ≤ Q ∧ Q ≤ 4) (hkd : kd < 3) (hc1 : c1 < 4) (hc2 : c2 < 4) (h : ATT f e 0 (txtL R nd Q kd (bodyB v1 c1) st (bodyB v2 c2))) : ∃ p N, ldS f e = .ok (p, N) ∧ N 3 = nI 2 ∧ QN 0 N := by
  unfold txtL at h
  simp only [List.append_assoc] at h
  obtain ⟨h1, h2⟩ := hd_ok (R := R) (nd := nd) (Q := Q) (l := [97, 99, 116] ++ (32 :: (kKd kd ++ (32 :: (bodyB v1 c1 ++ ((if st = true then kStr else []) ++ (kIns ++ ([48 + (if st = true then 2 else 1)] ++ (kLoan ++ bodyB v2 c2))))))))) h hR hn hQ
  have he := at_le h2
  obtain ⟨m, hm⟩ : ∃ m, e + 1 = m + 6 := ⟨e + 1 - 6, by omega⟩
  obtain ⟨w0, -, e0, e1, e2, ez⟩ := nw_wf (r := R) (t := nd) (q := Q) (by omega) (by omega) (by omega) (by omega) (by omega)
  have a0 : nAc (nwN R nd Q) = 0 := nv_n (n := 0) (ez 3 (by decide)) (by decide)
  have d0 : nWd (nwN R nd Q) = 0 := nv_n (n := 0) (ez 4 (by decide)) (by decide)
  have r0 : nRm (nwN R nd Q) = R := nv_n e0 (by omega)
  have ob0 : isOb (nwN R nd Q) = false := decide_eq_false (fun q => by have := q.1; omega)
  unfold ldS
  rw [h1]
  dsimp only
  rw [hm]
  -- the first act
  have g1 := (at_hd h2).2.2.2
  have tl : ∃ l, (if st = true then kStr else []) ++ (kIns ++ ([48 + (if st = true then 2 else 1)] ++ (kLoan ++ bodyB v2 c2))) = 59 :: l := by
    cases st
    · exact ⟨_, rfl⟩
    · exact ⟨_, rfl⟩
  obtain ⟨p1, N1, q1, g2, b1, k1⟩ := l_act (k := 2 + c1) w0 (by omega) ob0 hkd (us := uN v1) (fun k => (uN_e v1 k).2) (by rw [d0, r0]; omega) (by omega) g1 (Or.inr tl)
  rw [tx_ln (n := m + 5) h2 q1]
  obtain ⟨F1, z1⟩ := fs_1 hR hn hQ hkd (by omega) b1 k1
  -- the strike
  have S2 : ∃ p2 N2 n2, txS f e (m + 5) N1 p1 = txS f e (n2 + 4) N2 p2 ∧ ATT f e p2 (kIns ++ ([48 + (if st = true then 2 else 1)] ++ (kLoan ++ bodyB v2 c2))) ∧ FS N2 R nd kd (2 + c1) (if st = true then 1 else 0) ∧ N2 144 = 0 := by
    cases st with
    | false => exact ⟨p1, N1, m + 1, rfl, g2, F1, (z1 1 (by omega)).2⟩
    | true =>
      have g2 : ATT f e p1 (59 :: ([115, 116, 114, 105, 107, 101] ++ (32 :: 48 :: (kIns ++ ([48 + 2] ++ (kLoan ++ bodyB v2 c2)))))) := g2
      obtain ⟨p2, s1, s2, s3, s4⟩ := l_str F1 (by omega) (by omega) (z1 0 (by omega)).1 (at_hd g2).2.2.2
      exact ⟨p2, stkN N1 0 1, m, tx_ln (n := m + 4) g2 s1, s2, s3, (s4 144 (by decide) (by decide)).trans (z1 1 (by omega)).2⟩
  obtain ⟨p2, N2, n2, x2, g3, F2, z2⟩ := S2
  rw [x2]
  generalize hM : (if st = true then 1 else 0) = mk at F2
  have hM2 : (if st = true then 2 else 1) = mk + 1 := by
    cases st
    · rw [← hM]; rfl
    · rw [← hM]; rfl
  have hM3 : mk ≤ 1 := by
    cases st
    · rw [← hM]; decide
    · rw [← hM]; decide
  rw [hM2] at g3
  -- the insert
  have g3 : ATT f e p2 (59 :: ([105, 110, 115, 101, 114, 116] ++ (32 :: 49 :: 32 :: ([97, 100] ++ (59 :: ([115, 101, 97, 108] ++ (32 :: 49 :: 32 :: (48 + (mk + 1)) :: 59 :: ([97, 99, 116] ++ (32 :: (kKd 2 ++ (32 :: bodyB v2 c2))))))))))) := g3
  obtain ⟨p3, N3, q3, g4, F3, z3⟩ := l_ins F2 (by omega) (by omega) z2 (at_hd g3).2.2.2
  rw [tx_ln (n := n2 + 3) g3 q3]
  -- the seal
  obtain ⟨p4, N4, fe, q4, g5, w4, y0, y10, y7, y8, y13, hfe⟩ := l_seal F3 (by omega) (by omega) (by omega) hn z3 (at_hd g4).2.2.2
  rw [tx_ln (n := n2 + 2) g4 q4]
  -- the second act
  have ob4 : isOb N4 = false := decide_eq_false (fun q => by
    have q2 := q.2
    rw [y0.2.1] at q2
    rw [show N4 (9 + 9 * (1 - 1) + 1) = 1 from y10] at q2
    exact absurd q2 (by decide))
  have g5' : ATT f e (p4 + 1) ([97, 99, 116] ++ (32 :: (kKd 2 ++ (32 :: (bdL (uN v2) (2 + c2) ++ List.replicate (bdD (uN v2) (2 + c2)) 41 ++ []))))) := by
    have := (at_hd g5).2.2.2
    rw [List.append_nil]
    exact this
  obtain ⟨p5, N5, q5, g6, b5, k5⟩ := l_act (k := 2 + c2) (rest := []) w4 (by omega) ob4 (by decide) (us := uN v2) (fun k => (uN_e v2 k).2) (by rw [y0.1, y0.2.2.1]; omega) (by omega) g5' (Or.inl rfl)
  rw [tx_ln (n := n2 + 1) g5 q5]
  obtain ⟨hq, h3⟩ := fs_2 w4 y0 y10 y7 y8 y13 hfe (by omega) b5 k5
  refine ⟨p5, N5, ?_, h3, hq⟩
  show (if tkK f e p5 = 0 then Except.ok (p5, N5) else _) = _
  rw [if_pos (tk_en g6).1]
end P56XE
