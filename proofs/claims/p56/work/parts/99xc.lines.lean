/-! p56, pure: the lines are read -/
section P56XC
variable {f : Nat → Int32} {e p q c n a k lo hi : Nat} {l w rest : List Nat} {N0 N N' : tN} {kd : Int32} {X : PRes}
theorem nm_d (h : ATT f e p (32 :: c :: l)) (hc : 48 ≤ c ∧ c ≤ 57) (hl : ∀ x l', l = x :: l' → ¬ (48 ≤ x ∧ x ≤ 57)) (hlo : lo ≤ c - 48 ∧ c - 48 < hi) : nmS f e p lo hi = .ok (c - 48) ∧ tkX f e p = p + 2 ∧ ATT f e (p + 2) l := by
  obtain ⟨-, hp, -, h3⟩ := at_hd h
  obtain ⟨t1, t2, t3, t4, t5⟩ := tk_di h3 hc hl
  obtain ⟨s1, s2, s3⟩ := tk_sm (tk_bl h)
  refine ⟨?_, s1.trans t2, t5⟩
  unfold nmS
  rw [s2, t3, if_pos rfl, s3, t4, if_pos hlo]
theorem kw_b (h : ATT f e p (32 :: l)) (j : Nat) : kw f e p j = kw f e (p + 1) j := by
  have s0 := tk_bl h
  obtain ⟨s1, s2, s3⟩ := tk_sm s0
  unfold kw kwB
  rw [s0, s1, s2]
theorem hd_ok {R nd Q : Nat} (h : ATT f e 0 ([98, 111, 111, 107] ++ (32 :: (48 + R) :: 32 :: (48 + nd) :: 32 :: (48 + Q) :: 59 :: l))) (hR : 4 ≤ R ∧ R ≤ 5) (hn : nd < 2) (hQ : 2 ≤ Q ∧ Q ≤ 4) : hdS f e = .ok (10, nwN R nd Q) ∧ ATT f e 10 (59 :: l) := by
  obtain ⟨t1, t2, t3, -, t5⟩ := tk_wo h (by decide) (by decide) (by decide) (fun x l' q => by cases q; decide)
  have k1 := kw_t h (by decide) (by decide) (by decide) (fun x l' q => by cases q; decide) 1
  have t2 : tkX f e 0 = 4 := t2
  obtain ⟨a1, a2, a3⟩ := nm_d (lo := 4) (hi := 21) t5 (by omega) (fun x l' q => by cases q; decide) (by omega)
  obtain ⟨b1, b2, b3⟩ := nm_d (lo := 0) (hi := 5) a3 (by omega) (fun x l' q => by cases q; decide) (by omega)
  obtain ⟨c1, c2, c3⟩ := nm_d (lo := 2) (hi := 5) b3 (by omega) (fun x l' q => by cases q; decide) (by omega)
  have a1 : nmS f e 4 4 21 = .ok (48 + R - 48) := a1
  have a2 : tkX f e 4 = 6 := a2
  have b1 : nmS f e 6 0 5 = .ok (48 + nd - 48) := b1
  have b2 : tkX f e 6 = 8 := b2
  have c1 : nmS f e 8 2 5 = .ok (48 + Q - 48) := c1
  have c2 : tkX f e 8 = 10 := c2
  rw [Nat.add_sub_cancel_left] at a1 b1 c1
  refine ⟨?_, c3⟩
  unfold hdS
  rw [k1, decide_eq_true (show byS 1 = List.map nI [98, 111, 111, 107] by decide), if_pos rfl, t2, a1, a2, b1, b2, c1, c2]
theorem tx_ln {p' : Nat} (h : ATT f e p (59 :: l)) (q : lnLine f e (p + 1) N = .ok (p', N')) : txS f e (n + 1) N p = txS f e n N' p' := by
  obtain ⟨t1, t2, t3, t4⟩ := tk_si h (Or.inr (Or.inr rfl))
  have t3 : tkK f e p = 3 := t3
  show (if tkK f e p = 0 then Except.ok (p, N) else if tkK f e p = 3 then (match lnLine f e (tkX f e p) N with
    | .error x => .error x
    | .ok r => txS f e n r.2 r.1) else .error (1, tkS f e p)) = _
  rw [t3, if_neg (by decide), if_pos rfl, t2, q]
theorem kd_w : ∀ kd, kd < 3 → (0 < (kKd kd).length ∧ (kKd kd).length ≤ 8 ∧ (∀ b ∈ kKd kd, 97 ≤ b ∧ b ≤ 122) ∧ (byS 3 = (kKd kd).map nI ↔ kd = 0) ∧ (byS 4 = (kKd kd).map nI ↔ kd = 1) ∧ (byS 5 = (kKd kd).map nI ↔ kd = 2)) := by decide
theorem l_act {kd : Nat} (hw : WFN N0) (ha : nAc N0 < 10) (ho : isOb N0 = false) (hkd : kd < 3) {us : Nat → Nat} (hu : ∀ k, us k < 32) (hk : nWd N0 + k ≤ 12 * nRm N0) (hk0 : 0 < k) (h : ATT f e p ([97, 99, 116] ++ (32 :: (kKd kd ++ (32 :: (bdL us k ++ List.replicate (bdD us k) 41 ++ rest)))))) (hl : rest = [] ∨ ∃ l, rest = 59 :: l) : ∃ p' N, lnLine f e p N0 = .ok (p', N) ∧ ATT f e p' rest ∧ BI N0 N (nI kd) 0 0 ∧ nWd N = nWd N0 + k := by
  obtain ⟨t1, t2, t3, -, t5⟩ := tk_wo h (by decide) (by decide) (by decide) (fun x l' q => by cases q; decide)
  have k1 := kw_t h (by decide) (by decide) (by decide) (fun x l' q => by cases q; decide) 2
  obtain ⟨w1, w2, w3, w4, w5, w6⟩ := kd_w kd hkd
  have t2 : tkX f e p = p + 3 := t2
  have t5 : ATT f e (p + 3) (32 :: (kKd kd ++ (32 :: (bdL us k ++ List.replicate (bdD us k) 41 ++ rest)))) := t5
  obtain ⟨-, hp, -, h3⟩ := at_hd t5
  obtain ⟨u1, u2, u3, -, u5⟩ := tk_wo h3 w1 w2 w3 (fun x l' q => by cases q; decide)
  have kk := fun j => (kw_b t5 j).trans (kw_t h3 w1 w2 w3 (fun x l' q => by cases q; decide) j)
  obtain ⟨s1, s2, s3⟩ := tk_sm (tk_bl t5)
  have hkS : kdS f e (p + 3) = some kd := by
    unfold kdS
    rw [kk 3, kk 4, kk 5]
    by_cases z0 : kd = 0
    · rw [decide_eq_true (w4.mpr z0), if_pos rfl, z0]
    · rw [decide_eq_false (fun q => z0 (w4.mp q)), if_neg (by decide)]
      by_cases z1 : kd = 1
      · rw [decide_eq_true (w5.mpr z1), if_pos rfl, z1]
      · rw [decide_eq_false (fun q => z1 (w5.mp q)), if_neg (by decide), decide_eq_true (w6.mpr (by omega)), if_pos rfl, show kd = 2 by omega]
  obtain ⟨p', N, b1, b2, b3, b4⟩ := ln_act (kd := nI kd) hw ha hu hk hk0 u5 hl
  refine ⟨p', N, ?_, b2, b3, b4⟩
  unfold lnLine lnAct
  rw [k1, decide_eq_true (show byS 2 = List.map nI [97, 99, 116] by decide), if_pos rfl, ho, if_neg (by decide), if_neg (by omega), t2, hkS]
  dsimp only
  rw [s1, u2, b1]
end P56XC
