/-! THE PURE LEVEL, 107: LOAD, the class -/
theorem ck_ld {σ σ' : HpT} {tx : Nat} (h : CK σ tx) (hn : hN σ' = hN σ) (hk : ∀ a, hK σ' a = hK σ a) (hz : ∀ a, hZ σ' a = hZ σ a) (hr : ∀ a k, a ≠ 69 → ¬ (a = 68 ∧ k = 4) → ¬ (a = 0 ∧ (k = 5 ∨ k = 6)) → hR σ' a k = hR σ a k) : CK σ' tx := by
  unfold CK LK at h ⊢
  simp only [hn, hk, hz]
  rw [hr 0 0 (by decide) (by decide) (by decide), hr 0 7 (by decide) (by decide) (by decide), hr 0 8 (by decide) (by decide) (by decide), hr 0 11 (by decide) (by decide) (by decide), hr 0 12 (by decide) (by decide) (by decide), hr 0 13 (by decide) (by decide) (by decide), hr 0 14 (by decide) (by decide) (by decide), hr 68 3 (by decide) (by decide) (by decide), hr 74 2 (by decide) (by decide) (by decide), hr 74 3 (by decide) (by decide) (by decide), hr 77 0 (by decide) (by decide) (by decide), hr 78 0 (by decide) (by decide) (by decide)]
  exact h
section LDC
variable {σ σ' : HpT} {G : Nat → Nat → Int32} {J : Nat → Nat → Int64} {b bs ps tx e : Nat} {P : Nat → Option Nat} {E : tE} {I T : tI} {N : tN} {U : tU} {V : tV}
/-- the Books, where no row of the past and no slot is another -/
theorem pb_ld (h : PB σ P tx) (hn : hN σ' = hN σ) (hk : ∀ a, hK σ' a = hK σ a) (hz : ∀ a, hZ σ' a = hZ σ a) (hr : ∀ a k, a ≠ 69 → ¬ (a = 68 ∧ k = 4) → ¬ (a = 0 ∧ (k = 5 ∨ k = 6)) → hR σ' a k = hR σ a k) : PB σ' P tx := by
  refine ⟨fun i y hi hy => ?_, h.2.1, fun k hk2 => ?_, fun k hk2 => ?_⟩
  · obtain ⟨q1, q2, q3⟩ := h.1 i y hi hy
    exact ⟨bk_ext q1 (by omega) (fun a h1 h2 => ⟨hk a, hz a, fun k => hr a k (by omega) (by omega) (by omega)⟩), q2, q3⟩
  · rw [hr 71 k (by decide) (by omega) (by omega)]
    exact h.2.2.1 k hk2
  · rw [hr 72 k (by decide) (by omega) (by omega)]
    exact h.2.2.2 k hk2
theorem pb_s1 (h : PB σ P tx) : PB σ (swP P 1) tx := by
  have sl : ∀ i, i < 12 → (if i = 0 then 1 else if i = 1 then 0 else i) < 12 := fun i hi => by
    split
    · omega
    · split <;> omega
  have dj : ∀ i j y z, i ≠ j → i < 12 → j < 12 → P i = some y → P j = some z → y + 33 ≤ z ∨ z + 33 ≤ y := fun i j y z hij hi hj hy hz => by
    rcases Nat.lt_or_ge i j with q | q
    · exact h.2.1 i j y z q hj hy hz
    · exact (h.2.1 j i z y (by omega) hi hz hy).symm
  refine ⟨fun i y hi hy => h.1 _ y (sl i hi) hy, fun i j y z hij hj hy hz => ?_, fun k hk2 => ?_, fun k hk2 => ?_⟩
  · refine dj _ _ y z ?_ (sl i (by omega)) (sl j hj) hy hz
    split
    · split
      · omega
      · split <;> omega
    · split
      · split
        · omega
        · split <;> omega
      · split
        · omega
        · split <;> omega
  · show _ = P (if 2 + k = 0 then 1 else if 2 + k = 1 then 0 else 2 + k)
    rw [if_neg (by omega), if_neg (by omega)]
    exact h.2.2.1 k hk2
  · show _ = P (if 10 + k = 0 then 1 else if 10 + k = 1 then 0 else 10 + k)
    rw [if_neg (by omega), if_neg (by omega)]
    exact h.2.2.2 k hk2
theorem c_load (hC : CR σ G J b bs ps P tx E I N U V T) (hA : AW E I N U V T) (hS : hN σ ≤ BIG) (he : e ≤ I.1) : match ldS I.2 e with
    | .ok r => ∃ σ' G' J', fX9_load (some 0) (nI e) (wc σ G J) = some (.ok (r.2 3), wc σ' G' J', 0, 0) ∧ CR σ' G' J' bs b 0 (swP P 1) tx (1, 0, nO) (0, I.2) r.2 (0, U.2) (fun _ => false, V.2) T ∧ EXM σ σ' G G' J J'
    | .error x => ∃ σ' G' J', fX9_load (some 0) (nI e) (wc σ G J) = some (.error 2, wc σ' G' J', 1, 6) ∧ CR σ' G' J' b bs ps P tx (E.1, nI x.1, nI x.2) (0, I.2) N U V T ∧ EXM σ σ' G G' J J' := by
  have ck := hC.1.1
  have hn := ck.1.1
  have pb := hC.1.2.2.2.2.2
  have c0 := hC.1.2.2.2.1
  have c1 := hC.1.2.2.2.2.1
  have h600 := hA.1.2.1
  obtain ⟨B, hbs, htb⟩ := pb.1 1 bs (by decide) c1
  obtain ⟨Bb, hbb, -⟩ := pb.1 0 b (by decide) c0
  have hdj := pb.2.1 0 1 b bs (by decide) (by decide) c0 c1
  have htx := ck.2.2.2.2.2.2
  have hbl : bs + 33 ≤ hN σ := B.1
  have hbl2 : b + 33 ≤ hN σ := Bb.1
  have g1k : ∀ a, a ≠ 0 → up G 0 1 0 a = G a := fun a ha => up_a ha
  obtain ⟨ok, G2, J2, e1, f1, r1⟩ := c_readText (σ := σ) (G := up G 0 1 0) (J := J) (c := bs) (f := I.2) (e := e) hn hS ⟨ck.1.2.2.1, ck.1.2.2.2.1⟩ ⟨ck.2.2.1.1, ck.2.2.1.2.1, ck.2.2.1.2.2⟩ B hbs (by omega) (fun k hk => by rw [g1k 1 (by decide)]; exact hC.2.2.1.2 k (by omega))
  have sr := fun a k => rd_R (σ := σ) (c := bs) hn a k
  have k0 : hK (rdH σ bs) 0 = 9 := ck.1.2.1
  have l0 : 0 < hN (rdH σ bs) := by show 0 < hN σ; omega
  have I0 : ∀ X Y k, gI (wc (rdH σ bs) X Y) (some 0) 9 k = some (X 0 k) := fun X Y k => gI_c k0 l0
  have P0 : ∀ X Y k x, pI (wc (rdH σ bs) X Y) (some 0) 9 k x = some (wc (rdH σ bs) (up X 0 k x) Y) := fun X Y k x => pI_c k0 l0
  have r7 : ∀ X Y, gR (wc (rdH σ bs) X Y) (some 0) 9 7 = some (some 68) := fun X Y => gR_c k0 (by rw [sr, if_neg (by decide), if_neg (by decide)]; exact ck.2.1.1)
  have r5 : ∀ X Y, gR (wc (rdH σ bs) X Y) (some 0) 9 5 = some (some b) := fun X Y => gR_c k0 (by rw [sr, if_neg (by decide), if_neg (by decide)]; exact hC.1.2.1)
  have r6 : ∀ X Y, gR (wc (rdH σ bs) X Y) (some 0) 9 6 = some (some bs) := fun X Y => gR_c k0 (by rw [sr, if_neg (by decide), if_neg (by decide)]; exact hC.1.2.2.1)
  have o68 : ∀ X Y k, gI (wc (rdH σ bs) X Y) (some 68) 5 k = some (X 68 k) := fun X Y k => gI_c (show hK (rdH σ bs) 68 = 5 from ck.2.2.1.1) (by show 68 < hN σ; omega)
  have f0 : ∀ a, a ≠ 0 → a ≠ 68 → a ≠ 69 → (a < bs ∨ bs + 33 ≤ a) → G2 a = G a ∧ J2 a = J a := fun a a1 a2 a3 a4 => ⟨by rw [(f1 a a2 a3 a4).1, g1k a a1], (f1 a a2 a3 a4).2⟩
  have f00 : ∀ k, k ≠ 1 → G2 0 k = G 0 k := fun k hk => by rw [(f1 0 (by decide) (by decide) (by omega)).1, up_k hk]
  have f01 : G2 0 1 = 0 := by rw [(f1 0 (by decide) (by decide) (by omega)).1, up_eq]
  have hin : inR (nI e) (nI 0) (nI I.1) = true := by
    rw [inR_nI (by omega) (by decide) (by omega), decide_eq_true (Nat.zero_le e), decide_eq_true he]
    rfl
  have eq0 : fX9_requireBytes (some 0) (nI e) (wc σ G J) = some (.ok ()) := by
    rw [c_requireBytes hC hA, hin, if_pos rfl]
  have rbo : ∀ i y M, i < 12 → i ≠ 1 → P i = some y → W1 M → RB G J y M → ∀ (G3 : Nat → Nat → Int32), (∀ a, a ≠ 0 → a ≠ 73 → G3 a = G2 a) → RB G3 J2 y M := fun i y M hi h1 hy w1 r G3 h3 => by
    have q := pb.1 i y hi hy
    have dj : y + 33 ≤ bs ∨ bs + 33 ≤ y := by
      rcases Nat.lt_or_ge i 1 with z | z
      · exact pb.2.1 i 1 y bs z (by decide) hy c1
      · exact (pb.2.1 1 i bs y (by omega) hi c1 hy).symm
    exact rb_cong w1 (fun a h1 h2 _ _ _ _ => by rw [h3 a (by omega) (by omega)]; exact (f0 a (by omega) (by omega) (by omega) (by omega)).1) (fun a h1 h2 => (f0 a (by omega) (by omega) (by omega) (by omega)).2) r
  have hsame : ∀ a k, a ≠ 69 → ¬ (a = 68 ∧ k = 4) → hR (rdH σ bs) a k = hR σ a k := fun a k h1 h2 => by rw [sr, if_neg (by omega), if_neg h2]
  have head : fX9_load (some 0) (nI e) (wc σ G J) = bnP ((if ok = true then some ((some 0 : Option Nat), (0 : Int32)) else bnP (gR (wc (rdH σ bs) G2 J2) (some 0) 9 7) (fun x20 => bnP (gI (wc (rdH σ bs) G2 J2) x20 5 0) (fun x22 => some (some 0, x22))))) (fun (j15 : Option Nat × Int32) => bnP (pI (wc (rdH σ bs) G2 J2) j15.1 9 2 j15.2) (fun s26 => bnP ((if ok = true then some ((some 0 : Option Nat), (-1 : Int32)) else bnP (gR s26 (some 0) 9 7) (fun x32 => bnP (gI s26 x32 5 1) (fun x34 => some (some 0, x34))))) (fun (j27 : Option Nat × Int32) => bnP (pI s26 j27.1 9 3 j27.2) (fun s38 => (if ok = true then bnP (gR s38 (some 0) 9 5) (fun x39 => bnP (gR s38 (some 0) 9 6) (fun x41 => bnP (pR s38 (some 0) 9 5 x41) (fun s45 => bnP (pR s45 (some 0) 9 6 x39) (fun s48 => bnP (pZ s48 (some 0) 9 4 1) (fun s51 => bnP (fX9_forgetPast (some 0) s51) (fun s54 => bnS (lpS (fX9_load_l1 (some 0)) FUEL 0 s54) (fun r56 s70 => bnP (gR s70 (some 0) 9 5) (fun x71 => bnP (gI s70 x71 1 2) (fun x73 => some (.ok x73, s70, 0, 0)))))))))) else some (.error 2, s38, 1, 6)))))) := by
    unfold fX9_load
    rw [cr_o hC, bnP_1, eq0, bnXA_1, cr_P hC, bnP_1, gR_c ck.1.2.1 ck.2.1.1, bnP_1, gR_c ck.1.2.1 ck.1.2.2.2.2, bnP_1, gR_c ck.1.2.1 hC.1.2.2.1, bnP_1, e1, bnS_1]
  cases q : ldS I.2 e with
  | error x =>
    rw [q] at r1
    obtain ⟨rfl, y1, y2⟩ := r1
    generalize hG3 : up (up G2 0 2 (nI x.1)) 0 3 (nI x.2) = G3
    have o3 : ∀ a, a ≠ 0 → G3 a = G2 a := fun a ha => by rw [← hG3, up_a ha, up_a ha]
    have z3 : ∀ k, k ≠ 2 → k ≠ 3 → G3 0 k = G2 0 k := fun k h1 h2 => by rw [← hG3, up_k h2, up_k h1]
    refine ⟨rdH σ bs, G3, J2, ?_, ⟨⟨ck_ld ck rfl (fun _ => rfl) (fun _ => rfl) (fun a k h1 h2 _ => hsame a k h1 h2), ?_, ?_, c0, c1, pb_ld pb rfl (fun _ => rfl) (fun _ => rfl) (fun a k h1 h2 _ => hsame a k h1 h2)⟩, ⟨?_, ?_, ?_⟩, ⟨?_, fun k hk => absurd hk (Nat.not_lt_zero _)⟩, fun hE => ?_, ⟨?_, ?_, hC.2.2.2.2.1.2.2.1, fun k hk => ?_⟩, fun k hk => ⟨?_, fun z => ?_⟩, ⟨?_, ?_, hC.2.2.2.2.2.2.2.2.1, fun k hk => ?_⟩⟩, ⟨⟨Nat.le_refl _, Nat.le_add_right _ _⟩, fun a ha => ⟨rfl, rfl, fun a0 a1 a2 _ _ k => hsame a k a2 (by omega)⟩, fun a h1 h2 => ⟨by rw [o3 a (by omega)]; exact (f0 a (by omega) (by omega) (by omega) (by omega)).1, (f0 a (by omega) (by omega) (by omega) (by omega)).2⟩⟩⟩
    · rw [head, if_neg (by decide), r7, bnP_1, o68, bnP_1, y1, bnP_1]
      dsimp only
      rw [P0, bnP_1, if_neg (by decide), r7, bnP_1, o68, bnP_1, up_a (by decide), y2, bnP_1]
      dsimp only
      rw [P0, bnP_1, hG3, if_neg (by decide)]
    · rw [hsame 0 5 (by decide) (by decide)]
      exact hC.1.2.1
    · rw [hsame 0 6 (by decide) (by decide)]
      exact hC.1.2.2.1
    · rw [z3 4 (by decide) (by decide), f00 4 (by decide)]
      exact hC.2.1.1
    · rw [← hG3, up_k (by decide), up_eq]
    · rw [← hG3, up_eq]
    · rw [z3 1 (by decide) (by decide)]
      exact f01
    · exact rbo 0 b N (by decide) (by decide) c0 (hA.2.1 hE).1 (hC.2.2.2.1 hE) G3 (fun a a1 _ => o3 a a1)
    · rw [z3 10 (by decide) (by decide), f00 10 (by decide)]
      exact hC.2.2.2.2.1.1
    · rw [z3 9 (by decide) (by decide), f00 9 (by decide)]
      exact hC.2.2.2.2.1.2.1
    · obtain ⟨y, hy, ry⟩ := hC.2.2.2.2.1.2.2.2 k hk
      have := Nat.mod_lt (ps + k) (show 0 < 8 by decide)
      exact ⟨y, hy, rbo _ y _ (by omega) (by omega) hy (hA.2.2.1 k hk).1 ry G3 (fun a a1 _ => o3 a a1)⟩
    · rw [o3 73 (by decide), (f0 73 (by decide) (by decide) (by decide) (by omega)).1]
      exact (hC.2.2.2.2.2.1 k hk).1
    · obtain ⟨y, hy, ry⟩ := (hC.2.2.2.2.2.1 k hk).2 z
      exact ⟨y, hy, rbo _ y _ (by omega) (by omega) hy (hA.2.2.2 k hk z).1 ry G3 (fun a a1 _ => o3 a a1)⟩
    · rw [o3 78 (by decide), (f0 78 (by decide) (by decide) (by decide) (by omega)).1]
      exact hC.2.2.2.2.2.2.1
    · rw [o3 78 (by decide), (f0 78 (by decide) (by decide) (by decide) (by omega)).1]
      exact hC.2.2.2.2.2.2.2.1
    · rw [o3 tx (by omega), (f0 tx (by omega) (by omega) (by omega) (by omega)).1]
      exact hC.2.2.2.2.2.2.2.2.2 k hk
  | ok r =>
    rw [q] at r1
    obtain ⟨rfl, g⟩ := r1
    generalize hσ : wR (wR (rdH σ bs) 0 5 (some bs)) 0 6 (some b) = σ2
    have tk : ∀ a, hK σ2 a = hK σ a := fun a => by rw [← hσ]; rfl
    have tz : ∀ a, hZ σ2 a = hZ σ a := fun a => by rw [← hσ]; rfl
    have tn : hN σ2 = hN σ := by rw [← hσ]; rfl
    have tr : ∀ a k, hR σ2 a k = if a = 0 ∧ k = 6 then some b else if a = 0 ∧ k = 5 then some bs else hR (rdH σ bs) a k := fun a k => by
      rw [← hσ, hR_wR _ _ _ _ _ _ (show 0 < hN (wR (rdH σ bs) 0 5 (some bs)) from l0), hR_wR _ _ _ _ _ _ l0]
    have tr2 : ∀ a k, a ≠ 69 → ¬ (a = 68 ∧ k = 4) → ¬ (a = 0 ∧ (k = 5 ∨ k = 6)) → hR σ2 a k = hR σ a k := fun a k h1 h2 h3 => by rw [tr, if_neg (by omega), if_neg (by omega), hsame a k h1 h2]
    have J0 : ∀ X Y k, gI (wc σ2 X Y) (some 0) 9 k = some (X 0 k) := fun X Y k => gI_c (by rw [tk]; exact ck.1.2.1) (by omega)
    have Q0 : ∀ X Y k x, pI (wc σ2 X Y) (some 0) 9 k x = some (wc σ2 (up X 0 k x) Y) := fun X Y k x => pI_c (by rw [tk]; exact ck.1.2.1) (by omega)
    generalize hG3 : up (up (up (up (up G2 0 2 0) 0 3 (-1)) 0 4 1) 0 9 0) 0 10 0 = G3
    have o3 : ∀ a, a ≠ 0 → G3 a = G2 a := fun a ha => by rw [← hG3, up_a ha, up_a ha, up_a ha, up_a ha, up_a ha]
    have z3 : ∀ k, k ≠ 2 → k ≠ 3 → k ≠ 4 → k ≠ 9 → k ≠ 10 → G3 0 k = G2 0 k := fun k h1 h2 h3 h4 h5 => by rw [← hG3, up_k h5, up_k h4, up_k h3, up_k h2, up_k h1]
    generalize hG4 : cw G3 73 (fun j => if j < 2 then 0 else G3 73 j) = G4
    have o4 : ∀ a, a ≠ 73 → G4 a = G3 a := fun a ha => by rw [← hG4, cw_b ha]
    have lp : lpS (fX9_load_l1 (some 0)) FUEL 0 (wc σ2 G3 J2) = some ((), wc σ2 G4 J2) := by
      rw [← hG4]
      refine lpS_f 2 (fun k => nI k) (fun k => wc σ2 (cw G3 73 (fun j => if j < k then 0 else G3 73 j)) J2) rfl ?_ (by decide) (fun k hk => ?_) ?_
      · show wc σ2 (cw G3 73 _) J2 = wc σ2 G3 J2
        rw [show (fun j => if j < 0 then (0 : Int32) else G3 73 j) = G3 73 from funext fun j => if_neg (by omega), cw_self]
      · unfold fX9_load_l1
        rw [if_neg (show ¬ 2 ≤ nI k from nI_ge (b := 2) hk (by decide)), gR_c (σ := σ2) (by rw [tk]; exact ck.1.2.1) (show hR σ2 0 12 = some 73 by rw [tr2 0 12 (by decide) (by decide) (by decide)]; exact ck.2.1.2.2.2.1), bnP_1, sZ_c (σ := σ2) (n := k) (by rw [tk]; exact ck.2.2.2.1.2.2.2.2.1) (by omega) (by rw [tz]; exact ck.2.2.2.1.2.2.2.2.2) hk (by decide), bnP_1, nI_a1, up_cw]
        show some (Sum.inl (nI (k + 1)), wc σ2 (cw G3 73 (u1 (fun j => if j < k then 0 else G3 73 j) k 0)) J2) = _
        congr 4
        funext j
        unfold u1
        by_cases z : j = k
        · rw [if_pos z, if_pos (by omega)]
        · rw [if_neg z]
          dsimp only
          by_cases y : j < k
          · rw [if_pos y, if_pos (by omega)]
          · rw [if_neg y, if_neg (by omega)]
      · unfold fX9_load_l1
        rw [if_pos (show 2 ≤ nI 2 by decide)]
    have Bs : BK σ2 bs := bk_ext B (by omega) fun a h1 h2 => ⟨tk a, tz a, fun k => tr2 a k (by omega) (by omega) (by omega)⟩
    have rbn : RB G4 J2 bs r.2 := rb_cong g.2.2.1.1 (fun a h1 h2 _ _ _ _ => by rw [o4 a (by omega), o3 a (by omega)]) (fun _ _ _ => rfl) g.2.2.2
    have sw : ∀ i, 2 ≤ i → swP P 1 i = P i := fun i hi => by
      unfold swP
      rw [if_neg (by omega), if_neg (by omega)]
    refine ⟨σ2, G4, J2, ?_, ⟨⟨ck_ld ck tn tk tz tr2, ?_, ?_, c1, c0, pb_s1 (pb_ld pb tn tk tz tr2)⟩, ⟨?_, ?_, ?_⟩, ⟨?_, fun k hk => absurd hk (Nat.not_lt_zero _)⟩, fun _ => rbn, ⟨?_, ?_, by decide, fun k hk => absurd hk (Nat.not_lt_zero _)⟩, fun k hk => ⟨?_, fun z => by cases z⟩, ⟨?_, ?_, by rw [tz]; exact hC.2.2.2.2.2.2.2.2.1, fun k hk => ?_⟩⟩, ⟨⟨by omega, by omega⟩, fun a ha => ⟨tk a, tz a, fun a0 a1 a2 _ _ k => tr2 a k a2 (by omega) (by omega)⟩, fun a h1 h2 => ⟨by rw [o4 a (by omega), o3 a (by omega)]; exact (f0 a (by omega) (by omega) (by omega) (by omega)).1, (f0 a (by omega) (by omega) (by omega) (by omega)).2⟩⟩⟩
    · have p5 : ∀ X Y, pR (wc (rdH σ bs) X Y) (some 0) 9 5 (some bs) = some (wc (wR (rdH σ bs) 0 5 (some bs)) X Y) := fun X Y => by
        unfold pR
        dsimp only
        rw [if_pos ⟨k0, by exact l0⟩]
        rfl
      have p6 : ∀ X Y, pR (wc (wR (rdH σ bs) 0 5 (some bs)) X Y) (some 0) 9 6 (some b) = some (wc σ2 X Y) := fun X Y => by
        unfold pR
        dsimp only
        rw [if_pos ⟨k0, by exact l0⟩, ← hσ]
        rfl
      rw [head, if_pos rfl, bnP_1]
      dsimp only
      rw [P0, bnP_1, if_pos rfl, bnP_1]
      dsimp only
      rw [P0, bnP_1, if_pos rfl, r5, bnP_1, r6, bnP_1, p5, bnP_1, p6, bnP_1]
      unfold pZ fX9_forgetPast
      rw [if_pos (Or.inr rfl), Q0, bnP_1, isK_c (σ := σ2) (by rw [tk]; exact ck.1.2.1), bnP_1, Q0, bnP_1, Q0, bnP_1, bnP_1, hG3, lp, bnS_1, gR_c (σ := σ2) (by rw [tk]; exact ck.1.2.1) (show hR σ2 0 5 = some bs by rw [tr, if_neg (by decide), if_pos ⟨rfl, rfl⟩]), bnP_1, bk_I Bs, bnP_1, rbn.1.2.2.1]
    · rw [tr, if_neg (by decide), if_pos ⟨rfl, rfl⟩]
    · rw [tr, if_pos ⟨rfl, rfl⟩]
    · rw [o4 0 (by decide), ← hG3, up_k (by decide), up_k (by decide), up_eq]
    · rw [o4 0 (by decide), ← hG3, up_k (by decide), up_k (by decide), up_k (by decide), up_k (by decide), up_eq]
    · rw [o4 0 (by decide), ← hG3, up_k (by decide), up_k (by decide), up_k (by decide), up_eq]
      rfl
    · rw [o4 0 (by decide), z3 1 (by decide) (by decide) (by decide) (by decide) (by decide)]
      exact f01
    · rw [o4 0 (by decide), ← hG3, up_eq]
      rfl
    · rw [o4 0 (by decide), ← hG3, up_k (by decide), up_eq]
      rfl
    · rw [← hG4, cw_a, if_pos hk]
      rfl
    · rw [o4 78 (by decide), o3 78 (by decide), (f0 78 (by decide) (by decide) (by decide) (by omega)).1]
      exact hC.2.2.2.2.2.2.1
    · rw [o4 78 (by decide), o3 78 (by decide), (f0 78 (by decide) (by decide) (by decide) (by omega)).1]
      exact hC.2.2.2.2.2.2.2.1
    · rw [o4 tx (by omega), o3 tx (by omega), (f0 tx (by omega) (by omega) (by omega) (by omega)).1]
      exact hC.2.2.2.2.2.2.2.2.2 k hk
end LDC
