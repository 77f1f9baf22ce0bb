/-! THE PURE LEVEL, 111: BEGIN, the class -/
section CBG
variable {σ σ' : HpT} {G G2 : Nat → Nat → Int32} {J J2 : Nat → Nat → Int64} {b bs ps tx e : Nat} {P : Nat → Option Nat} {E : tE} {I T : tI} {N : tN} {U : tU} {V : tV}
theorem cr_rd (hC : CR σ G J b bs ps P tx E I N U V T) (hA : AW E I N U V T) (f : PFR b G G2 J J2) (rb : RB G2 J2 b N) : CR (rdH σ b) G2 J2 b bs ps P tx E I N U V T ∧ EXM σ (rdH σ b) G G2 J J2 := by
  have ck := hC.1.1
  have hn := ck.1.1
  have pb := hC.1.2.2.2.2.2
  have c0 := hC.1.2.2.2.1
  obtain ⟨B, hb, htb⟩ := pb.1 0 b (by decide) c0
  have htx := ck.2.2.2.2.2.2
  have hbl : b + 33 ≤ hN σ := B.1
  have hsame : ∀ a k, a ≠ 69 → ¬ (a = 68 ∧ k = 4) → hR (rdH σ b) a k = hR σ a k := fun a k h1 h2 => by rw [rd_R hn, if_neg (by omega), if_neg h2]
  have rbo : ∀ i y M, i < 12 → P i = some y → W1 M → i ≠ 0 → RB G J y M → RB G2 J2 y M := fun i y M hi hy w1 h0 r => by
    have q := pb.1 i y hi hy
    have dj : y + 33 ≤ b ∨ b + 33 ≤ y := (pb.2.1 0 i b y (by omega) hi c0 hy).symm
    exact rb_cong w1 (fun a h1 h2 _ _ _ _ => (f a (by omega) (by omega) (by omega)).1) (fun a h1 h2 => (f a (by omega) (by omega) (by omega)).2) r
  refine ⟨⟨⟨ck_ld ck rfl (fun _ => rfl) (fun _ => rfl) (fun a k h1 h2 _ => hsame a k h1 h2), ?_, ?_, c0, hC.1.2.2.2.2.1, pb_ld pb rfl (fun _ => rfl) (fun _ => rfl) (fun a k h1 h2 _ => hsame a k h1 h2)⟩, ?_, ?_, fun _ => rb, ?_, fun k hk => ⟨?_, fun z => ?_⟩, ?_⟩, ⟨⟨Nat.le_refl _, Nat.le_add_right _ _⟩, fun a ha => ⟨rfl, rfl, fun a0 a1 a2 _ _ k => hsame a k a2 (by omega)⟩, fun a h1 h2 => f a (by omega) (by omega) (by omega)⟩⟩
  · rw [hsame 0 5 (by decide) (by decide)]
    exact hC.1.2.1
  · rw [hsame 0 6 (by decide) (by decide)]
    exact hC.1.2.2.1
  · rw [(f 0 (by decide) (by decide) (by omega)).1]
    exact hC.2.1
  · rw [(f 0 (by decide) (by decide) (by omega)).1, (f 1 (by decide) (by decide) (by omega)).1]
    exact hC.2.2.1
  · rw [(f 0 (by decide) (by decide) (by omega)).1]
    refine ⟨hC.2.2.2.2.1.1, hC.2.2.2.2.1.2.1, hC.2.2.2.2.1.2.2.1, fun k hk => ?_⟩
    obtain ⟨y, hy, ry⟩ := hC.2.2.2.2.1.2.2.2 k hk
    have := Nat.mod_lt (ps + k) (show 0 < 8 by decide)
    exact ⟨y, hy, rbo _ y _ (by omega) hy (hA.2.2.1 k hk).1 (by omega) ry⟩
  · rw [(f 73 (by decide) (by decide) (by omega)).1]
    exact (hC.2.2.2.2.2.1 k hk).1
  · obtain ⟨y, hy, ry⟩ := (hC.2.2.2.2.2.1 k hk).2 z
    exact ⟨y, hy, rbo _ y _ (by omega) hy (hA.2.2.2 k hk z).1 (by omega) ry⟩
  · rw [(f 78 (by decide) (by decide) (by omega)).1]
    exact ⟨hC.2.2.2.2.2.2.1, hC.2.2.2.2.2.2.2.1, hC.2.2.2.2.2.2.2.2.1, fun k hk => by rw [(f tx (by omega) (by omega) (by omega)).1]; exact hC.2.2.2.2.2.2.2.2.2 k hk⟩
theorem c_alone (hC : CR σ G J b bs ps P tx E I N U V T) (hA : AW E I N U V T) (hE : E.1 ≠ 0) (hS : hN σ ≤ BIG) (he : e ≤ I.1) (ha : nAc N < 10) (kd : Int32) : ∃ G2 J2, fX5_readBodyAlone (some 68) (some 1) (nI e) (some b) (wc σ G J) = some ((begQ I.2 e N kd).isSome, wc (rdH σ b) G2 J2) ∧ PFR b G G2 J J2 ∧ RB G2 J2 b N ∧ ∀ N', begQ I.2 e N kd = some N' → BC G2 J2 b N N' ∧ BI N N' kd 0 0 ∧ nWd N < nWd N' := by
  have ck := hC.1.1
  have hn := ck.1.1
  have pb := hC.1.2.2.2.2.2
  obtain ⟨B, hb, htb⟩ := pb.1 0 b (by decide) hC.1.2.2.2.1
  have h600 := hA.1.2.1
  have hw := hA.2.1 hE
  have r := hC.2.2.2.1 hE
  have h := rd_pc hn hS ⟨ck.1.2.2.1, ck.1.2.2.2.1⟩ ⟨ck.2.2.1.1, ck.2.2.1.2.1, ck.2.2.1.2.2⟩ B hb
  have e1 : pR (wc σ G J) (some 68) 5 4 (some b) = some (wc (wR σ 68 4 (some b)) G J) := by
    unfold pR
    dsimp only
    rw [if_pos ⟨ck.2.2.1.1, by show 68 < hN σ; omega⟩]
    rfl
  have r3 : hR (wR σ 68 4 (some b)) 68 3 = some 69 := by rw [hR_wR _ _ _ _ _ _ (show 68 < hN σ by omega), if_neg (by decide)]; exact ck.2.2.1.2.1
  obtain ⟨G1, J1, s1, s2, s3⟩ := c_startAt (G := G) (J := J) (f := I.2) hn hS h ⟨ck.1.2.2.1, ck.1.2.2.2.1⟩ ck.2.2.1.2.2 (e := e) (by omega) (fun k hk => hC.2.2.1.2 k (by omega))
  have f1 : PFR b G G1 J J1 := pf_69 s2
  have g1 : CGd I.2 e 0 b N G1 J1 := ⟨s3.1, s3.2, hw, rb_cong hw.1 (fun a h1 h2 _ _ _ _ => (s2 a (by omega)).1) (fun a h1 h2 => (s2 a (by omega)).2) r⟩
  obtain ⟨bb, G2, J2, b1, b2, b3⟩ := c_bodyG h g1 ha kd
  have head : fX5_readBodyAlone (some 68) (some 1) (nI e) (some b) (wc σ G J) = if bb = true then bnP (gR (wc (rdH σ b) G2 J2) (some 68) 5 3) (fun x12 => bnP (gI (wc (rdH σ b) G2 J2) x12 7 3) (fun x14 => (if x14 = 0 then some (true, wc (rdH σ b) G2 J2) else some (false, wc (rdH σ b) G2 J2)))) else some (false, wc (rdH σ b) G2 J2) := by
    unfold fX5_readBodyAlone
    rw [isK_c ck.2.2.1.1, bnP_1, e1, bnP_1, gR_c (σ := wR σ 68 4 (some b)) ck.2.2.1.1 r3, bnP_1, s1, bnP_1, b1, bnS_1]
  rw [head]
  unfold begQ
  cases qb : bdS I.2 e (nAc N) (e + 1) (bgN N kd) 0 0 0 with
  | error x =>
    rw [qb] at b3
    obtain ⟨p, g, b3⟩ := b3
    dsimp only
    refine ⟨G2, J2, ?_, pf_tr f1 b2, g.2.2.2, fun N' h => by cases h⟩
    rcases b3 with ⟨rfl, -, -⟩ | ⟨rfl, k5, -, -⟩
    · rfl
    · rw [if_pos rfl, pc_s h, bnP_1, cg_kind h g, bnP_1, k5, if_neg (show ¬ nI 5 = 0 by decide)]
      rfl
  | ok rr =>
    rw [qb] at b3
    obtain ⟨rfl, g, bc, bi, bw⟩ := b3
    dsimp only
    have h7 := tk_7 (f := I.2) (e := e) (p := rr.1)
    by_cases k0 : tkK I.2 e rr.1 = 0
    · refine ⟨G2, J2, ?_, pf_tr f1 b2, g.2.2.2, fun N' h => ?_⟩
      · rw [if_pos rfl, pc_s h, bnP_1, cg_kind h g, bnP_1, k0, if_pos (show nI 0 = 0 from rfl), if_pos rfl]
        rfl
      · rw [if_pos k0] at h
        cases h
        exact ⟨bc, bi, bw⟩
    · refine ⟨G2, J2, ?_, pf_tr f1 b2, g.2.2.2, fun N' h => ?_⟩
      · rw [if_pos rfl, pc_s h, bnP_1, cg_kind h g, bnP_1, if_neg (show ¬ nI (tkK I.2 e rr.1) = 0 from fun z => k0 ((kI h7 (by decide)).mp z)), if_neg k0]
        rfl
      · rw [if_neg k0] at h
        cases h
end CBG
