/-! THE PURE LEVEL, 38: a change of the Book in use, both sides -/
def inI (cl : Bool) (I : tI) : tI := if cl = true then (0, I.2) else I
def inG (cl : Bool) (G : Nat → Nat → Int32) (a k : Nat) : Nat → Nat → Int32 := if cl = true then up G a k 0 else G
theorem inG_a {cl : Bool} {G : Nat → Nat → Int32} {a k c : Nat} (h : c ≠ a) : inG cl G a k c = G c := by
  unfold inG
  cases cl
  · rw [if_neg (by decide)]
  · rw [if_pos rfl, up_a h]
theorem inG_k {cl : Bool} {G : Nat → Nat → Int32} {a k j : Nat} (h : j ≠ k) : inG cl G a k a j = G a j := by
  unfold inG
  cases cl
  · rw [if_neg (by decide)]
  · rw [if_pos rfl, up_k h]
section CHG
variable {σ σ' : HpT} {G G' : Nat → Nat → Int32} {J J' : Nat → Nat → Int64} {b bs ps ps' tx : Nat} {P : Nat → Option Nat} {E : tE} {I I' T : tI} {N N' : Nat → Int32} {U U' : tU} {V : tV}
theorem inI_le (cl : Bool) (h : I.1 ≤ 600) : (inI cl I).1 ≤ 600 := by
  unfold inI
  cases cl
  · rw [if_neg (by decide)]
    exact h
  · rw [if_pos rfl]
    exact Nat.zero_le _
theorem cr_cl (cl : Bool) (hC : CR σ G J b bs ps P tx E I N U V T) (hA : AW E I N U V T) : CR σ (inG cl G 0 1) J b bs ps P tx E (inI cl I) N U V T := by
  unfold inG inI
  cases cl
  · rw [if_neg (by decide), if_neg (by decide)]
    exact hC
  · rw [if_pos rfl, if_pos rfl]
    exact cr_in (I' := (0, I.2)) hC hA (fun k hk => up_k hk) (up_eq _ _ _ _) (fun k hk => absurd hk (Nat.not_lt_zero k)) (fun a h0 _ => up_a h0)
theorem mr_cl (cl : Bool) (hM : MR σ G E I N U V T) : MR σ (inG cl G 80 9) E (inI cl I) N U V T := by
  unfold inG inI
  cases cl
  · rw [if_neg (by decide), if_neg (by decide)]
    exact hM
  · rw [if_pos rfl, if_pos rfl]
    exact mr_in (I' := (0, I.2)) hM (fun k hk => up_k (by omega)) (up_eq _ _ _ _) (fun k hk => absurd hk (Nat.not_lt_zero k)) (fun a ha => up_a (by omega))
/-- a change goes well: cl tells that the buffer is emptied -/
theorem chg {C : AT Int32} {M : HpT → Option (Int32 × HpT)} {g : Nat → HpT → AT Int32} {x : Int32} (cl : Bool) (hC : CR σ G J b bs ps P tx E I N U V T) (hM : MR σ G E I N U V T) (hA : AW E I N U V T) (hD : DK σ) (hE : E.1 ≠ 0) (hb : hN σ + 40 < BIG) (hw : WFN N') (hz : ∀ j, 6139 ≤ j → N' j = 0)
    (h1 : ∀ σ' G' J' ps' P' i j, fX9_remember (some 0) (wc σ G J) = some (.ok (), wc σ' G' J', i, j) → CR σ' G' J' b bs ps' P' tx E I N (pushU U N) V T → ∃ G2 J2, C = some (.ok x, wc σ' G2 J2, i, j) ∧ (∀ a, a < b ∨ b + 33 ≤ a → G2 a = inG cl G' 0 1 a) ∧ (∀ a, a < b ∨ b + 33 ≤ a → J2 a = J' a) ∧ RB G2 J2 b N')
    (h2 : ∀ S G1 G1', MR S G1 E I N U V T → fX10_remembers (some 80) (wi S (up G1 80 0 0)) = some (wi S G1') → G1' 81 = N → G1' 86 = G1 86 → G1' 80 9 = G1 80 9 → M (wi S G1) = some (x, wi S (inG cl (cw G1' 81 N') 80 9))) :
    STEP σ (bnO (bnC C (fun x1 s2 => bnP (sJ s2 (some 89) 0 x1.toInt64) (fun s11 => some (.ok 0, s11, 0, 0))) g) (fun x3 s5 => bnS (M s5) (fun x12 s14 => bnP (fX10_thrown (some 80) s14) (fun x15 => (if x15 = x3 then (if x3 = 0 then bnP (aJ s14 (some 89) 0) (fun x17 => (if (lg_cmp x17 ((x12).toInt64)) = 0 then some (.ok (), s14, 0, 0) else none)) else some (.ok (), s14, 0, 0)) else none))))) := by
  obtain ⟨σ', G', J', ps', P', i, j, e1, hC', hX, hi, hj⟩ := c_remember hC hA hE hb
  obtain ⟨G2, J2, eC, fG, fJ, rb⟩ := h1 σ' G' J' ps' P' i j e1 hC'
  have hn := hC.1.1.1.1
  have b3 := hC.1.2.2.2.1
  have hbb := cr_b hC
  have pb := hC'.1.2.2.2.2.2
  have hbz : b + 33 ≤ hN σ' := (pb.1 0 b (by decide) hC'.1.2.2.2.1).1.1
  have g80 : ∀ a, 80 ≤ a → a < 91 → G2 a = G' a := fun a h1 h2 => by rw [fG a (by omega), inG_a (by omega)]
  have m2 : MR σ' G2 E I N U V T := mr_c (exm_mr hX hM) g80
  have m3 : MR σ' (up G2 80 0 0) E I N U V T := mr_frame m2 (fun k hk => up_k (by omega)) (fun a ha => up_a (by omega))
  obtain ⟨eR, hf⟩ := m_remembers m3 hA
  have m4 := mr_push m3 hf
  generalize hf0 : remF U N (up G2 80 0 0 83) = f at eR m4
  generalize hG1 : up (cw (up G2 80 0 0) 83 f) 80 7 (nI (pushU U N).1) = G1' at eR m4
  have q81 : G1' 81 = N := m4.2.2.2.1.1
  have o80 : ∀ k, k ≠ 0 → k ≠ 7 → G1' 80 k = G2 80 k := fun k h0 h7 => by rw [← hG1, up_k h7, cw_b (by decide), up_k h0]
  have oa : ∀ a, a ≠ 80 → a ≠ 83 → G1' a = G2 a := fun a h0 h3 => by rw [← hG1, up_a h0, cw_b h3, up_a h0]
  have z0 : G1' 80 0 = 0 := by rw [← hG1, up_k (by decide), cw_b (by decide), up_eq]
  have e2 := h2 σ' G2 G1' m2 eR q81 (oa 86 (by decide) (by decide)) (o80 9 (by decide) (by decide))
  generalize hG3 : inG cl (cw G1' 81 N') 80 9 = G3 at e2
  have z3 : G3 80 0 = 0 := by rw [← hG3, inG_k (by decide), cw_b (by decide), z0]
  have e2' : ∀ J', M (wc σ' G2 J') = some (x, wc σ' G3 J') := fun J' => by
    have m2' : MR (wc σ' G2 J') G2 E I N U V T := m2
    have := h2 (wc σ' G2 J') G2 G1' m2' (by
      have m3' : MR (wc σ' G2 J') (up G2 80 0 0) E I N U V T := m3
      have eR' := (m_remembers m3' hA).1
      rw [hf0, hG1] at eR'
      exact eR') q81 (oa 86 (by decide) (by decide)) (o80 9 (by decide) (by decide))
    rw [hG3] at this
    exact this
  have hd : hK σ' 89 = 21 ∧ 89 < hN σ' ∧ hZ σ' 89 = 1 := by
    have := (exm_dk hX hn hD).1
    exact ⟨this.1, by have := hX.1.1; omega, this.2⟩
  obtain ⟨y, hy⟩ := lq_gen (g := g) (r := .ok x) hd m2.1 eC e2' ⟨rfl, z3⟩
  refine ⟨σ', G3, upJ J2 89 0 y, i, j, hy, ⟨b, bs, ps', P', tx, E, inI cl I, N', pushU U N, V, T, ?_, ?_, ?_, exm_dk hX hn hD⟩, ?_, ?_, ?_⟩
  · have hA1 := aw_push hA hE
    have c1 := cr_cl cl hC' hA1
    have hA2 : AW E (inI cl I) N (pushU U N) V T := aw_in hA1 (inI_le cl hA.1.2.1)
    have c2 := cr_book (N' := N') c1 hA2 fG fJ (fun _ => rb)
    refine cr_m c2 (aw_now hA2 fun _ => hw) (fun a ha => ?_) (fun a ha => upJ_a ha)
    rw [← hG3, inG_a (by omega), cw_b (by omega), oa a (by omega) (by omega)]
  · rw [← hG3]
    exact mr_cl cl (mr_now m4 (fun k _ => by rw [cw_b (by decide)]) (fun a ha => cw_b (by omega)) (cw_a _ _ _) hz)
  · exact aw_in (aw_now (aw_push hA hE) fun _ => hw) (inI_le cl hA.1.2.1)
  · have c := exm_cap hX hn hC.1.1.2.2.2.2.2.1.2.2.2 hC.1.1.2.2.2.2.2.2.2.1
    have := hX.1.2
    omega
  · have c := exm_cap hX hn hC.1.1.2.2.2.2.2.1.2.2.2 hC.1.1.2.2.2.2.2.2.2.1
    omega
  · have c := exm_cap hX hn hC.1.1.2.2.2.2.2.1.2.2.2 hC.1.1.2.2.2.2.2.2.2.1
    omega
end CHG
