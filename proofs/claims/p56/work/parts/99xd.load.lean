/-! p56, pure: the text is read -/
def FS (N : tN) (R nd kd k m : Nat) : Prop := WFN N ∧ (nRm N = R ∧ nAc N = 1 ∧ nWd N = k ∧ nCp N = 0) ∧ (N 1 = nI nd ∧ N 9 = nI kd ∧ N 10 = 0 ∧ N 12 = nI m ∧ N 7 = 0 ∧ N 8 = 0) ∧ aF N 0 = 0 ∧ aM N 0 = k
section P56XD
variable {f : Nat → Int32} {e p q c n a k lo hi R nd kd m : Nat} {l w rest : List Nat} {N0 N N' : tN} {X : PRes}
theorem fs_o (h : FS N R nd kd k m) : isO N ∧ isOb N = true ∧ opSz N = k ∧ ∀ i, opW N i = i := by
  obtain ⟨h1, ⟨h2, h3, h4, h5⟩, ⟨h6, h7, h8, -⟩, h9, h10⟩ := h
  have ho : isO N := by
    unfold isO
    rw [h3]
    exact ⟨by decide, h8⟩
  have hb : isOb N = true := decide_eq_true ho
  refine ⟨ho, hb, ?_, fun i => ?_⟩
  · unfold opSz
    rw [hb, if_pos rfl, h3]
    exact h10
  · unfold opW
    rw [h3]
    show aF N 0 + i = i
    rw [h9, Nat.zero_add]
theorem fs_mv {m' : Nat} (h : FS N R nd kd k m) (hw : WFN N') (h12 : N' 12 = nI m') (ho : ∀ j, j < 127 → j ≠ 12 → N' j = N j) : FS N' R nd kd k m' := by
  obtain ⟨h1, ⟨h2, h3, h4, h5⟩, ⟨h6, h7, h8, h9, h10, h11⟩, h13, h14⟩ := h
  refine ⟨hw, ⟨(nv_e (ho 0 (by decide) (by decide))).trans h2, (nv_e (ho 3 (by decide) (by decide))).trans h3, (nv_e (ho 4 (by decide) (by decide))).trans h4, (nv_e (ho 6 (by decide) (by decide))).trans h5⟩, ⟨(ho 1 (by decide) (by decide)).trans h6, (ho 9 (by decide) (by decide)).trans h7, (ho 10 (by decide) (by decide)).trans h8, h12, (ho 7 (by decide) (by decide)).trans h10, (ho 8 (by decide) (by decide)).trans h11⟩, (nv_e (ho 14 (by decide) (by decide))).trans h13, (nv_e (ho 15 (by decide) (by decide))).trans h14⟩
theorem l_str (hF : FS N R nd kd k m) (hk : 0 < k) (hk2 : k < 2 ^ 31) (h0 : N 129 = 0) (h : ATT f e p ([115, 116, 114, 105, 107, 101] ++ (32 :: 48 :: 59 :: l))) : ∃ p', lnLine f e p N = .ok (p', stkN N 0 1) ∧ ATT f e p' (59 :: l) ∧ FS (stkN N 0 1) R nd kd k (m + 1) ∧ ∀ j, j ≠ 12 → j ≠ 129 → stkN N 0 1 j = N j := by
  obtain ⟨t1, t2, t3, -, t5⟩ := tk_wo h (by decide) (by decide) (by decide) (fun x l' q => by cases q; decide)
  have kk := kw_t h (by decide) (by decide) (by decide) (fun x l' q => by cases q; decide)
  have t2 : tkX f e p = p + 6 := t2
  have t5 : ATT f e (p + 6) (32 :: 48 :: 59 :: l) := t5
  obtain ⟨o1, o2, o3, o4⟩ := fs_o hF
  obtain ⟨a1, a2, a3⟩ := nm_d (lo := 0) (hi := k) t5 (by omega) (fun x l' q => by cases q; decide) ⟨Nat.zero_le _, hk⟩
  have a1 : nmS f e (p + 6) 0 k = .ok 0 := a1
  have hA := hF.2.1.2.1
  have hs : strQ N (nI 0) = 0 := by
    unfold strQ
    rw [if_pos (show 0 < nAc N ∧ N (9 + 9 * (nAc N - 1) + 1) = 0 from o1), hA]
    show (if inR (nI 0) (nI 0) (nI (aM N 0 - 1)) = true then (if skN N (aF N 0 + (nI 0).toNatClampNeg) = true then 0 else 3) else 2) = (0 : Int32)
    rw [hF.2.2.2.2, inR_nI (by decide) (by decide) (by omega), decide_eq_true (Nat.le_refl 0), decide_eq_true (Nat.zero_le _), if_pos (show (true && true) = true from rfl), hF.2.2.2.1, nI_clamp (by decide), if_pos (show skN N (0 + 0) = true from decide_eq_true h0)]
  have hf : ∀ j, j ≠ 12 → j ≠ 129 → stkN N 0 1 j = N j := fun j h1 h2 => by
    unfold stkN
    rw [if_neg (by omega), if_neg (by rw [hA]; omega)]
  refine ⟨p + 6 + 2, ?_, a3, fs_mv hF (stk_wf hF.1 (by rw [hF.2.1.2.2.1]; omega)) ?_ (fun j h1 h2 => hf j h2 (by omega)), hf⟩
  · unfold lnLine
    rw [kk 2, kk 6, decide_eq_false (show ¬ byS 2 = List.map nI [115, 116, 114, 105, 107, 101] by decide), if_neg (by decide), decide_eq_true (show byS 6 = List.map nI [115, 116, 114, 105, 107, 101] by decide), if_pos rfl]
    unfold lnStrike
    rw [t2, o3, a1]
    dsimp only
    rw [hs, if_pos rfl, o4 0, a2]
  · unfold stkN
    rw [if_neg (by omega), hA, if_pos (by decide), hF.2.2.1.2.2.2.1]
    exact nI_a1 m
theorem l_ins (hF : FS N R nd kd k m) (hk : 1 < k) (hk2 : k < 2 ^ 31) (h0 : N 144 = 0) (h : ATT f e p ([105, 110, 115, 101, 114, 116] ++ (32 :: 49 :: 32 :: ([97, 100] ++ (59 :: l))))) : ∃ p' M, lnLine f e p N = .ok (p', M) ∧ ATT f e p' (59 :: l) ∧ FS M R nd kd k (m + 1) ∧ M 144 = nI 1 := by
  obtain ⟨t1, t2, t3, -, t5⟩ := tk_wo h (by decide) (by decide) (by decide) (fun x l' q => by cases q; decide)
  have kk := kw_t h (by decide) (by decide) (by decide) (fun x l' q => by cases q; decide)
  have t2 : tkX f e p = p + 6 := t2
  have t5 : ATT f e (p + 6) (32 :: 49 :: 32 :: ([97, 100] ++ (59 :: l))) := t5
  obtain ⟨o1, o2, o3, o4⟩ := fs_o hF
  obtain ⟨a1, a2, a3⟩ := nm_d (lo := 0) (hi := k) t5 (by omega) (fun x l' q => by cases q; decide) ⟨Nat.zero_le _, hk⟩
  have a1 : nmS f e (p + 6) 0 k = .ok 1 := a1
  have hA := hF.2.1.2.1
  obtain ⟨s1, s2, s3⟩ := tk_sm (tk_bl a3)
  obtain ⟨-, hp, -, h3⟩ := at_hd a3
  obtain ⟨u1, u2, u3, -, u5⟩ := tk_wo h3 (by decide) (by decide) (by decide) (fun x l' q => by cases q; decide)
  have hN : wN' N 1 = 0 := nv_n (n := 0) h0 (by decide)
  have hf : ∀ j, j < 127 → j ≠ 12 → intN N 1 (wLo f e (p + 6 + 2)) (wHi f e (p + 6 + 2)) j = N j := fun j h1 h2 => by
    unfold intN
    rw [if_neg (by omega), if_neg (by omega), if_neg (by omega), if_neg (by rw [hA]; omega)]
  refine ⟨p + 6 + 2 + 1 + 2, intN N 1 (wLo f e (p + 6 + 2)) (wHi f e (p + 6 + 2)), ?_, u5, fs_mv hF (int_wf hF.1 (by rw [hF.2.1.2.2.1]; omega) (by rw [hN]; decide)) ?_ hf, ?_⟩
  · unfold lnLine
    rw [kk 2, kk 6, kk 7, kk 8, decide_eq_false (show ¬ byS 2 = List.map nI [105, 110, 115, 101, 114, 116] by decide), if_neg (by decide), decide_eq_false (show ¬ byS 6 = List.map nI [105, 110, 115, 101, 114, 116] by decide), if_neg (by decide), decide_eq_false (show ¬ byS 7 = List.map nI [105, 110, 115, 101, 114, 116] by decide), if_neg (by decide), decide_eq_true (show byS 8 = List.map nI [105, 110, 115, 101, 114, 116] by decide), if_pos rfl]
    unfold lnInsert
    rw [t2, o3, a1]
    dsimp only
    rw [o4 1, hN, if_pos (by decide), a2, s2, u3, if_pos rfl, s1, u2]
    rfl
  · unfold intN
    rw [hN, if_neg (by omega), if_neg (by omega), if_neg (by omega), hA, if_pos (by decide), hF.2.2.1.2.2.2.1]
    exact nI_a1 m
  · unfold intN
    rw [hN, if_neg (by omega), if_neg (by omega), if_pos (by decide)]
theorem stn_p (hw : WFN N) {f0 n j : Nat} (hf : f0 + n ≤ nWd N) (hj : N (127 + 13 * (f0 + j) + 4) = nI 1) : ∃ s, stN N f0 n = nI s ∧ s ≤ 5 * n ∧ (j < n → 0 < s) := by
  unfold stN
  induction n with
  | zero => exact ⟨0, rfl, Nat.le_refl _, fun q => absurd q (Nat.not_lt_zero _)⟩
  | succ n ih =>
    obtain ⟨s, e, h, hp⟩ := ih (by omega)
    obtain ⟨x, hx, hx4, hxj⟩ : ∃ x, N (127 + 13 * (f0 + n) + 4) = nI x ∧ x < 5 ∧ (n = j → x = 1) := ⟨_, (hw.2.2.2.1 (f0 + n) (by omega)).1.1, (hw.2.2.2.1 (f0 + n) (by omega)).1.2, fun q => by
      subst q
      exact nv_n hj (by decide)⟩
    refine ⟨s + ((if skN N (f0 + n) = true then 1 else 0) + x), ?_, ?_, fun q => ?_⟩
    · show sumI _ n + (bI (skN N (f0 + n)) + N (127 + 13 * (f0 + n) + 4)) = _
      rw [e, bI_nI, hx, nI_add, nI_add]
    · have : (if skN N (f0 + n) = true then 1 else 0) ≤ 1 := by split <;> omega
      omega
    · by_cases z : j < n
      · have := hp z
        omega
      · have := hxj (by omega)
        omega
theorem l_seal (hF : FS N R nd kd k m) (hk : 1 < k) (hk2 : k ≤ 20) (hm : m < 10) (hnd : nd < 2) (h0 : N 144 = nI 1) (h : ATT f e p ([115, 101, 97, 108] ++ (32 :: 49 :: 32 :: (48 + m) :: 59 :: l))) : ∃ p' M fe, lnLine f e p N = .ok (p', M) ∧ ATT f e p' (59 :: l) ∧ WFN M ∧ (nRm M = R ∧ nAc M = 1 ∧ nWd M = k ∧ nCp M = 0) ∧ M 10 = 1 ∧ M 7 = nI fe ∧ M 8 = 0 ∧ M 13 = nI fe ∧ fe ≤ 200 := by
  obtain ⟨t1, t2, t3, -, t5⟩ := tk_wo h (by decide) (by decide) (by decide) (fun x l' q => by cases q; decide)
  have kk := kw_t h (by decide) (by decide) (by decide) (fun x l' q => by cases q; decide)
  have t2 : tkX f e p = p + 4 := t2
  have t5 : ATT f e (p + 4) (32 :: 49 :: 32 :: (48 + m) :: 59 :: l) := t5
  obtain ⟨o1, o2, o3, o4⟩ := fs_o hF
  obtain ⟨a1, a2, a3⟩ := nm_d (lo := 0) (hi := 10) t5 (by omega) (fun x l' q => by cases q; decide) (by omega)
  obtain ⟨b1, b2, b3⟩ := nm_d (lo := 0) (hi := 100) a3 (by omega) (fun x l' q => by cases q; decide) (by omega)
  have a1 : nmS f e (p + 4) 0 10 = .ok 1 := a1
  rw [Nat.add_sub_cancel_left] at b1
  have hA := hF.2.1.2.1
  obtain ⟨hw, ⟨h2, h3, h4, h5⟩, ⟨h6, h7, h8, h9, h10, h11⟩, h13, h14⟩ := id hF
  obtain ⟨s, es, hs1, hs2⟩ := stn_p (f0 := 0) (n := k) (j := 1) hw (by omega) h0
  have hs2 := hs2 hk
  obtain ⟨bs, ebs, hbs⟩ : ∃ b, bsF (nI kd) = nI b ∧ b ≤ 5 := by
    unfold bsF
    split
    · exact ⟨5, rfl, by decide⟩
    · split
      · exact ⟨3, rfl, by decide⟩
      · exact ⟨4, rfl, by decide⟩
  have fe : feQ N = nI (bs + s) := by
    unfold feQ
    rw [hA]
    show bsF (N 9) + stN N (aF N 0) (aM N 0) = _
    rw [h7, h13, h14, ebs, es, nI_add]
  have hsq : sealQ N (nI 1) (nI m) = 0 := by
    unfold sealQ
    rw [if_pos (show 0 < nAc N ∧ N (9 + 9 * (nAc N - 1) + 1) = 0 from o1), hA]
    show (if N 1 ≤ nI 1 then (if nI m = N 12 then (if stN N (aF N 0) (aM N 0) = 0 then 4 else 0) else 3) else 2) = (0 : Int32)
    rw [h6, if_pos (nI_le (by omega) (by decide)), h9, if_pos rfl, h13, h14, es, if_neg (nI_ne0 hs2 (by omega))]
  have hf : ∀ j, j ≠ 10 → j ≠ 11 → j ≠ 13 → j ≠ 7 → sealN N 1 (nI 1) (feQ N) (feQ N) j = N j := fun j q1 q2 q3 q4 => by
    unfold sealN
    rw [hA, if_neg (by omega), if_neg (by omega), if_neg (by omega), if_neg q4]
  refine ⟨p + 4 + 2 + 2, sealN N 1 (nI 1) (feQ N) (feQ N), bs + s, ?_, b3, sl_wf hw o1 (Or.inl rfl), ⟨(nv_e (hf 0 (by decide) (by decide) (by decide) (by decide))).trans h2, (nv_e (hf 3 (by decide) (by decide) (by decide) (by decide))).trans h3, (nv_e (hf 4 (by decide) (by decide) (by decide) (by decide))).trans h4, (nv_e (hf 6 (by decide) (by decide) (by decide) (by decide))).trans h5⟩, ?_, ?_, (hf 8 (by decide) (by decide) (by decide) (by decide)).trans h11, ?_, by omega⟩
  · unfold lnLine
    rw [kk 2, kk 6, kk 7, kk 8, kk 9, decide_eq_false (show ¬ byS 2 = List.map nI [115, 101, 97, 108] by decide), if_neg (by decide), decide_eq_false (show ¬ byS 6 = List.map nI [115, 101, 97, 108] by decide), if_neg (by decide), decide_eq_false (show ¬ byS 7 = List.map nI [115, 101, 97, 108] by decide), if_neg (by decide), decide_eq_false (show ¬ byS 8 = List.map nI [115, 101, 97, 108] by decide), if_neg (by decide), decide_eq_true (show byS 9 = List.map nI [115, 101, 97, 108] by decide), if_pos rfl]
    unfold lnSeal
    rw [t2, a1]
    dsimp only
    rw [a2, b1]
    dsimp only
    rw [hsq, if_pos rfl, b2]
  · unfold sealN
    rw [hA]
    rfl
  · unfold sealN
    rw [hA, if_neg (by decide), if_neg (by decide), if_neg (by decide), if_pos rfl, h10, fe]
    exact Int32.zero_add _
  · unfold sealN
    rw [hA, if_neg (by decide), if_neg (by decide), if_pos (by decide), fe]
end P56XD
