/-! p56, pure: texts by hand, 3: digits, new builders, texts out of builders, parts of constants -/
section P56L
variable {σ σ' σ2 : HpT} {S S' : Nat → Prop} {a b x y t tv l e n k c d : Nat} {L L2 : List Nat} {f g : Nat → Nat}
theorem dg_f : ∀ d, d < 10 → ¬ nI d < 0 ∧ (0 : Int32) ≤ nI d ∧ - (- nI d) = nI d ∧ (-100 : Int32) < - nI d ∧ (-9 : Int32) ≤ - nI d ∧ ¬ - nI d ≤ (-10 : Int32) ∧ (Int32.ofNat (48 + d % 10)).toInt8.toInt32.toInt8.toInt32 = nI (48 + d) ∧ (Int32.ofNat (48 + d % 10)).toInt8.toInt32 = nI (48 + d) := by decide
theorem dg_size (hd : d < 10) : fJ6_stringSize_0f7a4 (nI d) σ = some 1 := by
  obtain ⟨q1, q2, q3, q4, q5, q6, -⟩ := dg_f d hd
  unfold fJ6_stringSize_0f7a4
  rw [if_neg q1, bnP_1]
  dsimp only
  have e : lpP (fJ6_stringSize_0f7a4_l1 (- nI d) 0 σ) FUEL (-10, 1) = some (.inr 1) := by
    refine lpP_f 0 (fun _ => (-10, 1)) rfl (by decide) (fun k hk => absurd hk (Nat.not_lt_zero _)) ?_
    unfold fJ6_stringSize_0f7a4_l1
    dsimp only
    rw [if_neg (by decide), if_neg q6]
    rfl
  rw [e, bnP_1]
theorem dg_chars {s5 : HpT} (hS : hN s5 ≤ BIG) (hd : d < 10) (m1 : hK s5 tv = 22) (m2 : tv < hN s5) (m3 : n < hZ s5 tv) (m4 : hZ s5 tv ≤ 700) (hn : n < 300) : fJ6_getChars_ba4f3 (nI d) (nI (n + 1)) (some tv) s5 = some (nI n, wI s5 tv n (nI (48 + d))) := by
  obtain ⟨q1, q2, q3, q4, q5, q6, q7, q8⟩ := dg_f d hd
  have k2 : hK s5 (BIG + 200) = 22 := by
    unfold hK
    rw [if_neg (show ¬ BIG + 200 < s5.1 from by have e : hN s5 = s5.1 := rfl; omega)]
    decide
  have z2 : hZ s5 (BIG + 200) = 100 := by
    unfold hZ
    rw [if_neg (show ¬ BIG + 200 < s5.1 from by have e : hN s5 = s5.1 := rfl; omega), if_neg (by omega)]
    decide
  have ea : aI s5 (some (BIG + 200)) 22 (nI d) = some (Int32.ofNat (48 + d % 10)) := by
    unfold aI
    dsimp only
    rw [if_pos ⟨k2, by rw [z2]; exact inb_nI (by omega) (by decide)⟩, nI_clamp (by omega)]
    unfold hI cI
    rw [if_neg (show ¬ BIG + 200 < s5.1 from by have e : hN s5 = s5.1 := rfl; omega), if_neg (by omega), if_neg (by omega), if_neg (by omega), if_pos rfl]
  have es : sB s5 (some tv) (nI n) (Int32.ofNat (48 + d % 10)) = some (wI s5 tv n (nI (48 + d))) := by
    unfold sB
    dsimp only
    rw [if_pos ⟨⟨m1, inb_nI m3 (by omega)⟩, m2⟩, nI_clamp (by omega), q8]
  unfold fJ6_getChars_ba4f3
  rw [if_pos q2, bnP_1, if_pos rfl, bnP_1]
  have e : lpS (fJ6_getChars_ba4f3_l1 (some tv) 0) FUEL (- nI d, nI (n + 1)) s5 = some ((- nI d, nI (n + 1)), s5) := by
    refine lpS_f 0 (fun _ => (- nI d, nI (n + 1))) (fun _ => s5) rfl rfl (by decide) (fun k hk => absurd hk (Nat.not_lt_zero _)) ?_
    unfold fJ6_getChars_ba4f3_l1
    dsimp only
    rw [if_pos q4]
  rw [e, bnS_1]
  dsimp only
  rw [q3, ea, bnP_1, pk_m1, es, bnP_1, if_pos q5, bnS_1, if_pos rfl]
/-- a byte laid behind a builder's bytes -/
theorem sb_one {s5 : HpT} (h : SBI σ t tv L) (h5 : SBI s5 t x L) (hc : c < 128) (z5 : L.length + 1 ≤ hZ s5 x) (h3 : L.length + 1 ≤ 300) (htv : x = tv ∨ hN σ ≤ x) (hn5 : hN s5 ≤ hN σ + 1) (f5 : FR σ s5 (fun a => a = t)) (S9 : HpT) (hS9 : S9 = wI (wI s5 x L.length (nI c)) t 3 (nI (L.length + 1))) : SBN σ S9 t tv (L ++ [c]) := by
  subst hS9
  obtain ⟨⟨k1, k2, k3, k4, k5⟩, ⟨m1, m2, m3, m4⟩, c1, c2, c3⟩ := id h5
  have f1 := fr_wI (σ := s5) m2 L.length (nI c)
  have tn : t < hN (wI s5 x L.length (nI c)) := by rw [hN_wI]; exact k2
  have f2 := fr_wI (σ := wI s5 x L.length (nI c)) tn 3 (nI (L.length + 1))
  have hne : x ≠ t := fun q => by rw [q, k1] at m1; cases m1
  have f12 : FR s5 (wI (wI s5 x L.length (nI c)) t 3 (nI (L.length + 1))) (fun a => a = t ∨ a = x) := fr_tr (fr_m f1 (fun _ _ q => Or.inr q)) f2 (fun a _ q => Or.inl q)
  refine ⟨x, ?_, htv, by rw [hN_wI, hN_wI]; exact hn5, fr_tr (fr_m f5 (fun _ _ q => Or.inl q)) f12 (fun a ha q => ?_)⟩
  · refine sb_put h5 (L2 := [c]) z5 h3 (fun x hx => by rw [List.mem_singleton.mp hx]; exact hc) f12 rfl (fun k => rfl) ?_ ?_ (fun k hk => ?_)
    · rw [hI_wI _ _ _ _ _ _ tn, if_pos ⟨rfl, rfl⟩]
      rfl
    · rw [hI_wI _ _ _ _ _ _ tn, if_neg (fun q => by cases q.2), hI_wI _ _ _ _ _ _ m2, if_neg (fun q => hne q.1.symm)]
      exact k5
    · have hk : k < L.length + 1 := hk
      rw [hI_wI _ _ _ _ _ _ tn, if_neg (fun q => hne q.1), hI_wI _ _ _ _ _ _ m2]
      by_cases z : k < L.length
      · rw [if_neg (fun q => by omega), if_pos z]
      · obtain rfl : k = L.length := by omega
        rw [if_pos ⟨rfl, rfl⟩, if_neg z, Nat.sub_self]
        rfl
  · rcases q with q | q
    · exact Or.inl q
    · rcases htv with e | e
      · exact Or.inr (q.trans e)
      · omega
theorem sb_dig (h : SBI σ t tv L) (hd : d < 10) (h3 : L.length + 1 ≤ 300) (hB : hN σ + 2 < BIG) : HOA (fJ4_append_bf812 (some t) (nI d) σ) σ (fun v σ' => v = some t ∧ SBN σ σ' t tv (L ++ [48 + d])) := by
  have a1 := h.1.1
  unfold fJ4_append_bf812
  rw [isK_S a1, bnP_1]
  refine hoa_A (Q := fun v σ' => v = some t ∧ SBN σ σ' t tv (L ++ [48 + d])) ?_ (fun v σ' _ q => hoa_ret ⟨rfl, q.2⟩)
  unfold fJ5_append_c97b9
  rw [isK_S a1, bnP_1, gI_S a1, bnP_1, h.1.2.2.2.1, dg_size hd, bnP_1, nI_a1]
  refine hoa_A (sb_ens h (n := L.length + 1) h3 (by omega)) (fun v s5 hle q => ?_)
  obtain ⟨tv', h5, z5, htv, hn5, f5⟩ := q
  obtain ⟨⟨k1, k2, k3, k4, k5⟩, ⟨m1, m2, m3, m4⟩, c1, c2, c3⟩ := id h5
  have hne : tv' ≠ t := fun q => by rw [q, k1] at m1; cases m1
  unfold fJ5_isLatin1_aae02
  rw [isK_S k1, bnP_1, gI_S k1, bnP_1, k5, if_pos rfl, bnP_1, if_pos rfl, gR_S k1 k3, bnP_1, dg_chars (by omega) hd m1 m2 z5 m4 (by omega), bnS_1, bnS_1, pI_S (show hK (wI s5 tv' L.length (nI (48 + d))) t = 11 from k1) (by rw [hN_wI]; exact k2), bnP_1]
  exact hoa_ret ⟨rfl, sb_one h h5 (by omega) z5 h3 htv hn5 f5 _ rfl⟩
/-- a new builder: t is a fresh cell -/
theorem sb_new {z : Nat} (hk : hK σ t = 11) (ht : t < hN σ) (h3 : hI σ t 3 = 0) (hz : z ≤ 700) (S9 : HpT) (hS9 : S9 = wI (wR (wN σ 22 z) t 0 (some (hN σ))) t 1 0) : SBI S9 t (hN σ) [] ∧ FR σ S9 (fun a => a = t) ∧ hN S9 = hN σ + 1 ∧ hZ S9 (hN σ) = z := by
  subst hS9
  have tn : t < hN (wN σ 22 z) := by rw [hN_wN]; omega
  have tn2 : t < hN (wR (wN σ 22 z) t 0 (some (hN σ))) := by rw [hN_wR]; exact tn
  have kk : hK (wI (wR (wN σ 22 z) t 0 (some (hN σ))) t 1 0) (hN σ) = 22 := by rw [hK_wI, hK_wR, hK_wN, if_pos rfl]
  have zz : hZ (wI (wR (wN σ 22 z) t 0 (some (hN σ))) t 1 0) (hN σ) = z := by rw [hZ_wI, hZ_wR, hZ_wN, if_pos rfl]
  refine ⟨⟨⟨by rw [hK_wI, hK_wR, hK_wN, if_neg (by omega)]; exact hk, by rw [hN_wI]; exact tn2, by rw [hR_wI, hR_wR _ _ _ _ _ _ tn, if_pos ⟨rfl, rfl⟩], ?_, by rw [hI_wI _ _ _ _ _ _ tn2, if_pos ⟨rfl, rfl⟩]⟩, ⟨kk, by rw [hN_wI, hN_wR, hN_wN]; omega, Nat.zero_le _, by rw [zz]; exact hz⟩, fun k hk => absurd hk (Nat.not_lt_zero _), fun x hx => absurd hx List.not_mem_nil, by decide⟩, ?_, rfl, zz⟩
  · rw [hI_wI _ _ _ _ _ _ tn2, if_neg (fun q => by cases q.2), hI_wR, hI_wN, if_neg (by omega), h3]
    rfl
  · exact fr_tr (fr_tr (fr_wN σ 22 z _) (fr_wR tn 0 _) (fun a _ q => q)) (fr_wI tn2 1 0) (fun a _ q => q)
theorem sb_init0 (hk : hK σ t = 11) (ht : t < hN σ) (h3 : hI σ t 3 = 0) (hB : hN σ < BIG) : HOA (fJ4_init_da8c8 (some t) σ) σ (fun _ σ' => SBI σ' t (hN σ) [] ∧ FR σ σ' (fun a => a = t) ∧ hN σ' = hN σ + 1) := by
  have tn : t < hN (wN σ 22 16) := by rw [hN_wN]; omega
  have kt : hK (wN σ 22 16) t = 11 := by rw [hK_wN, if_neg (by omega)]; exact hk
  obtain ⟨q1, q2, q3, q4⟩ := sb_new (z := 16) hk ht h3 (by decide) _ rfl
  unfold fJ4_init_da8c8 fJ5_init_d00df
  rw [isK_S hk, bnP_1, bnP_1, show nwR 22 16 σ = _ from nwR_1 (n := 16) hB (by decide), bnA_ok, pR_S kt tn, bnP_1]
  have eb : pB (wR (wN σ 22 16) t 0 (some (hN σ))) (some t) 11 1 0 = some (wI (wR (wN σ 22 16) t 0 (some (hN σ))) t 1 0) := by
    unfold pB
    rw [if_pos (by decide)]
    exact pI_S kt tn
  rw [eb, bnP_1, addC_1, bnA_ok, addC_1]
  exact ⟨(), _, _, _, rfl, by rw [q3], by omega, q1, q2, q3⟩
theorem sb_inits (hk : hK σ t = 11) (ht : t < hN σ) (h3 : hI σ t 3 = 0) (hs : ∀ σ', hN σ ≤ hN σ' → hN σ' ≤ hN σ + 5 → STR σ' x y L2) (hy : BIG ≤ y) (hB : hN σ + 10 < BIG) : HOA (fJ4_init_a7421 (some t) (some x) σ) σ (fun _ σ' => ∃ tv, SBI σ' t tv L2 ∧ hN σ ≤ tv ∧ FR σ σ' (fun a => a = t) ∧ hN σ' ≤ hN σ + 2) := by
  have hs0 := hs σ (Nat.le_refl _) (by omega)
  obtain ⟨⟨u1, u2, u3⟩, ⟨w1, w2⟩, x1, x2, x3⟩ := id hs0
  have ecoder : fJ0_coder_7d493 (some x) σ = some 0 := by
    unfold fJ0_coder_7d493
    rw [isK_S u1, bnP_1, gI_S u1, bnP_1, u3]
    rfl
  have n16 : nI L2.length + 16 = nI (L2.length + 16) := nI_add L2.length 16
  unfold fJ4_init_a7421 fJ5_init_a7421
  rw [isK_S hk, bnP_1, bnP_1, str_len hs0, bnP_1, if_neg (show ¬ 2147483631 ≤ nI L2.length from nI_ge (b := 2147483631) (by omega) (by decide)), bnP_1, ecoder, bnP_1]
  have eb : pB σ (some t) 11 1 0 = some (wI σ t 1 0) := by
    unfold pB
    rw [if_pos (by decide)]
    exact pI_S hk ht
  rw [eb, bnP_1, if_pos rfl, n16, nwR_1 (σ := wI σ t 1 0) (by rw [hN_wI]; omega) (by omega), bnA_ok, addC_1, bnA_ok]
  have kt : hK (wN (wI σ t 1 0) 22 (L2.length + 16)) t = 11 := by rw [hK_wN, if_neg (by rw [hN_wI]; omega)]; exact hk
  have tn : t < hN (wN (wI σ t 1 0) 22 (L2.length + 16)) := by rw [hN_wN, hN_wI]; omega
  dsimp only
  rw [pR_S kt tn, bnP_1]
  generalize hS : wR (wN (wI σ t 1 0) 22 (L2.length + 16)) t 0 (some (hN (wI σ t 1 0))) = S1
  have nS : hN S1 = hN σ + 1 := by rw [← hS]; rfl
  have fS : FR σ S1 (fun a => a = t) := by
    rw [← hS]
    exact fr_tr (fr_tr (fr_wI ht 1 0) (fr_wN _ 22 _ (fun _ => False)) (fun _ _ q => q.elim)) (fr_wR tn 0 _) (fun a _ q => q)
  have hb : SBI S1 t (hN σ) [] := by
    have kk : hK S1 (hN σ) = 22 := by rw [← hS, hK_wR, hK_wN, hN_wI, if_pos rfl]
    have zz : hZ S1 (hN σ) = L2.length + 16 := by rw [← hS, hZ_wR, hZ_wN, hN_wI, if_pos rfl]
    refine ⟨⟨by rw [← hS]; exact kt, by rw [nS]; omega, by rw [← hS, hR_wR _ _ _ _ _ _ tn, if_pos ⟨rfl, rfl⟩]; rfl, ?_, ?_⟩, ⟨kk, by omega, Nat.zero_le _, by rw [zz]; omega⟩, fun k hk => absurd hk (Nat.not_lt_zero _), fun x hx => absurd hx List.not_mem_nil, by decide⟩
    · rw [← hS, hI_wR, hI_wN, if_neg (by rw [hN_wI]; omega), hI_wI _ _ _ _ _ _ ht, if_neg (fun q => by cases q.2), h3]
      rfl
    · rw [← hS, hI_wR, hI_wN, if_neg (by rw [hN_wI]; omega), hI_wI _ _ _ _ _ _ ht, if_pos ⟨rfl, rfl⟩]
  have ap := sb_str (x := x) (y := y) (L2 := L2) hb (fun σ' f hn => hs σ' (by have := f.1; omega) (by omega)) (by show 0 + _ ≤ 300; omega) (by omega) (Or.inr hy) (by omega)
  have ap2 : HOA (fJ4_append_cf1ce (some t) (some x) S1) S1 (fun v σ' => v = some t ∧ SBN S1 σ' t (hN σ) ([] ++ L2)) := by
    unfold fJ4_append_cf1ce
    rw [isK_S hb.1.1, bnP_1]
    exact hoa_A ap (fun v σ' _ q => hoa_ret q)
  obtain ⟨v, S2, i, j, e1, h1, h2, -, tv, q1, q2, q3, q4⟩ := ap2
  rw [e1, bnA_ok, addC_1]
  refine ⟨(), S2, _, _, rfl, ?_, ?_, tv, q1, ?_, ?_, by omega⟩
  · show hN σ + (1 + 0 + (i + 0) + 0) = hN S2
    omega
  · show L2.length + 16 + 0 + (j + 0) + 0 ≤ 700 * (1 + 0 + (i + 0) + 0)
    omega
  · rcases q2 with e | e <;> omega
  · exact fr_tr fS q4 (fun a ha q => by
      rcases q with q | q
      · exact q
      · omega)
end P56L
