/-! p56, pure: texts by hand, 2: appending; strings -/
/-- a string with its bytes -/
def STR (σ : HpT) (x y : Nat) (L : List Nat) : Prop := (hK σ x = 15 ∧ hR σ x 0 = some y ∧ hI σ x 1 = 0) ∧ (hK σ y = 22 ∧ hZ σ y = L.length) ∧ (∀ k, k < L.length → hI σ y k = nI (L.getD k 0)) ∧ (∀ b ∈ L, b < 128) ∧ L.length ≤ 300
def SBN (σ σ' : HpT) (t tv : Nat) (L : List Nat) : Prop := ∃ tv', SBI σ' t tv' L ∧ (tv' = tv ∨ hN σ ≤ tv') ∧ hN σ' ≤ hN σ + 1 ∧ FR σ σ' (fun a => a = t ∨ a = tv)
section P56K
variable {σ σ' σ2 : HpT} {S S' : Nat → Prop} {a b x y t tv l e n k c d : Nat} {L L2 : List Nat} {f g : Nat → Nat}
theorem st_fr (h : STR σ x y L) (f : FR σ σ' S) (hx : x < hN σ) (hy : y < hN σ) (h1 : ¬ S x) (h2 : ¬ S y) : STR σ' x y L := by
  obtain ⟨⟨a1, a2, a3⟩, ⟨b1, b2⟩, c, d⟩ := h
  obtain ⟨p1, p2, p3⟩ := f.2 x hx
  obtain ⟨q1, q2, q3⟩ := f.2 y hy
  have p3 := p3 h1
  have q3 := q3 h2
  exact ⟨⟨p1.trans a1, by rw [(p3 0).2]; exact a2, by rw [(p3 1).1]; exact a3⟩, ⟨q1.trans b1, by rw [q2]; exact b2⟩, fun k hk => by rw [(q3 k).1]; exact c k hk, d⟩
/-- a constant -/
theorem st_con (hS : hN σ ≤ BIG) {j : Nat} (hj : j < 47) (hL : (byS j).length = L.length) (hb : ∀ k, k < L.length → (byS j).getD k 0 = nI (L.getD k 0)) (h1 : ∀ b ∈ L, b < 128) (h2 : L.length ≤ 300) : STR σ (BIG + j) (BIG + j + 100) L := by
  obtain ⟨k1, k2, k3, k4, k5, k6⟩ := st_facts hS hj
  exact ⟨⟨k1, k2, k3⟩, ⟨k4, k5.trans hL⟩, fun k hk => (k6 k).trans (hb k hk), h1, h2⟩
theorem str_len (h : STR σ x y L) : fJ0_length_8abf5 (some x) σ = some (nI L.length) := by
  obtain ⟨⟨a1, a2, a3⟩, ⟨b1, b2⟩, c1, c2, c3⟩ := h
  unfold fJ0_length_8abf5 fJ0_coder_7d493
  rw [isK_S a1, bnP_1, gR_S a1 a2, bnP_1, aL_S b1, bnP_1, bnP_1, gI_S a1, bnP_1, a3, b2]
  unfold nrB
  rw [if_pos (by decide), bnP_1, bnP_1, shr0 (by omega)]
theorem str_chr (h : STR σ x y L) (hk : k < L.length) : fJ0_charAt_5068e (some x) (nI k) σ = some (nI (L.getD k 0)) := by
  obtain ⟨⟨a1, a2, a3⟩, ⟨b1, b2⟩, c1, c2, c3⟩ := h
  have hd : L.getD k 0 < 128 := by
    rw [List.getD_eq_getElem?_getD, List.getElem?_eq_getElem hk, Option.getD_some]
    exact c2 _ (List.getElem_mem hk)
  have ea : aI σ (some y) 22 (nI k) = some (nI (L.getD k 0)) := by
    unfold aI
    dsimp only
    rw [if_pos ⟨b1, by rw [b2]; exact inb_nI hk (by omega)⟩, nI_clamp (by omega), c1 k hk]
  unfold fJ0_charAt_5068e fJ0_isLatin1_aae02 fJ1_charAt_3b067 fJ0_checkIndex_df160 fJ3_checkIndex_8e157
  rw [isK_S a1, bnP_1, bnP_1, gI_S a1, bnP_1, a3, if_pos rfl, bnP_1, if_pos rfl, gR_S a1 a2, bnP_1, aL_S b1, bnP_1, b2, if_neg (nI_pos (by omega)), if_pos (nI_lt hk (by omega)), bnP_1, bnP_1, ea, bnP_1, byc_ok _ hd]
  unfold nrC
  rw [if_pos (ch_ok _ hd), bnP_1, bnP_1, if_pos (ch_ok _ hd), bnP_1]
theorem getD_app {k : Nat} (L L2 : List Nat) (hk : k < L.length) : (L ++ L2).getD k 0 = L.getD k 0 := by
  rw [List.getD_eq_getElem?_getD, List.getD_eq_getElem?_getD, List.getElem?_append_left hk]
theorem getD_app2 {k : Nat} (L L2 : List Nat) (hk : L.length ≤ k) : (L ++ L2).getD k 0 = L2.getD (k - L.length) 0 := by
  rw [List.getD_eq_getElem?_getD, List.getD_eq_getElem?_getD, List.getElem?_append_right hk]
/-- the builder behind a write of bytes into its row -/
theorem sb_put (h : SBI σ t tv L) (hl : L.length + L2.length ≤ hZ σ tv) (h3 : L.length + L2.length ≤ 300) (h2 : ∀ x ∈ L2, x < 128) (f : FR σ σ' (fun a => a = t ∨ a = tv)) (hn : hN σ' = hN σ) (r : ∀ k, hR σ' t k = hR σ t k) (e3 : hI σ' t 3 = nI (L.length + L2.length)) (e1 : hI σ' t 1 = 0) (ev : ∀ k, k < L.length + L2.length → hI σ' tv k = if k < L.length then hI σ tv k else nI (L2.getD (k - L.length) 0)) : SBI σ' t tv (L ++ L2) := by
  obtain ⟨⟨a1, a2, a3, a4, a5⟩, ⟨b1, b2, b3, b4⟩, c1, c2, c3⟩ := h
  obtain ⟨p1, p2, p3⟩ := f.2 t a2
  obtain ⟨q1, q2, q3⟩ := f.2 tv b2
  refine ⟨⟨p1.trans a1, by omega, by rw [r]; exact a3, by rw [e3, List.length_append], e1⟩, ⟨q1.trans b1, by omega, by rw [q2, List.length_append]; exact hl, by rw [q2]; exact b4⟩, fun k hk => ?_, fun x hx => ?_, by rw [List.length_append]; exact h3⟩
  · rw [List.length_append] at hk
    rw [ev k hk]
    by_cases z : k < L.length
    · rw [if_pos z, c1 k z, getD_app _ _ z]
    · rw [if_neg z, getD_app2 _ _ (by omega)]
  · rcases List.mem_append.mp hx with z | z
    · exact c2 x z
    · exact h2 x z
theorem sb_chr (h : SBI σ t tv L) (hc : c < 128) (h3 : L.length + 1 ≤ 300) (hB : hN σ < BIG) : HOA (fJ4_append_cf468 (some t) (nI c) σ) σ (fun v σ' => v = some t ∧ SBN σ σ' t tv (L ++ [c])) := by
  have a1 := h.1.1
  have tn := h.1.2.1
  unfold fJ4_append_cf468
  rw [isK_S a1, bnP_1]
  refine hoa_A (Q := fun v σ' => v = some t ∧ SBN σ σ' t tv (L ++ [c])) ?_ (fun v σ' _ q => hoa_ret ⟨rfl, q.2⟩)
  unfold fJ5_append_3fe6f
  rw [isK_S a1, bnP_1, gI_S a1, bnP_1, h.1.2.2.2.1, nI_a1]
  refine hoa_A (sb_ens h (n := L.length + 1) h3 hB) (fun v s5 hle q => ?_)
  obtain ⟨tv', h5, z5, htv, hn5, f5⟩ := q
  obtain ⟨⟨k1, k2, k3, k4, k5⟩, ⟨m1, m2, m3, m4⟩, c1, c2, c3⟩ := id h5
  unfold fJ5_isLatin1_aae02 fJ1_canEncode_fc78d
  rw [isK_S k1, bnP_1, gI_S k1, bnP_1, k5, if_pos rfl, bnP_1, if_pos rfl, if_neg (show ¬ 255 < nI c from nI_nlt (a := 255) (by omega) (by decide)), bnP_1, if_pos rfl, gR_S k1 k3, bnP_1, gI_S k1, bnP_1, k4, nI_a1, pI_S k1 k2, bnP_1]
  have es : sB (wI s5 t 3 (nI (L.length + 1))) (some tv') (nI L.length) ((nI c).toInt8.toInt32) = some (wI (wI s5 t 3 (nI (L.length + 1))) tv' L.length (nI c)) := by
    unfold sB
    dsimp only
    rw [if_pos ⟨⟨by rw [hK_wI]; exact m1, by rw [hZ_wI]; exact inb_nI (by omega) (by omega)⟩, by rw [hN_wI]; exact m2⟩, nI_clamp (by omega), by_ok c hc, by_ok c hc]
  rw [es, bnP_1]
  have f1 := fr_wI (σ := s5) k2 3 (nI (L.length + 1))
  have f2 := fr_wI (σ := wI s5 t 3 (nI (L.length + 1))) (a := tv') (by rw [hN_wI]; exact m2) L.length (nI c)
  have hne : tv' ≠ t := fun q => by rw [q, k1] at m1; cases m1
  have f12 : FR s5 (wI (wI s5 t 3 (nI (L.length + 1))) tv' L.length (nI c)) (fun a => a = t ∨ a = tv') := fr_tr (fr_m f1 (fun _ _ q => Or.inl q)) f2 (fun a _ q => Or.inr q)
  refine hoa_ret ⟨rfl, tv', ?_, htv, by rw [hN_wI, hN_wI]; exact hn5, fr_tr (fr_m f5 (fun _ _ q => Or.inl q)) f12 (fun a ha q => ?_)⟩
  · refine sb_put h5 (L2 := [c]) z5 h3 (fun x hx => by rw [List.mem_singleton.mp hx]; exact hc) f12 rfl (fun k => rfl) ?_ ?_ (fun k hk => ?_)
    · rw [hI_wI _ _ _ _ _ _ (by rw [hN_wI]; exact m2), if_neg (fun q => hne q.1.symm), hI_wI _ _ _ _ _ _ k2, if_pos ⟨rfl, rfl⟩]
      rfl
    · rw [hI_wI _ _ _ _ _ _ (by rw [hN_wI]; exact m2), if_neg (fun q => hne q.1.symm), hI_wI _ _ _ _ _ _ k2, if_neg (fun q => by cases q.2)]
      exact k5
    · have hk : k < L.length + 1 := hk
      rw [hI_wI _ _ _ _ _ _ (by rw [hN_wI]; exact m2)]
      by_cases z : k < L.length
      · rw [if_neg (fun q => by omega), if_pos z, hI_wI _ _ _ _ _ _ k2, if_neg (fun q => hne q.1)]
      · obtain rfl : k = L.length := by omega
        rw [if_pos ⟨rfl, rfl⟩, if_neg z, Nat.sub_self]
        rfl
  · rcases q with q | q
    · exact Or.inl q
    · rcases htv with e | e
      · exact Or.inr (q.trans e)
      · omega
theorem sb_str (h : SBI σ t tv L) (hs : ∀ σ', FR σ σ' (fun a => a = t) → hN σ' ≤ hN σ + 1 → STR σ' x y L2) (h3 : L.length + L2.length ≤ 300) (hxy : y ≠ tv) (hyn : y < hN σ ∨ BIG ≤ y) (hB : hN σ + 2 < BIG) : HOA (fJ4_append_15ec4 (some t) (some x) σ) σ (fun v σ' => v = some t ∧ SBN σ σ' t tv (L ++ L2)) := by
  have a1 := h.1.1
  have tn := h.1.2.1
  unfold fJ4_append_15ec4
  rw [isK_S a1, bnP_1]
  refine hoa_A (Q := fun v σ' => v = some t ∧ SBN σ σ' t tv (L ++ L2)) ?_ (fun v σ' _ q => hoa_ret ⟨rfl, q.2⟩)
  unfold fJ5_append_cf1ce
  rw [isK_S a1, bnP_1, if_neg (fun q => by cases q), str_len (hs σ (fr_rf _ _) (by omega)), bnP_1, gI_S a1, bnP_1, h.1.2.2.2.1, nI_add]
  refine hoa_A (sb_ens h (n := L.length + L2.length) h3 (by omega)) (fun v s5 hle q => ?_)
  obtain ⟨tv', h5, z5, htv, hn5, f5⟩ := q
  obtain ⟨⟨k1, k2, k3, k4, k5⟩, ⟨m1, m2, m3, m4⟩, c1, c2, c3⟩ := id h5
  have h5s := hs s5 f5 hn5
  obtain ⟨⟨u1, u2, u3⟩, ⟨w1, w2⟩, x1, x2, x3⟩ := h5s
  have hyt : y ≠ tv' := by
    rcases htv with e | e
    · rw [e]; exact hxy
    · rcases hyn with q | q <;> omega
  have hne : tv' ≠ t := fun q => by rw [q, k1] at m1; cases m1
  have ecoder : fJ0_coder_7d493 (some x) s5 = some 0 := by
    unfold fJ0_coder_7d493
    rw [isK_S u1, bnP_1, gI_S u1, bnP_1, u3]
    rfl
  generalize hf : va_cpy (hI s5 y) (hI s5 tv') 0 L.length L2.length = fc
  have ecp : cpC s5 (some y) 0 (some tv') (nI L.length) (nI L2.length) = some (wIr s5 tv' fc) := by
    unfold cpC
    dsimp only
    rw [if_pos ⟨w1, m1, m2, by decide, by rw [nI_toInt (by omega)]; omega, by rw [nI_toInt (by omega)]; omega, by rw [nI_clamp (by omega), w2]; show 0 + L2.length ≤ L2.length; omega, by rw [nI_clamp (by omega), nI_clamp (by omega)]; exact z5⟩, nI_clamp (by omega), nI_clamp (by omega), show (0 : Int32).toNatClampNeg = 0 from rfl, hf]
  unfold fJ5_putStringAt_47b60 fJ5_inflateIfNeededFor_a7421 fJ0_getBytes_840e7
  rw [gI_S k1, bnP_1, k4, isK_S k1, bnP_1, bnP_1, gI_S k1, bnP_1, k5, ecoder, bnP_1, if_pos rfl, bnP_1, gR_S k1 k3, bnP_1, bnP_1, isK_S u1, bnP_1, bnP_1, if_pos rfl, gR_S u1 u2, bnP_1, bnP_1, aL_S w1, bnP_1, w2, shl0 (by omega), ecp, bnP_1, bnP_1, bnP_1]
  have f1 := fr_wIr (σ := s5) m2 fc
  have kt : hK (wIr s5 tv' fc) t = 11 := k1
  rw [gI_S kt, bnP_1, show hI (wIr s5 tv' fc) t 3 = nI L.length from by rw [hI_wIr _ _ _ _ _ m2, if_neg (fun q => hne q.symm)]; exact k4, nI_add, pI_S kt (by rw [hN_wIr]; exact k2), bnP_1]
  have f2 := fr_wI (σ := wIr s5 tv' fc) (a := t) (by rw [hN_wIr]; exact k2) 3 (nI (L.length + L2.length))
  have f12 : FR s5 (wI (wIr s5 tv' fc) t 3 (nI (L.length + L2.length))) (fun a => a = t ∨ a = tv') := fr_tr (fr_m f1 (fun _ _ q => Or.inr q)) f2 (fun a _ q => Or.inl q)
  have tn5 : t < hN (wIr s5 tv' fc) := by rw [hN_wIr]; exact k2
  refine hoa_ret ⟨rfl, tv', ?_, htv, by rw [hN_wI, hN_wIr]; exact hn5, fr_tr (fr_m f5 (fun _ _ q => Or.inl q)) f12 (fun a ha q => ?_)⟩
  · refine sb_put h5 z5 h3 x2 f12 rfl (fun k => rfl) ?_ ?_ (fun k hk => ?_)
    · rw [hI_wI _ _ _ _ _ _ tn5, if_pos ⟨rfl, rfl⟩]
    · rw [hI_wI _ _ _ _ _ _ tn5, if_neg (fun q => by cases q.2), hI_wIr _ _ _ _ _ m2, if_neg (fun q => hne q.symm)]
      exact k5
    · rw [hI_wI _ _ _ _ _ _ tn5, if_neg (fun q => hne q.1), hI_wIr _ _ _ _ _ m2, if_pos rfl, ← hf]
      by_cases z : k < L.length
      · rw [if_pos z, pk_cpy_out (Or.inl z)]
      · rw [if_neg z, pk_cpy_in (by omega) hk, show 0 + (k - L.length) = k - L.length by omega]
        exact x1 _ (by omega)
  · rcases q with q | q
    · exact Or.inl q
    · rcases htv with e | e
      · exact Or.inr (q.trans e)
      · omega
end P56K
