/-! p56, pure: texts by hand, 11: the first act and the text so far -/
def KP (lo : Nat) (σ σ' : HpT) : Prop := FR σ σ' (fun x => hK σ x = 14 ∨ lo ≤ x)
theorem kp_tr {lo : Nat} {σ σ' σ2 : HpT} (h : KP lo σ σ') (h2 : KP lo σ' σ2) : KP lo σ σ2 := fr_tr h h2 (fun a ha q => q.elim (fun u => Or.inl (by rw [← (h.2 a ha).1]; exact u)) Or.inr)
def TB (σ : HpT) (t0 lo : Nat) (L : List Nat) (d la lv ea R Q : Nat) (A : Nat → Nat) (a wl c : Nat) (B1 : List Nat) (mk : Nat) : Prop :=
  ∃ tv we wf s y, SBI σ t0 tv L ∧ (DsI σ d la lv R Q ∧ LsI σ la ea 1 A ∧ A 0 = a ∧ wl ≠ la) ∧ ((hK σ a = 10 ∧ a < hN σ ∧ hR σ a 0 = some wl ∧ hI σ a 4 = nI mk ∧ hR σ a 7 = some s) ∧ LsI σ wl we c wf ∧ ∀ i, i < c → WrI σ (wf i)) ∧ STR σ s y B1 ∧ s < hN σ ∧ y < hN σ ∧ y ≠ tv ∧ (lo ≤ tv ∧ lo ≤ t0 ∧ lo ≤ a ∧ lo ≤ d)
theorem lpP_ex {α β : Type} {f : α → Option (α ⊕ β)} (I : Nat → α → Prop) (n : Nat) (hs : ∀ k a, k < n → I k a → ∃ a', f a = some (.inl a') ∧ I (k + 1) a') (he : ∀ a, I n a → ∃ r, f a = some (.inr r)) : ∀ m k F a, k + m = n → m < F → I k a → ∃ r, lpP f F a = some r := by
  intro m
  induction m with
  | zero =>
    intro k F a hk hF h
    obtain rfl : k = n := by omega
    obtain ⟨F, rfl⟩ : ∃ F', F = F' + 1 := ⟨F - 1, by omega⟩
    obtain ⟨r, e⟩ := he a h
    exact ⟨r, lpP_e F e⟩
  | succ m ih =>
    intro k F a hk hF h
    obtain ⟨F, rfl⟩ : ∃ F', F = F' + 1 := ⟨F - 1, by omega⟩
    obtain ⟨a', e, h2⟩ := hs k a (by omega) h
    obtain ⟨r, e2⟩ := ih (k + 1) F a' (by omega) (by omega) h2
    refine ⟨r, ?_⟩
    unfold lpP
    rw [e]
    exact e2
section P56T
variable {σ1 σ σ' σ2 : HpT} {S S' : Nat → Prop} {lo a b x y t tv tv0 t0 l e n m k c d w la lv ea R Q wl we W dd mk mk' i : Nat} {L L2 B1 : List Nat} {f g A wf cs us : Nat → Nat} {v : Int32}
theorem wr_in (h : WrI σ w) (hS : hN σ ≤ BIG) : ∃ r, fX12_inners (some w) σ = some r := by
  obtain ⟨h1, h2, h3⟩ := h
  obtain ⟨j, hj, hlen, hr, hb⟩ : ∃ j, j < 47 ∧ (byS j).length ≤ 3 ∧ hR σ w 3 = some (BIG + j) ∧ ∀ k, k < (byS j).length → ∃ b, b < 128 ∧ (byS j).getD k 0 = nI b := by
    rcases h3 with h3 | h3
    · exact ⟨39, by decide, by decide, h3, fun k hk => absurd hk (by rw [show (byS 39).length = 0 by decide]; omega)⟩
    · refine ⟨43, by decide, by decide, h3, fun k hk => ?_⟩
      have hk : k < 3 := hk
      have e : k = 0 ∨ k = 1 ∨ k = 2 := by omega
      rcases e with rfl | rfl | rfl
      · exact ⟨94, by decide, by decide⟩
      · exact ⟨97, by decide, by decide⟩
      · exact ⟨100, by decide, by decide⟩
  obtain ⟨r, e⟩ := lpP_ex (f := fX12_inners_l1 (some w) σ) (fun k (q : Int32 × Int32) => q.2 = nI k) (byS j).length (fun k q hk hq => by
    obtain ⟨b, hb1, hb2⟩ := hb k hk
    unfold fX12_inners_l1
    rw [gR_S h1 hr, bnP_1, st_len hS hj, bnP_1, hq, if_neg (nI_ge hk (by omega)), bnP_1, st_chr hS hj hk hb2 hb1, bnP_1]
    split
    · exact ⟨_, rfl, nI_a1 k⟩
    · exact ⟨_, rfl, nI_a1 k⟩) (fun q hq => by
    unfold fX12_inners_l1
    rw [gR_S h1 hr, bnP_1, st_len hS hj, bnP_1, hq, if_pos (nI_le (Nat.le_refl _) (by omega))]
    exact ⟨_, rfl⟩) (byS j).length 0 FUEL (0, 0) (by omega) (show (byS j).length < 200000 by omega) rfl
  unfold fX12_inners
  rw [isK_S h1, bnP_1, e, bnP_1]
  exact ⟨_, rfl⟩
theorem ac_stand (h1 : hK σ a = 10) (h2 : hR σ a 0 = some wl) (hl : LsI σ wl we c wf) (hw : ∀ i, i < c → WrI σ (wf i)) (hS : hN σ ≤ BIG) : ∃ r, fX10_standing (some a) σ = some r := by
  have hc := hl.2.2.1
  obtain ⟨r, e⟩ := lpP_ex (f := fX10_standing_l1 (some a) σ) (fun k (q : Int32 × Int32) => q.2 = nI k) c (fun k q hk hq => by
    obtain ⟨r, er⟩ := wr_in (hw k hk) hS
    obtain ⟨w1, w2, w3⟩ := hw k hk
    have ck : ckK σ (some (wf k)) 14 = some () := if_pos ⟨w1, w2⟩
    unfold fX10_standing_l1
    rw [gR_S h1 h2, bnP_1, li_size hl, bnP_1, hq, if_neg (nI_ge hk (by omega)), bnP_1, li_get hl hk, bnP_1, ck, bnP_1, gI_S w1, bnP_1]
    have hj : ∃ p : Int32 × Int32, (if hI σ (wf k) 2 = 0 then some (q.1, (1 : Int32)) else some (q.1, 0)) = some p := by
      split <;> exact ⟨_, rfl⟩
    obtain ⟨p, hp⟩ := hj
    rw [hp, bnP_1, bnP_1, li_get hl hk, bnP_1, ck, bnP_1, er, bnP_1]
    exact ⟨_, rfl, nI_a1 k⟩) (fun q hq => by
    unfold fX10_standing_l1
    rw [gR_S h1 h2, bnP_1, li_size hl, bnP_1, hq, if_pos (nI_le (Nat.le_refl _) (by omega))]
    exact ⟨_, rfl⟩) c 0 FUEL (0, 0) (by omega) (show c < 200000 by omega) rfl
  unfold fX10_standing
  rw [isK_S h1, bnP_1, e, bnP_1]
  exact ⟨_, rfl⟩
theorem tb_mv (h : TB σ t0 lo L d la lv ea R Q A a wl c B1 mk) (hB : hN σ ≤ BIG) (fr : FR σ σ' S) (hS : ∀ x, x < hN σ → S x → x = a ∨ x = d ∨ hK σ x = 14) (hD : DsI σ' d la lv R Q) (r0 : hR σ' a 0 = hR σ a 0) (r7 : hR σ' a 7 = hR σ a 7) (i4 : hI σ' a 4 = nI mk') (hw : ∀ w, WrI σ w → WrI σ' w) : TB σ' t0 lo L d la lv ea R Q A a wl c B1 mk' := by
  obtain ⟨tv, we, wf, s, y, hs, ⟨h1, h2, h3, h4⟩, ⟨⟨a1, a2, a3, a4, a5⟩, hl, hwf⟩, st, sn, yn, yt, lt⟩ := h
  have d13 := h1.1.1
  have out : ∀ x, x < hN σ → hK σ x ≠ 10 → hK σ x ≠ 13 → hK σ x ≠ 14 → ¬ S x := fun x hx p10 p13 p14 q => by
    rcases hS x hx q with u | u | u
    · exact p10 (by rw [u]; exact a1)
    · exact p13 (by rw [u]; exact d13)
    · exact p14 u
  have hn := fr.1
  have c11 := hs.1.1
  have c22 := hs.2.1.1
  have c12 := h2.1.1
  have w12 := hl.1.1
  have s15 := st.1.1
  have y22 := st.2.1.1
  refine ⟨tv, we, wf, s, y, sb_fr hs fr (out _ hs.1.2.1 (by omega) (by omega) (by omega)) (out _ hs.2.1.2.1 (by omega) (by omega) (by omega)), ⟨hD, li_fr h2 fr (out _ h2.1.2.1 (by omega) (by omega) (by omega)) (fun he => out _ he (by have := ls_e h2 hB he; omega) (by have := ls_e h2 hB he; omega) (by have := ls_e h2 hB he; omega)), h3, h4⟩, ⟨⟨(fr.2 a a2).1.trans a1, by omega, r0.trans a3, i4, r7.trans a5⟩, li_fr hl fr (out _ hl.1.2.1 (by omega) (by omega) (by omega)) (fun he => out _ he (by have := ls_e hl hB he; omega) (by have := ls_e hl hB he; omega) (by have := ls_e hl hB he; omega)), fun i hi => hw _ (hwf i hi)⟩, st_fr st fr sn yn (out _ sn (by omega) (by omega) (by omega)) (out _ yn (by omega) (by omega) (by omega)), by omega, by omega, yt, lt⟩
theorem tb_sb (h : TB σ t0 lo L d la lv ea R Q A a wl c B1 mk) (hB : hN σ ≤ BIG) (q : ∀ tv, SBI σ t0 tv L → SBN σ σ' t0 tv L2) : TB σ' t0 lo L2 d la lv ea R Q A a wl c B1 mk ∧ hN σ' ≤ hN σ + 1 ∧ KP lo σ σ' := by
  obtain ⟨tv, we, wf, s, y, hs, ⟨h1, h2, h3, h4⟩, ⟨⟨a1, a2, a3, a4, a5⟩, hl, hwf⟩, st, sn, yn, yt, lt⟩ := h
  obtain ⟨tv', s2, htv, hn2, fr⟩ := q tv hs
  have d13 := h1.1.1
  have c11 := hs.1.1
  have c22 := hs.2.1.1
  have out : ∀ x, x < hN σ → hK σ x ≠ 11 → hK σ x ≠ 22 → ¬ (x = t0 ∨ x = tv) := fun x hx p11 p22 q => by
    rcases q with u | u
    · exact p11 (by rw [u]; exact c11)
    · exact p22 (by rw [u]; exact c22)
  have hn := fr.1
  have c12 := h2.1.1
  have w12 := hl.1.1
  have s15 := st.1.1
  have y22 := st.2.1.1
  have ha := (fr.2 a a2).2.2 (out _ a2 (by omega) (by omega))
  refine ⟨⟨tv', we, wf, s, y, s2, ⟨ds_fr h1 fr (out _ h1.1.2.1 (by omega) (by omega)), li_fr h2 fr (out _ h2.1.2.1 (by omega) (by omega)) (fun he => out _ he (by have := ls_e h2 hB he; omega) (by have := ls_e h2 hB he; omega)), h3, h4⟩, ⟨⟨(fr.2 a a2).1.trans a1, by omega, (ha 0).2.trans a3, (ha 4).1.trans a4, (ha 7).2.trans a5⟩, li_fr hl fr (out _ hl.1.2.1 (by omega) (by omega)) (fun he => out _ he (by have := ls_e hl hB he; omega) (by have := ls_e hl hB he; omega)), fun i hi => wi_fr (hwf i hi) fr (out _ (hwf i hi).2.1 (by have := (hwf i hi).1; omega) (by have := (hwf i hi).1; omega))⟩, st_fr st fr sn yn (out _ sn (by omega) (by omega)) (fun q => ?_), by omega, by omega, ?_, by omega, lt.2⟩, hn2, fr_m fr (fun x _ q => Or.inr (by omega))⟩
  · rcases q with u | u
    · rw [u] at y22; omega
    · exact yt u
  · rcases htv with u | u
    · rw [u]; exact yt
    · omega
theorem tb_eq (hs : SBI σ t0 tv L) (q : SBN σ σ' t0 tv L2) : ∀ tv2, SBI σ t0 tv2 L → SBN σ σ' t0 tv2 L2 := fun tv2 hs2 => by
  have e1 := hs.1.2.2.1
  rw [hs2.1.2.2.1] at e1
  cases e1
  exact q
theorem tb_chr (h : TB σ t0 lo L d la lv ea R Q A a wl c B1 mk) (hc : e < 128) (h3 : L.length + 1 ≤ 300) (hB : hN σ < BIG) : HOA (fJ4_append_cf468 (some t0) (nI e) σ) σ (fun r σ' => r = some t0 ∧ TB σ' t0 lo (L ++ [e]) d la lv ea R Q A a wl c B1 mk ∧ hN σ' ≤ hN σ + 1 ∧ KP lo σ σ') := by
  obtain ⟨tv, we, wf, s, y, hs, -⟩ := id h
  exact hoa_w (sb_chr hs hc h3 hB) (fun r σ' _ q => ⟨q.1, tb_sb h (by omega) (tb_eq hs q.2)⟩)
theorem tb_dig (h : TB σ t0 lo L d la lv ea R Q A a wl c B1 mk) (hc : e < 10) (h3 : L.length + 1 ≤ 300) (hB : hN σ + 2 < BIG) : HOA (fJ4_append_bf812 (some t0) (nI e) σ) σ (fun r σ' => r = some t0 ∧ TB σ' t0 lo (L ++ [48 + e]) d la lv ea R Q A a wl c B1 mk ∧ hN σ' ≤ hN σ + 1 ∧ KP lo σ σ') := by
  obtain ⟨tv, we, wf, s, y, hs, -⟩ := id h
  exact hoa_w (sb_dig hs hc h3 hB) (fun r σ' _ q => ⟨q.1, tb_sb h (by omega) (tb_eq hs q.2)⟩)
theorem tb_con (h : TB σ t0 lo L d la lv ea R Q A a wl c B1 mk) {j : Nat} (hj : j < 47) (hL : (byS j).length = L2.length) (hb : ∀ k, k < L2.length → (byS j).getD k 0 = nI (L2.getD k 0)) (h1 : ∀ b ∈ L2, b < 128) (h3 : L.length + L2.length ≤ 300) (hB : hN σ + 4 < BIG) : HOA (fJ4_append_15ec4 (some t0) (some (BIG + j)) σ) σ (fun r σ' => r = some t0 ∧ TB σ' t0 lo (L ++ L2) d la lv ea R Q A a wl c B1 mk ∧ hN σ' ≤ hN σ + 1 ∧ KP lo σ σ') := by
  obtain ⟨tv, we, wf, s, y, hs, -⟩ := id h
  have htv := hs.2.1.2.1
  exact hoa_w (sb_str (x := BIG + j) (y := BIG + j + 100) hs (fun σ' f hn => st_con (by omega) hj hL hb h1 (by omega)) h3 (by omega) (Or.inr (by omega)) (by omega)) (fun r σ' _ q => ⟨q.1, tb_sb h (by omega) (tb_eq hs q.2)⟩)
theorem tb_str (h : TB σ t0 lo L d la lv ea R Q A a wl c B1 mk) (hs0 : STR σ x y L2) (hx : x < hN σ) (hy : y < hN σ) (hyt : NoT σ t0 y) (h3 : L.length + L2.length ≤ 300) (hB : hN σ + 2 < BIG) : HOA (fJ4_append_15ec4 (some t0) (some x) σ) σ (fun r σ' => r = some t0 ∧ TB σ' t0 lo (L ++ L2) d la lv ea R Q A a wl c B1 mk ∧ hN σ' ≤ hN σ + 1 ∧ KP lo σ σ') := by
  obtain ⟨tv, we, wf, s, y2, hs, -⟩ := id h
  have c11 := hs.1.1
  exact hoa_w (sb_str (x := x) (y := y) hs (fun σ' f hn => st_fr hs0 f hx hy (fun u => by have := hs0.1.1; rw [u] at this; omega) (fun u => by have := hs0.2.1.1; rw [u] at this; omega)) h3 (hyt tv hs.1.2.2.1) (Or.inl hy) hB) (fun r σ' _ q => ⟨q.1, tb_sb h (by omega) (tb_eq hs q.2)⟩)
theorem tb_7 (h : TB σ t0 lo L d la lv ea R Q A a wl c B1 mk) : ∃ s y, gR σ (some a) 10 7 = some (some s) ∧ STR σ s y B1 ∧ s < hN σ ∧ y < hN σ ∧ NoT σ t0 y := by
  obtain ⟨tv, we, wf, s, y, hs, -, ⟨⟨a1, a2, a3, a4, a5⟩, -⟩, st, sn, yn, yt, lt⟩ := h
  refine ⟨s, y, gR_S a1 a5, st, sn, yn, fun tv2 e => ?_⟩
  rw [hs.1.2.2.1] at e
  cases e
  exact yt
/-- an int of the act written -/
theorem tb_pI (h : TB σ t0 lo L d la lv ea R Q A a wl c B1 mk) (hB : hN σ ≤ BIG) (f9 : Nat) (v9 : Int32) (hmk : if f9 = 4 then v9 = nI mk' else mk' = mk) : pI σ (some a) 10 f9 v9 = some (wI σ a f9 v9) ∧ TB (wI σ a f9 v9) t0 lo L d la lv ea R Q A a wl c B1 mk' ∧ hN (wI σ a f9 v9) = hN σ ∧ KP lo σ (wI σ a f9 v9) := by
  obtain ⟨tv, we, wf, s, y, hs, ⟨h1, -⟩, ⟨⟨a1, a2, a3, a4, a5⟩, hl, hwf⟩, -, -, -, -, lt⟩ := id h
  have fr := fr_wI a2 f9 v9
  have d13 := h1.1.1
  refine ⟨pI_S a1 a2, tb_mv h hB fr (fun x _ q => Or.inl q) (ds_fr h1 fr (fun q => by rw [q] at d13; omega)) rfl rfl ?_ (fun w hw => wi_fr hw fr (fun q => by have := hw.1; rw [q] at this; omega)), rfl, fr_m fr (fun x _ q => Or.inr (by rw [q]; exact lt.2.2.1))⟩
  rw [hI_wI _ _ _ _ _ _ a2]
  by_cases z : f9 = 4
  · rw [if_pos z] at hmk
    rw [if_pos ⟨rfl, z.symm⟩]
    exact hmk
  · rw [if_neg z] at hmk
    rw [if_neg (fun q => z q.2.symm), hmk]
    exact a4
theorem tb_get (h : TB σ t0 lo L d la lv ea R Q A a wl c B1 mk) (hi : i < c) : ∃ w, gR σ (some a) 10 0 = some (some wl) ∧ fJx4a65c_get_915e3 (some wl) (nI i) σ = some (some w) ∧ ckK σ (some w) 14 = some () ∧ WrI σ w := by
  obtain ⟨tv, we, wf, s, y, hs, ⟨h1, -⟩, ⟨⟨a1, a2, a3, a4, a5⟩, hl, hwf⟩, -⟩ := h
  exact ⟨wf i, gR_S a1 a3, li_get hl hi, if_pos ⟨(hwf i hi).1, (hwf i hi).2.1⟩, hwf i hi⟩
theorem tb_4 (h : TB σ t0 lo L d la lv ea R Q A a wl c B1 mk) : gI σ (some a) 10 4 = some (nI mk) := by
  obtain ⟨tv, we, wf, s, y, hs, ⟨h1, -⟩, ⟨⟨a1, a2, a3, a4, a5⟩, hl, hwf⟩, -⟩ := h
  rw [gI_S a1, a4]
/-- a word struck; a word with an inner one -/
theorem tb_pZ (h : TB σ t0 lo L d la lv ea R Q A a wl c B1 mk) (hB : hN σ ≤ BIG) (hw : WrI σ w) : pZ σ (some w) 14 2 1 = some (wI σ w 2 1) ∧ TB (wI σ w 2 1) t0 lo L d la lv ea R Q A a wl c B1 mk ∧ hN (wI σ w 2 1) = hN σ ∧ KP lo σ (wI σ w 2 1) := by
  obtain ⟨tv, we, wf, s, y, hs, ⟨h1, -⟩, ⟨⟨a1, a2, a3, a4, a5⟩, hl, hwf⟩, -, -, -, -, lt⟩ := id h
  have fr := fr_wI hw.2.1 2 1
  have d13 := h1.1.1
  have w14 := hw.1
  refine ⟨?_, tb_mv h hB fr (fun x _ q => Or.inr (Or.inr (by rw [q]; exact w14))) (ds_fr h1 fr (fun q => by rw [q] at d13; omega)) rfl rfl ?_ (fun w2 h2 => ?_), rfl, fr_m fr (fun x _ q => Or.inl (by rw [q]; exact w14))⟩
  · unfold pZ
    rw [if_pos (Or.inr rfl)]
    exact pI_S hw.1 hw.2.1
  · rw [hI_wI _ _ _ _ _ _ hw.2.1, if_neg (fun q => by rw [q.1] at a1; omega)]
    exact a4
  · exact ⟨h2.1, h2.2.1, h2.2.2⟩
theorem tb_pR (h : TB σ t0 lo L d la lv ea R Q A a wl c B1 mk) (hB : hN σ ≤ BIG) (hw : WrI σ w) : pR σ (some w) 14 3 (some (BIG + 43)) = some (wR σ w 3 (some (BIG + 43))) ∧ TB (wR σ w 3 (some (BIG + 43))) t0 lo L d la lv ea R Q A a wl c B1 mk ∧ hN (wR σ w 3 (some (BIG + 43))) = hN σ ∧ KP lo σ (wR σ w 3 (some (BIG + 43))) := by
  obtain ⟨tv, we, wf, s, y, hs, ⟨h1, -⟩, ⟨⟨a1, a2, a3, a4, a5⟩, hl, hwf⟩, -, -, -, -, lt⟩ := id h
  have fr := fr_wR hw.2.1 3 (some (BIG + 43))
  have d13 := h1.1.1
  have w14 := hw.1
  have hne : a ≠ w := fun q => by rw [q] at a1; omega
  refine ⟨pR_S hw.1 hw.2.1, tb_mv h hB fr (fun x _ q => Or.inr (Or.inr (by rw [q]; exact w14))) (ds_fr h1 fr (fun q => by rw [q] at d13; omega)) ?_ ?_ a4 (fun w2 h2 => ?_), rfl, fr_m fr (fun x _ q => Or.inl (by rw [q]; exact w14))⟩
  · rw [hR_wR _ _ _ _ _ _ hw.2.1, if_neg (fun q => hne q.1)]
  · rw [hR_wR _ _ _ _ _ _ hw.2.1, if_neg (fun q => hne q.1)]
  · refine ⟨h2.1, h2.2.1, ?_⟩
    rw [hR_wR _ _ _ _ _ _ hw.2.1]
    by_cases z : w2 = w
    · rw [if_pos ⟨z, rfl⟩]
      exact Or.inr rfl
    · rw [if_neg (fun q => z q.1)]
      exact h2.2.2
/-- the desk's cash -/
theorem tb_cash (h : TB σ t0 lo L d la lv ea R Q A a wl c B1 mk) (hB : hN σ ≤ BIG) (v9 : Int32) : pI σ (some d) 13 3 v9 = some (wI σ d 3 v9) ∧ TB (wI σ d 3 v9) t0 lo L d la lv ea R Q A a wl c B1 mk ∧ hN (wI σ d 3 v9) = hN σ ∧ KP lo σ (wI σ d 3 v9) := by
  obtain ⟨tv, we, wf, s, y, hs, ⟨h1, -⟩, ⟨⟨a1, a2, a3, a4, a5⟩, hl, hwf⟩, -, -, -, -, lt⟩ := id h
  obtain ⟨⟨d1, d2, d3, d4, d5, d6⟩, dr, dl⟩ := id h1
  have fr := fr_wI d2 3 v9
  refine ⟨pI_S d1 d2, tb_mv h hB fr (fun x _ q => Or.inr (Or.inl q)) ⟨⟨d1, d2, d3, d4, ?_, ?_⟩, dr, dl⟩ rfl rfl ?_ (fun w2 h2 => ⟨h2.1, h2.2.1, h2.2.2⟩), rfl, fr_m fr (fun x _ q => Or.inr (by rw [q]; exact lt.2.2.2))⟩
  · rw [hI_wI _ _ _ _ _ _ d2, if_neg (fun q => by cases q.2)]
    exact d5
  · rw [hI_wI _ _ _ _ _ _ d2, if_neg (fun q => by cases q.2)]
    exact d6
  · rw [hI_wI _ _ _ _ _ _ d2, if_neg (fun q => by rw [q.1] at a1; omega)]
    exact a4
end P56T
