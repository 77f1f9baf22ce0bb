/-! p56, pure: the state between the calls; questions -/
def AR (σ : HpT) (w : Nat) : Prop := hK σ w = 21 ∧ hZ σ w = 100 ∧ 91 ≤ w ∧ w < hN σ
def MM (σ : HpT) (G : Nat → Nat → Int32) : Prop := hK σ 80 = 20 ∧ hZ σ 80 = 7 ∧ G 80 5 = 0 ∧ G 80 6 = 0
def LST (σ : HpT) (G : Nat → Nat → Int32) (J : Nat → Nat → Int64) (N : tN) (V : tV) (w z : Nat) (I : tI) : Prop :=
  ∃ b bs ps P tx E U T, CR σ G J b bs ps P tx E I N U V T ∧ AW E I N U V T ∧ E.1 = 1 ∧ MM σ G ∧ AR σ w ∧ AR σ z ∧ w ≠ z
section P56B
variable {σ : HpT} {G G' : Nat → Nat → Int32} {J J' : Nat → Nat → Int64} {N N' : tN} {V : tV} {w z a i k l c : Nat} {I : tI} {b bs ps tx : Nat} {P : Nat → Option Nat} {E : tE} {T : tI} {U : tU}
theorem exO_1 {α : Type} {a : α} : exO (some (.ok a)) = some a := rfl
theorem bnO_ok {α β : Type} {a : α} {σ : HpT} {i j : Nat} {f : α → HpT → AT β} : bnO (some (.ok a, σ, i, j)) f = addC i j (f a σ) := rfl
theorem inR_y {a lo hi : Nat} (h1 : lo ≤ a) (h2 : a ≤ hi) (h3 : hi < 2 ^ 31) : inR (nI a) (nI lo) (nI hi) = true := by
  rw [inR_nI (by omega) (by omega) h3, decide_eq_true h1, decide_eq_true h2]
  rfl
theorem ls_w (h : LST σ G J N V w z I) : WFN N := by
  obtain ⟨b, bs, ps, P, tx, E, U, T, hC, hA, hE, -⟩ := h
  exact hA.2.1 (by rw [hE]; decide)
theorem ls_q (h : LST σ G J N V w z I) : ∃ b, NK σ 0 b ∧ (G 0 4 ≠ 0 → WFN N ∧ RB G J b N) ∧ G 0 4 ≠ 0 := by
  obtain ⟨b, bs, ps, P, tx, E, U, T, hC, hA, hE, -⟩ := h
  have qE : E.1 ≠ 0 := by rw [hE]; decide
  exact ⟨b, cr_nk hC, fun _ => ⟨hA.2.1 qE, hC.2.2.2.1 qE⟩, by rw [hC.2.1.1]; exact qE⟩
theorem ans_1 {α : Type} {x : α} : ansE 0 1 2 true true true x = .ok x := rfl
theorem lq_count (h : LST σ G J N V w z I) (n : Nat) (hn : n ≤ 15) : fX9_count (some 0) (nI n) (wc σ G J) = some (.ok (cntQ N n)) := by
  obtain ⟨b, nk, hwr, e⟩ := ls_q h
  have e2 : inR (nI n) 0 15 = true := inR_y (lo := 0) (hi := 15) (Nat.zero_le n) hn (by decide)
  rw [cq_count nk hwr, if_neg e, if_pos e2, nI_clamp (by omega)]
theorem lq_act (h : LST σ G J N V w z I) (ha : a < nAc N) (n : Nat) (hn : n ≤ 11) : fX9_act (some 0) (nI (a + 1)) (nI n) (wc σ G J) = some (.ok (actW N a n)) := by
  obtain ⟨b, nk, hwr, e⟩ := ls_q h
  have hb := w1_b (ls_w h).1
  rw [cq_act nk hwr, decide_eq_true e, (w1_e (ls_w h).1).2.1, inR_y (by omega) (by omega) (by omega), inR_y (Nat.zero_le n) hn (by decide), ans_1, nI_clamp (by omega), nI_clamp (by omega), Nat.add_sub_cancel]
theorem lq_word (h : LST σ G J N V w z I) (ha : a < nAc N) (hi : i < aM N a) (n : Nat) (hn : n ≤ 7) : fX9_word (some 0) (nI (a + 1)) (nI i) (nI n) (wc σ G J) = some (.ok (wrdW N a (aF N a + i) n)) := by
  obtain ⟨b, nk, hwr, e⟩ := ls_q h
  have hw := ls_w h
  have hb := w1_b hw.1
  have ho := w2_b hw.2.1 ha
  have q : isW N (nI (a + 1)) (nI i) = true := by
    unfold isW
    rw [(w1_e hw.1).2.1, inR_y (by omega) (by omega) (by omega), nI_clamp (by omega), Nat.add_sub_cancel, inR_y (Nat.zero_le i) (by omega) (by omega)]
    rfl
  rw [cq_word nk hwr, decide_eq_true e, q, inR_y (Nat.zero_le n) hn (by decide), ans_1, nI_clamp (by omega), nI_clamp (by omega), nI_clamp (by omega), Nat.add_sub_cancel]
theorem lq_leaf (h : LST σ G J N V w z I) (hl : l < nLv N) (n : Nat) (hn : n ≤ 5) : fX9_leaf (some 0) (nI l) (nI n) (wc σ G J) = some (.ok (lefW N l n)) := by
  obtain ⟨b, nk, hwr, e⟩ := ls_q h
  have h12 := nlv_12 (ls_w h).1
  rw [cq_leaf nk hwr, decide_eq_true e, there_1 (ls_w h).1 hl, inR_y (Nat.zero_le n) hn (by decide), ans_1, nI_clamp (by omega), nI_clamp (by omega)]
theorem cp_in (hw : WFN N) (hc : c < nCp N) : inR (nI c) (nI 0) (N 6 - 1) = true := by
  have hb := w1_b hw.1
  rw [(w1_e hw.1).2.2.2.2, nI_m1 (by omega)]
  exact inR_y (Nat.zero_le c) (by omega) (by omega)
theorem lq_copy (h : LST σ G J N V w z I) (hc : c < nCp N) (n : Nat) (hn : n ≤ 4) : fX9_copy (some 0) (nI c) (nI n) (wc σ G J) = some (.ok (cpW N c n)) := by
  obtain ⟨b, nk, hwr, e⟩ := ls_q h
  have hb := w1_b (ls_w h).1
  rw [cq_copy nk hwr, decide_eq_true e, cp_in (ls_w h) hc, inR_y (Nat.zero_le n) hn (by decide), ans_1, nI_clamp (by omega), nI_clamp (by omega)]
theorem lq_has (h : LST σ G J N V w z I) (hc : c < nCp N) (hi : i < aM N (oO N c)) : fX9_has (some 0) (nI c) (nI i) (wc σ G J) = some (.ok (hwN N c (aF N (oO N c) + i))) := by
  obtain ⟨b, nk, hwr, e⟩ := ls_q h
  have hw := ls_w h
  have hb := w1_b hw.1
  have ho := (w4_c hw.2.2.2 hc).1.1
  have hm := w2_b hw.2.1 ho
  have q : hasB N (nI c) (nI i) = true := by
    unfold hasB isW
    rw [cp_in hw hc, nI_clamp (by omega), (w1_e hw.1).2.1, inR_y (by omega) (by omega) (by omega), nI_clamp (by omega), Nat.add_sub_cancel, inR_y (Nat.zero_le i) (by omega) (by omega)]
    rfl
  rw [cq_has nk hwr, decide_eq_true e, q, ans_1, nI_clamp (by omega), nI_clamp (by omega)]
theorem lq_gap (h : LST σ G J N V w z I) : fX9_gap (some 0) (wc σ G J) = some (.ok (gapQ N)) := by
  obtain ⟨b, nk, hwr, e⟩ := ls_q h
  rw [cq_gap nk hwr, decide_eq_true e, ans_1]
theorem lq_wns (h : LST σ G J N V w z I) (v : Int32) : fX9_whyNotStrike (some 0) v (wc σ G J) = some (.ok (strQ N v)) := by
  obtain ⟨b, nk, hwr, e⟩ := ls_q h
  rw [cq_whyNotStrike nk hwr, if_neg e]
theorem lq_wnl (h : LST σ G J N V w z I) {v u : Int32} (hv : inR v 0 9 = true) (hu : inR u 0 99 = true) : fX9_whyNotSeal (some 0) v u (wc σ G J) = some (.ok (sealQ N v u)) := by
  obtain ⟨b, nk, hwr, e⟩ := ls_q h
  rw [cq_whyNotSeal nk hwr, if_neg e, hv, hu]
  rfl
theorem lq_uif (h : LST σ G J N V w z I) (hl : l < nLv N) : fX9_unknownIf (some 0) (nI l) (wc σ G J) = some (.ok (lostQ N l)) := by
  obtain ⟨b, nk, hwr, e⟩ := ls_q h
  have h12 := nlv_12 (ls_w h).1
  rw [cq_unknownIf nk hwr, if_neg e, if_pos (there_1 (ls_w h).1 hl), nI_clamp (by omega)]
/-- words of copies are known -/
theorem lq_known (h : LST σ G J N V w z I) : fL_areKnown (some 0) (wc σ G J) = some true := by
  have hw := ls_w h
  have hb := w1_b hw.1
  unfold fL_areKnown
  have e : lpP (fL_areKnown_l1 (some 0) (wc σ G J)) FUEL 0 = some (.inl ()) := by
    refine lpP_f (nCp N) (fun k => nI k) rfl (by omega) (fun k hk => ?_) ?_
    · obtain ⟨⟨q1, q3⟩, q2, -⟩ := w4_c hw.2.2.2 hk
      have ho := w2_b hw.2.1 q1
      have hm := act_le hw.1 hw.2.1 q1
      unfold fL_areKnown_l1
      rw [show fX9_count (some 0) 8 (wc σ G J) = _ from lq_count h 8 (by decide), exO_1, bnP_1, show cntQ N 8 = N 6 from rfl, (w1_e hw.1).2.2.2.2, if_neg (nI_ge hk (by omega)), show fX9_copy (some 0) (nI k) 0 (wc σ G J) = _ from lq_copy h hk 0 (by decide), exO_1, bnP_1, show cpW N k 0 = nI (oO N k + 1) from rfl]
      have e2 : lpP (fL_areKnown_l2 (some 0) (nI k) (nI (oO N k + 1)) (wc σ G J)) FUEL 0 = some (.inl ()) := by
        refine lpP_f (aM N (oO N k)) (fun i => nI i) rfl (by omega) (fun i hi => ?_) ?_
        · unfold fL_areKnown_l2
          rw [show fX9_act (some 0) (nI (oO N k + 1)) 4 (wc σ G J) = _ from lq_act h q1 4 (by decide), exO_1, bnP_1, show actW N (oO N k) 4 = nI (aM N (oO N k)) from rfl, if_neg (nI_ge hi (by omega)), lq_has h hk hi, exO_1, bnP_1, nI_a1]
          cases e3 : hwN N k (aF N (oO N k) + i)
          · rfl
          · rw [if_pos rfl, show fX9_word (some 0) (nI (oO N k + 1)) (nI i) 5 (wc σ G J) = _ from lq_word h q1 hi 5 (by decide), exO_1, bnP_1, show wrdW N (oO N k) (aF N (oO N k) + i) 5 = bI (knN N (aF N (oO N k) + i)) from rfl, kn_has hk e3]
            rfl
        · unfold fL_areKnown_l2
          rw [show fX9_act (some 0) (nI (oO N k + 1)) 4 (wc σ G J) = _ from lq_act h q1 4 (by decide), exO_1, bnP_1, show actW N (oO N k) 4 = nI (aM N (oO N k)) from rfl, if_pos (nI_le (Nat.le_refl _) (by omega))]
      rw [e2, bnP_1, nI_a1]
    · unfold fL_areKnown_l1
      rw [show fX9_count (some 0) 8 (wc σ G J) = _ from lq_count h 8 (by decide), exO_1, bnP_1, show cntQ N 8 = N 6 from rfl, (w1_e hw.1).2.2.2.2, if_pos (nI_le (Nat.le_refl _) (by omega))]
  rw [e, bnP_1]
/-- longs of an array of the law -/
theorem cr_j (hC : CR σ G J b bs ps P tx E I N U V T) (hA : AW E I N U V T) (hw : AR σ w) (f : Nat → Int64) : CR σ G (cwJ J w f) b bs ps P tx E I N U V T := by
  obtain ⟨⟨ck, c1, c2, c3, c4, pb⟩, e, i, hN, ⟨u1, u2, u3, u4⟩, hV, t⟩ := hC
  have key : ∀ i x M, i < 12 → P i = some x → W1 M → RB G J x M → RB G (cwJ J w f) x M := fun i x M hi hx w1 r => rb_same pb w1 hi hx (fun _ _ _ => rfl) (fun a h1 h2 => by
    have := bk_out (pb.1 i x hi hx).1 hw.1 hw.2.1
    exact cwJ_b (by omega)) r
  refine ⟨⟨ck, c1, c2, c3, c4, pb⟩, e, i, fun q => key 0 b N (by decide) c3 (hA.2.1 q).1 (hN q), ⟨u1, u2, u3, fun k hk => ?_⟩, fun k hk => ⟨(hV k hk).1, fun q => ?_⟩, t⟩
  · obtain ⟨x, hx, r⟩ := u4 k hk
    exact ⟨x, hx, key _ x _ (by have := Nat.mod_lt (ps + k) (show 0 < 8 by decide); omega) hx (hA.2.2.1 k hk).1 r⟩
  · obtain ⟨x, hx, r⟩ := (hV k hk).2 q
    exact ⟨x, hx, key _ x _ (by omega) hx (hA.2.2.2 k hk q).1 r⟩
theorem ls_j (h : LST σ G J N V w z I) {y : Nat} (hy : y = w ∨ y = z) (f : Nat → Int64) : LST σ G (cwJ J y f) N V w z I := by
  obtain ⟨b, bs, ps, P, tx, E, U, T, hC, hA, hE, mm, aw, az, hne⟩ := h
  exact ⟨b, bs, ps, P, tx, E, U, T, cr_j hC hA (by rcases hy with rfl | rfl <;> assumption) f, hA, hE, mm, aw, az, hne⟩
theorem ls_ar (h : LST σ G J N V w z I) : AR σ w ∧ AR σ z ∧ w ≠ z := by
  obtain ⟨b, bs, ps, P, tx, E, U, T, hC, hA, hE, mm, aw, az, hne⟩ := h
  exact ⟨aw, az, hne⟩
/-- scratch cells -/
theorem ls_s (h : LST σ G J N V w z I) {b : Nat} (nk : NK σ 0 b) (hG : ∀ a, a ≠ 74 → a ≠ 75 → a ≠ 76 → a ≠ b + 13 → a ≠ b + 14 → G' a = G a) : LST σ G' J N V w z I := by
  obtain ⟨b', bs, ps, P, tx, E, U, T, hC, hA, hE, mm, aw, az, hne⟩ := h
  have eb : b' = b := by
    have e1 := hC.1.2.1
    rw [nk.2.2.1] at e1
    exact (Option.some.inj e1).symm
  subst eb
  have hbb := cr_b hC
  have s13 := scr_13 hC
  have s14 := scr_14 hC
  refine ⟨b', bs, ps, P, tx, E, U, T, cr_frame hC hA (fun a ha => ?_) (fun _ _ => rfl), hA, hE, ⟨mm.1, mm.2.1, ?_, ?_⟩, aw, az, hne⟩
  · exact hG a (fun q => ha (Or.inr (Or.inl (by omega)))) (fun q => ha (Or.inr (Or.inl (by omega)))) (fun q => ha (Or.inr (Or.inl (by omega)))) (fun q => ha (by rw [q]; exact s13)) (fun q => ha (by rw [q]; exact s14))
  · rw [hG 80 (by decide) (by decide) (by decide) (by omega) (by omega)]
    exact mm.2.2.1
  · rw [hG 80 (by decide) (by decide) (by decide) (by omega) (by omega)]
    exact mm.2.2.2
end P56B
