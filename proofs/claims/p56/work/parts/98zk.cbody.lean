/-! THE PURE LEVEL, 95: the class reads an act's body -/
def BC (G : Nat → Nat → Int32) (J : Nat → Nat → Int64) (c : Nat) (N0 N : tN) : Prop := G 68 2 = nI (nWd N - nWd N0) ∧ ∀ g, nWd N0 ≤ g → g < nWd N → wdR (N (127 + 13 * g)) (N (127 + 13 * g + 1)) (J (c + 4) g) ∧ G (c + 5) g = nI (cntV (cF N) (nCl N0) (nCl N - nCl N0) g) ∧ G (c + 6) g = nI (cntV (tO N) (nCl N0) (nCl N - nCl N0) g) ∧ G (c + 7) g = 0 ∧ G (c + 8) g = 0
def CBR (f : Nat → Int32) (e c : Nat) (N0 : tN) (kd : Int32) : PRes → Bool → (Nat → Nat → Int32) → (Nat → Nat → Int64) → Prop
  | .ok r, b, G, J => b = true ∧ CGd f e r.1 c N0 G J ∧ BC G J c N0 r.2 ∧ BI N0 r.2 kd 0 0 ∧ nWd N0 < nWd r.2
  | .error x, b, G, J => ∃ p, CGd f e p c N0 G J ∧ ((b = false ∧ G 68 0 = nI x.1 ∧ G 68 1 = nI x.2) ∨ (b = true ∧ tkK f e p = 5 ∧ x = (1, tkS f e p) ∧ ∃ N, BC G J c N0 N ∧ BI N0 N kd 0 0 ∧ nWd N0 < nWd N))
theorem cntV_cong {F F' : Nat → Nat} {k C g : Nat} (h : ∀ c, k ≤ c → c < k + C → F' c = F c) : cntV F' k C g = cntV F k C g := cntN_cong fun i hi => by rw [h _ (by omega) (by omega)]
section CBD
variable {σ : HpT} {G G' : Nat → Nat → Int32} {J J' : Nat → Nat → Int64} {f : Nat → Int32} {e p c n i o : Nat} {N0 N N' M R : tN} {kd lo hi : Int32} {cur d cur' d' a l W : Nat} {w : Int64}
/-- what a word adds, but for the leaves -/
theorem adw_o (hlt : nWd N / nRm N < 12) {j : Nat} (h1 : j < 99 ∨ 111 ≤ j) (h0 : j ≠ 0) (ha : a < 10) (h2 : j < 127 + 13 * nWd N ∨ 140 + 13 * nWd N ≤ j) (h3 : j ≠ 4) (h4 : j ≠ 15 + 9 * a) : adW N a cur lo hi j = N j := by
  have oM : ∀ j, (j < 127 + 13 * nWd N ∨ 140 + 13 * nWd N ≤ j) → j ≠ 4 → j ≠ 15 + 9 * a → adB N a cur lo hi j = N j := fun j h1 h2 h3 => by
    unfold adB
    rw [if_neg (by omega), if_neg (by omega), if_neg (by omega), if_neg (by omega), if_neg h2, if_neg h3]
  unfold adW
  rw [lv_o (by rw [show nRm (adB N a cur lo hi) = nRm N from nv_e (oM 0 (by omega) (by omega) (by omega))]; exact hlt) h1]
  exact oM j h2 h3 h4
theorem adw_n (hlt : nWd N / nRm N < 12) (ha : a < 10) : adW N a cur lo hi (127 + 13 * nWd N) = lo ∧ adW N a cur lo hi (127 + 13 * nWd N + 1) = hi ∧ adW N a cur lo hi 4 = nI (nWd N + 1) := by
  have oM : adB N a cur lo hi 0 = N 0 := by
    unfold adB
    rw [if_neg (by omega), if_neg (by omega), if_neg (by omega), if_neg (by omega), if_neg (by omega), if_neg (by omega)]
  have hl : nWd N / nRm (adB N a cur lo hi) < 12 := by rw [show nRm (adB N a cur lo hi) = nRm N from nv_e oM]; exact hlt
  unfold adW
  rw [lv_o hl (by omega), lv_o hl (by omega), lv_o hl (by omega)]
  unfold adB
  refine ⟨if_pos rfl, ?_, ?_⟩
  · rw [if_neg (by omega), if_pos (by omega)]
  · rw [if_neg (by omega), if_neg (by omega), if_neg (by omega), if_neg (by omega), if_pos rfl]
/-- what is put behind the words -/
theorem rb_stg (hw : WFN N0) (hG : ∀ a, a ≠ c + 5 → a ≠ c + 6 → a ≠ c + 7 → a ≠ c + 8 → c ≤ a → a < c + 33 → G' a = G a) (hg : ∀ a g, c + 5 ≤ a → a ≤ c + 8 → g < nWd N0 → G' a g = G a g) (hJ : ∀ a, a ≠ c + 4 → c ≤ a → a < c + 33 → J' a = J a) (hj : ∀ g, g < nWd N0 → J' (c + 4) g = J (c + 4) g) (r : RB G J c N0) : RB G' J' c N0 := by
  have hb := w1_b hw.1
  have h12 := nlv_12 hw.1
  obtain ⟨⟨a1, a2, a3, a4, a5, a6, a7, a8, a9, a10, a11⟩, ⟨b1, b2⟩, c1⟩ := r
  have e0 := hG c (by omega) (by omega) (by omega) (by omega) (by omega) (by omega)
  have e3 := hG (c + 3) (by omega) (by omega) (by omega) (by omega) (by omega) (by omega)
  have e10 := hG (c + 10) (by omega) (by omega) (by omega) (by omega) (by omega) (by omega)
  have e11 := hG (c + 11) (by omega) (by omega) (by omega) (by omega) (by omega) (by omega)
  have j9 := hJ (c + 9) (by omega) (by omega) (by omega)
  refine ⟨⟨by rw [e0]; exact a1, by rw [e0]; exact a2, by rw [e0]; exact a3, by rw [e0]; exact a4, by rw [e0]; exact a5, by rw [e0]; exact a6, by rw [e3]; exact a7, by rw [e10]; exact a8, by rw [e10]; exact a9, fun a ha => ?_, fun l hl => by rw [e11]; exact a11 l hl⟩, ⟨fun g hgg => ?_, fun a ha g h1 h2 => ?_⟩, fun k hk => ?_⟩
  · rw [hG (c + 15 + a) (by omega) (by omega) (by omega) (by omega) (by omega) (by omega)]
    exact a10 a ha
  · rw [hj g hgg, hg (c + 7) g (by omega) (by omega) hgg, hg (c + 8) g (by omega) (by omega) hgg, j9]
    exact b1 g hgg
  · have hl := act_le hw.1 hw.2.1 ha
    rw [hg (c + 5) g (by omega) (by omega) (by omega), hg (c + 6) g (by omega) (by omega) (by omega)]
    exact b2 a ha g h1 h2
  · have e := hG (c + 25 + k) (by omega) (by omega) (by omega) (by omega) (by omega) (by omega)
    have q := c1 k hk
    unfold RC at *
    rw [e]
    exact q
/-- the same for the token's place -/
theorem cg_stg (h : PC σ c) (g : CGd f e p c N0 G J) (hG : ∀ a, a ≠ 68 → a ≠ c + 5 → a ≠ c + 6 → a ≠ c + 7 → a ≠ c + 8 → G' a = G a) (hg : ∀ a g, c + 5 ≤ a → a ≤ c + 8 → g < nWd N0 → G' a g = G a g) (hJ : ∀ a, a ≠ c + 4 → J' a = J a) (hj : ∀ g, g < nWd N0 → J' (c + 4) g = J (c + 4) g) : CGd f e p c N0 G' J' ∧ PFR c G G' J J' := by
  obtain ⟨⟨he, hp, hf⟩, s, hw, r⟩ := g
  have hc := h.2.2.2.2
  refine ⟨⟨⟨he, hp, fun k hk => by rw [hG 1 (by omega) (by omega) (by omega) (by omega) (by omega)]; exact hf k hk⟩, ?_, hw, rb_stg hw (fun a h1 h2 h3 h4 h5 h6 => hG a (by omega) h1 h2 h3 h4) hg (fun a h1 _ _ => hJ a h1) hj r⟩, fun a h1 h2 h3 => ⟨hG a h1 (by omega) (by omega) (by omega) (by omega), hJ a (by omega)⟩⟩
  rw [hG 69 (by omega) (by omega) (by omega) (by omega) (by omega), hJ 69 (by omega)]
  exact s
theorem c_stage (B : BK σ c) (w1 : W1 N0) (r : RB G J c N0) (h1 : nWd N0 ≤ i) (h2 : i < 240) (o : Int32) : fX8_stage (some (c + 3)) (nI i) w o (wc σ G J) = some (wc σ (up (up (up (up G (c + 5) i o) (c + 6) i 0) (c + 7) i 0) (c + 8) i 0) (upJ J (c + 4) i w)) := by
  have hs := bk_S B
  have e0 : G (c + 3) 0 = nI (nWd N0) := r.1.2.2.2.2.2.2.1.trans (w1_e w1).2.2.1
  unfold fX8_stage
  rw [sk_o hs, bnP_1, sk_I hs, bnP_1, e0, if_neg (nI_nlt h1 (by omega)), if_neg (show ¬ 240 ≤ nI i from nI_ge (b := 240) h2 (by decide)), sk_r1 hs, bnP_1, sk_s1 hs h2, bnP_1, sk_r2 hs, bnP_1, sk_s2 hs h2, bnP_1, sk_r3 hs, bnP_1, sk_s3 hs h2, bnP_1, sk_r4 hs, bnP_1, sk_s4 hs h2, bnP_1, sk_r5 hs, bnP_1, sk_s5 hs h2, bnP_1]
  rfl
theorem c_closeBehind (B : BK σ c) (w1 : W1 N0) (r : RB G J c N0) (h1 : nWd N0 ≤ i) (h2 : i < 240) : fX8_closeBehind (some (c + 3)) (nI i) (wc σ G J) = some (wc σ (up G (c + 6) i (G (c + 6) i + 1)) J) := by
  have hs := bk_S B
  have e0 : G (c + 3) 0 = nI (nWd N0) := r.1.2.2.2.2.2.2.1.trans (w1_e w1).2.2.1
  unfold fX8_closeBehind
  rw [sk_o hs, bnP_1, sk_I hs, bnP_1, e0, if_neg (nI_nlt h1 (by omega)), if_neg (show ¬ 240 ≤ nI i from nI_ge (b := 240) h2 (by decide)), sk_r3 hs, bnP_1, sk_a3 hs h2, bnP_1, sk_s3 hs h2, bnP_1]
end CBD
