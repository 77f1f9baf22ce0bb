/-! THE PURE LEVEL, 104: the class reads a text, from its call -/
def rdH (σ : HpT) (c : Nat) : HpT := wR (wR σ 68 4 (some c)) 69 0 (some 1)
section CT2
variable {σ : HpT} {G G' G2 : Nat → Nat → Int32} {J J' J2 : Nat → Nat → Int64} {f : Nat → Int32} {e p c lo hi v : Nat} {N : tN} {x : Nat × Nat}
theorem rd_R (hn : 91 ≤ hN σ) (a k : Nat) : hR (rdH σ c) a k = if a = 69 ∧ k = 0 then some 1 else if a = 68 ∧ k = 4 then some c else hR σ a k := by
  unfold rdH
  rw [hR_wR _ _ _ _ _ _ (show 69 < hN (wR σ 68 4 (some c)) from by show 69 < hN σ; omega), hR_wR _ _ _ _ _ _ (show 68 < hN σ by omega)]
theorem rd_pc (hn : 91 ≤ hN σ) (hS : hN σ ≤ BIG) (k1 : hK σ 1 = 22 ∧ hZ σ 1 = 600) (k68 : hK σ 68 = 5 ∧ hR σ 68 3 = some 69 ∧ hK σ 69 = 7) (B : BK σ c) (hc : c = 2 ∨ c = 35 ∨ 91 ≤ c) : PC (rdH σ c) c := by
  refine ⟨⟨hn, k1, k68.2.2, ?_⟩, ⟨k68.1, ?_, ?_⟩, hS, ?_, hc⟩
  · rw [rd_R hn, if_pos ⟨rfl, rfl⟩]
  · rw [rd_R hn, if_neg (by decide), if_neg (by decide)]
    exact k68.2.1
  · rw [rd_R hn, if_neg (by decide), if_pos ⟨rfl, rfl⟩]
  · exact bk_ext B (Nat.le_refl _) fun a h1 h2 => ⟨rfl, rfl, fun k => by rw [rd_R hn, if_neg (by omega), if_neg (by omega)]⟩
/-- the scanner at its start -/
theorem c_startAt (hn : 91 ≤ hN σ) (hS : hN σ ≤ BIG) (h : PC (rdH σ c) c) (k1 : hK σ 1 = 22 ∧ hZ σ 1 = 600) (k69 : hK σ 69 = 7) (he : e ≤ 600) (hf : ∀ k, k < e → G 1 k = f k) : ∃ G' J', fX7_startAt (some 69) (some 1) (nI e) (wc (wR σ 68 4 (some c)) G J) = some (wc (rdH σ c) G' J') ∧ (∀ a, a ≠ 69 → G' a = G a ∧ J' a = J a) ∧ CS0 f e 0 G' J' := by
  have e1 : pR (wc (wR σ 68 4 (some c)) G J) (some 69) 7 0 (some 1) = some (wc (rdH σ c) G J) := by
    unfold pR
    dsimp only
    rw [if_pos ⟨k69, by show 69 < hN σ; omega⟩]
    rfl
  have e2 : aL (wc (rdH σ c) G J) (some 1) 22 = some (nI 600) := by
    rw [aL_S (S := wc (rdH σ c) G J) (show hK σ 1 = 22 from k1.1)]
    show some (nI (hZ σ 1)) = _
    rw [k1.2]
  have pk := h.1
  generalize hG1 : up (up G 69 2 (nI e)) 69 1 0 = G1
  have o1 : ∀ a, a ≠ 69 → G1 a = G a := fun a ha => by rw [← hG1, up_a ha, up_a ha]
  obtain ⟨g, w, s1, s2⟩ := c_step (f := f) (G := G1) (J := J) pk he (p := 0) (Nat.zero_le _) (by rw [← hG1, up_eq]; rfl) (by rw [← hG1, up_k (by decide), up_eq]) (fun k hk => by rw [o1 1 (by decide)]; exact hf k hk)
  refine ⟨cw G1 69 g, upJ J 69 6 w, ?_, fun a ha => ⟨by rw [cw_b ha, o1 a ha], upJ_a ha⟩, ⟨he, Nat.zero_le _, fun k hk => by rw [cw_b (by decide), o1 1 (by decide)]; exact hf k hk⟩, by rw [cw_a, upJ_eq]; exact s2⟩
  unfold fX7_startAt
  rw [isK_c (σ := wR σ 68 4 (some c)) k69, bnP_1, e1, bnP_1, e2, bnP_1]
  unfold mmn
  rw [if_neg (nI_nlt he (by decide)), pI_c (σ := rdH σ c) k69 (show 69 < hN σ by omega), bnP_1, pI_c (σ := rdH σ c) k69 (show 69 < hN σ by omega), bnP_1, hG1, s1, bnP_1]
theorem c_clear (B : BK σ c) : ∃ G', fX1_clear (some c) (wc σ G J) = some (wc σ G' J) ∧ (∀ a, (a < c ∨ c + 33 ≤ a) → G' a = G a) ∧ (G' c 2 = 0 ∧ G' c 3 = 0 ∧ G' c 4 = 0 ∧ G' c 5 = 0) ∧ G' (c + 3) 0 = 0 ∧ G' (c + 10) 1 = 0 := by
  refine ⟨up (up (up (up (up (up G c 2 0) c 3 0) c 4 0) c 5 0) (c + 3) 0 0) (c + 10) 1 0, ?_, fun a ha => ?_, ⟨?_, ?_, ?_, ?_⟩, ?_, ?_⟩
  · unfold fX1_clear
    rw [bk_o B, bnP_1, bk_P B, bnP_1, bk_P B, bnP_1, bk_P B, bnP_1, bk_P B, bnP_1, bk_r8 B, bnP_1, sk_P (bk_S B), bnP_1, bk_r9 B, bnP_1, lk_P (bk_L B), bnP_1]
  · rw [up_a (by omega), up_a (by omega), up_a (by omega), up_a (by omega), up_a (by omega), up_a (by omega)]
  · rw [up_a (by omega), up_a (by omega), up_k (by decide), up_k (by decide), up_k (by decide), up_eq]
  · rw [up_a (by omega), up_a (by omega), up_k (by decide), up_k (by decide), up_eq]
  · rw [up_a (by omega), up_a (by omega), up_k (by decide), up_eq]
  · rw [up_a (by omega), up_a (by omega), up_eq]
  · rw [up_a (by omega), up_eq]
  · rw [up_eq]
theorem c_readText (hn : 91 ≤ hN σ) (hS : hN σ ≤ BIG) (k1 : hK σ 1 = 22 ∧ hZ σ 1 = 600) (k68 : hK σ 68 = 5 ∧ hR σ 68 3 = some 69 ∧ hK σ 69 = 7) (B : BK σ c) (hc : c = 2 ∨ c = 35 ∨ 91 ≤ c) (he : e ≤ 600) (hf : ∀ k, k < e → G 1 k = f k) : ∃ b G' J', fX5_readText (some 68) (some 1) (nI e) (some c) (wc σ G J) = some (b, wc (rdH σ c) G' J') ∧ PFR c G G' J J' ∧ CRs f e c (ldS f e) b G' J' := by
  have h := rd_pc hn hS k1 k68 B hc
  have e1 : pR (wc σ G J) (some 68) 5 4 (some c) = some (wc (wR σ 68 4 (some c)) G J) := by
    unfold pR
    dsimp only
    rw [if_pos ⟨k68.1, by show 68 < hN σ; omega⟩]
    rfl
  have r4 : hR (wR σ 68 4 (some c)) 68 4 = some c := by rw [hR_wR _ _ _ _ _ _ (show 68 < hN σ by omega), if_pos ⟨rfl, rfl⟩]
  have r3 : hR (wR σ 68 4 (some c)) 68 3 = some 69 := by rw [hR_wR _ _ _ _ _ _ (show 68 < hN σ by omega), if_neg (by decide)]; exact k68.2.1
  have B1 : BK (wR σ 68 4 (some c)) c := bk_ext B (Nat.le_refl _) fun a h1 h2 => ⟨rfl, rfl, fun k => by rw [hR_wR _ _ _ _ _ _ (show 68 < hN σ by omega), if_neg (by omega)]⟩
  obtain ⟨G1, c1, c2, c3, c4, c5⟩ := c_clear (G := G) (J := J) B1
  obtain ⟨G2, J2, s1, s2, s3⟩ := c_startAt (G := G1) (J := J) (f := f) hn hS h k1 k68.2.2 he (fun k hk => by rw [c2 1 (by omega)]; exact hf k hk)
  have f1 : PFR c G G2 J J2 := fun a a1 a2 a3 => ⟨by rw [(s2 a a2).1, c2 a a3], (s2 a a2).2⟩
  obtain ⟨b, G3, J3, d1, d2, d3⟩ := c_head h s3 (by rw [(s2 c (by omega)).1]; exact c3) (by rw [(s2 (c + 3) (by omega)).1]; exact c4) (by rw [(s2 (c + 10) (by omega)).1]; exact c5)
  unfold fX5_readText
  rw [isK_c k68.1, bnP_1, e1, bnP_1, gR_c (σ := wR σ 68 4 (some c)) k68.1 r4, bnP_1, c1, bnP_1, gR_c (σ := wR σ 68 4 (some c)) k68.1 r3, bnP_1, s1, bnP_1, d1, bnS_1]
  unfold ldS
  cases q : hdS f e with
  | error x =>
    rw [q] at d3
    obtain ⟨rfl, d3, d4⟩ := d3
    rw [if_neg (by decide)]
    exact ⟨false, G3, J3, rfl, pf_tr f1 d2, rfl, d3, d4⟩
  | ok r =>
    rw [q] at d3
    obtain ⟨rfl, g3⟩ := d3
    rw [if_pos rfl]
    obtain ⟨b, G4, J4, u1', u2, u3⟩ := c_txt h (e + 1) r.2 r.1 0 G3 J3 (by omega) g3 (Nat.zero_le _) FUEL (show e + 1 < 200000 by omega)
    rw [show lpS (fX5_readText_l1 (some 68)) FUEL 0 (wc (rdH σ c) G3 J3) = _ from u1', bnS_1]
    exact ⟨b, G4, J4, rfl, pf_tr f1 (pf_tr d2 u2), u3⟩
end CT2
