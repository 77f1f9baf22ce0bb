/-! p56, pure: texts by hand, 5: rows of objects -/
def LsI (σ : HpT) (l e n : Nat) (f : Nat → Nat) : Prop := (hK σ l = 12 ∧ l < hN σ ∧ hR σ l 1 = some e ∧ hI σ l 2 = nI n) ∧ ((n = 0 ∧ e = BIG + 203) ∨ (hK σ e = 24 ∧ hZ σ e = 10 ∧ e < hN σ)) ∧ n ≤ 6 ∧ ∀ k, k < n → hR σ e k = some (f k)
def WrI (σ : HpT) (w : Nat) : Prop := hK σ w = 14 ∧ w < hN σ ∧ (hR σ w 3 = some (BIG + 39) ∨ hR σ w 3 = some (BIG + 43))
section P56N
variable {σ σ' σ2 : HpT} {S S' : Nat → Prop} {a b x y t tv l e n k c d v w : Nat} {L L2 : List Nat} {f g : Nat → Nat}
theorem li_fr (h : LsI σ l e n f) (fr : FR σ σ' S) (h1 : ¬ S l) (h2 : e < hN σ → ¬ S e) : LsI σ' l e n f := by
  obtain ⟨⟨a1, a2, a3, a4⟩, b, c, d⟩ := h
  obtain ⟨p1, p2, p3⟩ := fr.2 l a2
  have p3 := p3 h1
  have hn := fr.1
  refine ⟨⟨p1.trans a1, by omega, by rw [(p3 1).2]; exact a3, by rw [(p3 2).1]; exact a4⟩, ?_, c, fun k hk => ?_⟩
  · rcases b with b | ⟨b1, b2, b3⟩
    · exact Or.inl b
    · obtain ⟨q1, q2, -⟩ := fr.2 e b3
      exact Or.inr ⟨q1.trans b1, q2.trans b2, by omega⟩
  · rcases b with b | ⟨b1, b2, b3⟩
    · omega
    · obtain ⟨q1, q2, q3⟩ := fr.2 e b3
      rw [(q3 (h2 b3) k).2]
      exact d k hk
theorem wi_fr (h : WrI σ w) (fr : FR σ σ' S) (h1 : ¬ S w) : WrI σ' w := by
  obtain ⟨a1, a2, a3⟩ := h
  obtain ⟨p1, p2, p3⟩ := fr.2 w a2
  have hn := fr.1
  exact ⟨p1.trans a1, by omega, by rw [(p3 h1 3).2]; exact a3⟩
theorem li_size (h : LsI σ l e n f) : fJx4a65c_size_8abf5 (some l) σ = some (nI n) := by
  unfold fJx4a65c_size_8abf5
  rw [isK_S h.1.1, bnP_1, gI_S h.1.1, bnP_1, h.1.2.2.2]
theorem li_get (h : LsI σ l e n f) (hk : k < n) : fJx4a65c_get_915e3 (some l) (nI k) σ = some (some (f k)) := by
  obtain ⟨⟨a1, a2, a3, a4⟩, b, c, d⟩ := h
  have b' : hK σ e = 24 ∧ hZ σ e = 10 := by
    rcases b with b | b
    · omega
    · exact ⟨b.1, b.2.1⟩
  have ea : aR σ (some e) 24 (nI k) = some (some (f k)) := by
    unfold aR
    dsimp only
    rw [if_pos ⟨b'.1, by rw [b'.2]; exact inb_nI (by omega) (by decide)⟩, nI_clamp (by omega), d k hk]
  unfold fJx4a65c_get_915e3 fJ15_checkIndex_7cf53 fJ3_checkIndex_8e157 fJx4a65c_elementData_915e3
  rw [isK_S a1, bnP_1, gI_S a1, bnP_1, a4, if_neg (nI_pos (by omega)), if_pos (nI_lt hk (by omega)), exO_1, bnP_1, bnP_1, bnP_1, gR_S a1 a3, bnP_1, ea, bnP_1, bnP_1]
theorem li_add (h : LsI σ l e n f) (hn : n < 6) (hv : hK σ v = 10 ∨ hK σ v = 14) (hvn : v < hN σ) (hB : hN σ < BIG) : HOA (fJx4a65c_add_9ea2d (some l) (some v) σ) σ (fun _ σ' => ∃ e', LsI σ' l e' (n + 1) (fun k => if k = n then v else f k) ∧ (e' = e ∨ hN σ ≤ e') ∧ hN σ' ≤ hN σ + 1 ∧ FR σ σ' (fun a => a = l ∨ a = e)) := by
  obtain ⟨⟨a1, a2, a3, a4⟩, b, c, d⟩ := h
  unfold fJx4a65c_add_9ea2d
  rw [isK_S a1, bnP_1, gI_S a1, bnP_1, pI_S a1 a2, bnP_1]
  have F0 := fr_wI a2 0 (hI σ l 0 + 1)
  generalize hS1 : wI σ l 0 (hI σ l 0 + 1) = S1 at F0 ⊢
  have n1 : hN S1 = hN σ := by rw [← hS1]; rfl
  have k1 : hK S1 l = 12 := by rw [← hS1]; exact a1
  have r1 : hR S1 l 1 = some e := by rw [← hS1]; exact a3
  have i1 : hI S1 l 2 = nI n := by rw [← hS1, hI_wI _ _ _ _ _ _ a2, if_neg (fun q => by cases q.2)]; exact a4
  have kv : hK S1 v = 10 ∨ hK S1 v = 14 := by rw [(F0.2 v hvn).1]; exact hv
  rw [gR_S k1 r1, bnP_1, gI_S k1, bnP_1, i1]
  -- the row with room
  have grow : ∃ e' S2 i j, (∀ z, aL S1 (some e) 24 = some z → (if nI n = z then bnO (fJx4a65c_grow_d5877 (some l) S1) (fun x8 s10 => some (.ok x8, s10, 0, 0)) else some (.ok (some e), S1, 0, 0)) = some (.ok (some e'), S2, i, j)) ∧ (∃ z, aL S1 (some e) 24 = some z) ∧ hN S1 + i = hN S2 ∧ j ≤ 700 * i ∧ hN S2 ≤ hN σ + 1 ∧ (hK S2 e' = 24 ∧ hZ S2 e' = 10 ∧ e' < hN S2) ∧ hR S2 l 1 = some e' ∧ (e' = e ∨ hN σ ≤ e') ∧ (∀ k, k < n → hR S2 e' k = some (f k)) ∧ FR S1 S2 (fun a => a = l) := by
    rcases b with ⟨rfl, rfl⟩ | ⟨b1, b2, b3⟩
    · have kc : hK S1 (BIG + 203) = 24 := by
        unfold hK
        rw [if_neg (show ¬ BIG + 203 < S1.1 from by have e : hN S1 = S1.1 := rfl; omega)]
        decide
      have zc : hZ S1 (BIG + 203) = 0 := by
        unfold hZ
        rw [if_neg (show ¬ BIG + 203 < S1.1 from by have e : hN S1 = S1.1 := rfl; omega), if_neg (by omega)]
        decide
      have el : aL S1 (some (BIG + 203)) 24 = some (nI 0) := by rw [aL_S kc, zc]
      have kl : hK (wN S1 24 10) l = 12 := by rw [hK_wN, if_neg (by omega)]; exact k1
      have ln : l < hN (wN S1 24 10) := by rw [hN_wN]; omega
      refine ⟨hN S1, wR (wN S1 24 10) l 1 (some (hN S1)), 1, 10, fun z hz => ?_, ⟨_, el⟩, rfl, by decide, by rw [hN_wR, hN_wN]; omega, ⟨by rw [hK_wR, hK_wN, if_pos rfl], by rw [hZ_wR, hZ_wN, if_pos rfl], by rw [hN_wR, hN_wN]; omega⟩, by rw [hR_wR _ _ _ _ _ _ ln, if_pos ⟨rfl, rfl⟩], Or.inr (by omega), fun k hk => absurd hk (Nat.not_lt_zero _), fr_tr (fr_wN S1 24 10 _) (fr_wR ln 1 _) (fun a _ q => q)⟩
      rw [el] at hz
      cases hz
      rw [if_pos rfl]
      unfold fJx4a65c_grow_d5877 fJx4a65c_grow_92f84
      rw [isK_S k1, bnP_1, gI_S k1, bnP_1, i1, bnP_1, gR_S k1 r1, bnP_1, el, bnP_1, if_neg (show ¬ 0 < nI 0 by decide), bnP_1, show sameR (some (BIG + 203)) (some (BIG + 203)) = some () from if_pos rfl, bnP_1, show mmx 10 (nI 0 + 1) = nI 10 by decide, nwR_1 (by omega) (by decide), bnA_ok, pR_S kl ln, bnP_1, addC_1, bnO_ok, addC_1, bnO_ok, addC_1]
    · have kb : hK S1 e = 24 := (F0.2 e b3).1.trans b1
      have zb : hZ S1 e = 10 := (F0.2 e b3).2.1.trans b2
      have hel : e ≠ l := fun q => by rw [q, a1] at b1; cases b1
      refine ⟨e, S1, 0, 0, fun z hz => ?_, ⟨_, aL_S kb⟩, rfl, by decide, by omega, ⟨kb, zb, by omega⟩, r1, Or.inl rfl, fun k hk => ?_, fr_rf _ _⟩
      · rw [aL_S kb, zb] at hz
        cases hz
        rw [if_neg (fun q => by have := (nI_eq (by omega) (by decide)).mp q; omega)]
      · rw [((F0.2 e b3).2.2 hel k).2]
        exact d k hk
  obtain ⟨e', S2, i, j, g1, ⟨z, g2⟩, g3, g4, g5, ⟨g6, g7, g8⟩, g9, g10, g11, g12⟩ := grow
  have g1 := g1 z g2
  have k2 : hK S2 l = 12 := (g12.2 l (by omega)).1.trans k1
  have v2 : hK S2 v = 10 ∨ hK S2 v = 14 := by rw [(g12.2 v (by omega)).1]; exact kv
  have so : sO S2 (some e') (nI n) (some v) = some (wR S2 e' n (some v)) := by
    unfold sO
    dsimp only
    rw [if_pos ⟨⟨⟨g6, by rw [g7]; exact inb_nI (by omega) (by decide)⟩, g8⟩, v2, by omega⟩, nI_clamp (by omega)]
  unfold fJx4a65c_add_72be8
  rw [isK_S k1, bnP_1, g2, bnP_1, g1, bnA_ok, so, bnP_1, pI_S (show hK (wR S2 e' n (some v)) l = 12 from k2) (by rw [hN_wR]; omega), bnP_1, addC_1, bnO_ok, addC_1, nI_a1]
  have lw : l < hN (wR S2 e' n (some v)) := by rw [hN_wR]; omega
  have F2 := fr_wR g8 n (some v)
  have F3 := fr_wI lw 2 (nI (n + 1))
  have hel : e' ≠ l := fun q => by rw [q, k2] at g6; cases g6
  refine ⟨_, _, _, _, rfl, by show hN σ + (i + 0 + 0) = hN S2; omega, by show j + 0 + 0 ≤ 700 * (i + 0 + 0); omega, e', ⟨⟨by rw [hK_wI, hK_wR]; exact k2, by rw [hN_wI]; exact lw, by rw [hR_wI, hR_wR _ _ _ _ _ _ g8, if_neg (fun q => hel q.1.symm)]; exact g9, by rw [hI_wI _ _ _ _ _ _ lw, if_pos ⟨rfl, rfl⟩]⟩, Or.inr ⟨by rw [hK_wI, hK_wR]; exact g6, by rw [hZ_wI, hZ_wR]; exact g7, by rw [hN_wI, hN_wR]; exact g8⟩, by omega, fun k hk => ?_⟩, g10, by rw [hN_wI, hN_wR]; exact g5, ?_⟩
  · rw [hR_wI, hR_wR _ _ _ _ _ _ g8]
    by_cases q : k = n
    · rw [if_pos ⟨rfl, q⟩]
      exact congrArg some (if_pos q).symm
    · rw [if_neg (fun u => q u.2)]
      exact (g11 k (by omega)).trans (congrArg some (if_neg q).symm)
  · exact fr_tr (fr_tr (fr_tr (fr_m F0 (fun _ _ q => Or.inl q)) g12 (fun _ _ q => Or.inl q)) F2 (fun a ha q => by
      rcases g10 with u | u
      · exact Or.inr (q.trans u)
      · omega)) F3 (fun a _ q => Or.inl q)
/-- a row of ints copied with another length -/
theorem cp_ints {m z : Nat} (hk : hK σ x = 20) (hx : x < hN σ) (hz : hZ σ x = z) (hne : m ≠ z) (hm : m ≤ 10) (hz2 : z ≤ 10) (hB : hN σ < BIG) : HOA (fJ7_copyOf_59c91 (some x) (nI m) σ) σ (fun v σ' => v = some (hN σ) ∧ hK σ' (hN σ) = 20 ∧ hZ σ' (hN σ) = m ∧ hN σ' = hN σ + 1 ∧ FR σ σ' (fun _ => False)) := by
  have kx : hK (wN σ 20 m) x = 20 := by rw [hK_wN, if_neg (by omega)]; exact hk
  have zx : hZ (wN σ 20 m) x = z := by rw [hZ_wN, if_neg (by omega)]; exact hz
  have kn : hK (wN σ 20 m) (hN σ) = 20 := by rw [hK_wN, if_pos rfl]
  have zn : hZ (wN σ 20 m) (hN σ) = m := by rw [hZ_wN, if_pos rfl]
  have lt : hN σ < hN (wN σ 20 m) := by rw [hN_wN]; omega
  obtain ⟨q, hq, hq2⟩ : ∃ q, mmn (nI z) (nI m) = nI q ∧ q ≤ z ∧ q ≤ m := by
    unfold mmn
    by_cases y : m < z
    · rw [if_pos (nI_lt y (by omega))]
      exact ⟨m, rfl, by omega⟩
    · rw [if_neg (nI_nlt (by omega) (by omega))]
      exact ⟨z, rfl, by omega⟩
  have ecp : cpI 20 (wN σ 20 m) (some x) 0 (some (hN σ)) 0 (nI q) = some (wIr (wN σ 20 m) (hN σ) (va_cpy (hI (wN σ 20 m) x) (hI (wN σ 20 m) (hN σ)) 0 0 q)) := by
    unfold cpI
    dsimp only
    rw [if_pos ⟨kx, kn, by rw [hN_wN]; omega, lt, by decide, by decide, by rw [nI_toInt (by omega)]; omega, by rw [nI_clamp (by omega), zx]; show 0 + q ≤ z; omega, by rw [nI_clamp (by omega), zn]; show 0 + q ≤ m; omega⟩, nI_clamp (by omega), show (0 : Int32).toNatClampNeg = 0 from rfl]
  unfold fJ7_copyOf_59c91
  rw [aL_S hk, bnP_1, hz, if_neg (fun u => hne ((nI_eq (by omega) (by omega)).mp u)), nwR_1 hB (by omega), bnA_ok, aL_S kx, bnP_1, zx, hq, ecp, bnP_1, addC_1]
  exact ⟨_, _, _, _, rfl, rfl, by omega, rfl, by rw [hK_wIr]; exact kn, by rw [hZ_wIr]; exact zn, rfl, fr_tr (fr_wN σ 20 m _) (fr_wIr lt _) (fun a ha u => by omega)⟩
end P56N
