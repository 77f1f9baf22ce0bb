/-! p56, pure: texts by hand, 6: the desk's words and leaves -/
/-- the desk: la its acts' row, lv its leaves -/
def DsI (σ : HpT) (d la lv R Q : Nat) : Prop := (hK σ d = 13 ∧ d < hN σ ∧ hR σ d 4 = some la ∧ hR σ d 6 = some lv ∧ hI σ d 0 = nI R ∧ hI σ d 2 = nI Q) ∧ (4 ≤ R ∧ R ≤ 5 ∧ 2 ≤ Q ∧ Q ≤ 4) ∧ (hK σ lv = 20 ∧ hZ σ lv = 12 ∧ lv < hN σ)
/-- an act with c words -/
def AcI (σ : HpT) (a wl c : Nat) : Prop := hK σ a = 10 ∧ a < hN σ ∧ hR σ a 0 = some wl ∧ hK σ wl = 12 ∧ wl < hN σ ∧ hI σ wl 2 = nI c ∧ c ≤ 6
section P56O
variable {σ σ' σ2 : HpT} {S S' : Nat → Prop} {a b x y t tv l e n k c d v w la lv ea R Q wl W : Nat} {L L2 : List Nat} {f g A wf cs : Nat → Nat}
theorem ds_fr (h : DsI σ d la lv R Q) (fr : FR σ σ' S) (h1 : ¬ S d) : DsI σ' d la lv R Q := by
  obtain ⟨⟨a1, a2, a3, a4, a5, a6⟩, b, c1, c2, c3⟩ := h
  obtain ⟨p1, p2, p3⟩ := fr.2 d a2
  have p3 := p3 h1
  obtain ⟨q1, q2, -⟩ := fr.2 lv c3
  have hn := fr.1
  exact ⟨⟨p1.trans a1, by omega, by rw [(p3 4).2]; exact a3, by rw [(p3 6).2]; exact a4, by rw [(p3 0).1]; exact a5, by rw [(p3 2).1]; exact a6⟩, b, q1.trans c1, q2.trans c2, by omega⟩
theorem ac_fr (h : AcI σ a wl c) (fr : FR σ σ' S) (h1 : ¬ S a) (h2 : ¬ S wl) : AcI σ' a wl c := by
  obtain ⟨a1, a2, a3, a4, a5, a6, a7⟩ := h
  obtain ⟨p1, p2, p3⟩ := fr.2 a a2
  obtain ⟨q1, q2, q3⟩ := fr.2 wl a5
  have hn := fr.1
  exact ⟨p1.trans a1, by omega, by rw [(p3 h1 0).2]; exact a3, q1.trans a4, by omega, by rw [(q3 h2 2).1]; exact a6, a7⟩
theorem ds_words (h : DsI σ d la lv R Q) (hl : LsI σ la ea n A) (hc : ∀ k, k < n → ∃ wl, AcI σ (A k) wl (cs k)) : fX11_words (some d) σ = some (nI (sumN cs n)) := by
  obtain ⟨⟨a1, a2, a3, a4, a5, a6⟩, -⟩ := h
  have hn6 := hl.2.2.1
  have hs : lpP (fX11_words_l1 (some d) σ) FUEL (0, 0) = some (nI (sumN cs n)) := by
    refine lpP_f n (fun k => (nI (sumN cs k), nI k)) rfl (by omega) (fun k hk => ?_) ?_
    · obtain ⟨wl, b1, b2, b3, b4, b5, b6, b7⟩ := hc k hk
      have sz : fJx4a65c_size_8abf5 (some wl) σ = some (nI (cs k)) := by
        unfold fJx4a65c_size_8abf5
        rw [isK_S b4, bnP_1, gI_S b4, bnP_1, b6]
      unfold fX11_words_l1
      dsimp only
      rw [gR_S a1 a3, bnP_1, li_size hl, bnP_1, if_neg (nI_ge hk (by omega)), bnP_1, li_get hl hk, bnP_1, show ckK σ (some (A k)) 10 = some () from if_pos ⟨b1, b2⟩, bnP_1, gR_S b1 b3, bnP_1, sz, bnP_1, nI_add, nI_a1]
      rfl
    · unfold fX11_words_l1
      dsimp only
      rw [gR_S a1 a3, bnP_1, li_size hl, bnP_1, if_pos (nI_le (Nat.le_refl _) (by omega))]
  unfold fX11_words
  rw [isK_S a1, bnP_1, hs, bnP_1]
theorem ds_mate (h : DsI σ d la lv R Q) (hw : fX11_words (some d) σ = some (nI W)) (hW : W ≤ 14) (hl : l ≤ 3) : ∃ x, fX11_mate (some d) (nI l) σ = some x ∧ (x < 0 ∨ ∃ m, x = nI m ∧ m < 12) := by
  obtain ⟨⟨a1, a2, a3, a4, a5, a6⟩, ⟨r1, r2, r3, r4⟩, -⟩ := h
  have hm := Nat.mod_lt l (show 0 < Q by omega)
  have hml := Nat.mod_le l Q
  have hR : W + R - 1 < 2 ^ 31 := by omega
  have emany : fX11_many (some d) σ = some (nI ((W + R - 1) / R)) := by
    unfold fX11_many
    rw [isK_S a1, bnP_1, hw, bnP_1, gI_S a1, bnP_1, a5, bnP_1, show nz (nI R) = some () from if_neg (nI_ne0 (by omega) (by omega)), bnP_1, nI_add, nI_m1 (by omega), pk_div hR (by omega) (by omega)]
  have emt : (((nI l - (nI l - nI l / nI Q * nI Q)) + nI Q) - 1) - (nI l - nI l / nI Q * nI Q) = nI (l - l % Q + Q - 1 - l % Q) := by
    rw [pk_rem (by omega) (by omega) (by omega), nI_sub hml, nI_add, nI_m1 (by omega), nI_sub (by omega)]
  unfold fX11_mate
  rw [isK_S a1, bnP_1, gI_S a1, bnP_1, a6, show nz (nI Q) = some () from if_neg (nI_ne0 (by omega) (by omega)), bnP_1, bnP_1, bnP_1, show nz (nI Q) = some () from if_neg (nI_ne0 (by omega) (by omega)), bnP_1, emt]
  by_cases y : nI (l - l % Q + Q - 1 - l % Q) = nI l
  · rw [if_pos y]
    exact ⟨_, rfl, Or.inl (by decide)⟩
  · rw [if_neg y, emany, bnP_1]
    split
    · exact ⟨_, rfl, Or.inr ⟨_, rfl, by omega⟩⟩
    · exact ⟨_, rfl, Or.inl (by decide)⟩
/-- the last word's leaf -/
theorem ds_leaf (h : DsI σ d la lv R Q) (hw : fX11_words (some d) σ = some (nI W)) (h0 : 0 < W) (hW : W ≤ 14) : ∃ S9, (if (nI W - 1) - (nI W - 1) / nI R * nI R = 0 then bnP (gI σ (some d) 13 0) (fun x166 => bnP (nz x166) (fun _ => bnP (fX11_mate (some d) ((nI W - 1) / x166) σ) (fun x170 => bnP (gR σ (some d) 13 6) (fun x172 => bnP (gI σ (some d) 13 0) (fun x174 => bnP (nz x174) (fun _ => bnP ((if x170 < 0 then some (x172, ((nI W - 1) / x174), (0 : Int32)) else bnP (gR σ (some d) 13 6) (fun x183 => bnP (aI σ x183 20 x170) (fun x185 => (if x185 = 2 then some (x172, ((nI W - 1) / x174), 1) else some (x172, ((nI W - 1) / x174), 0)))))) (fun (j178 : Option Nat × Int32 × Int32) => bnP (sI σ j178.1 j178.2.1 j178.2.2) (fun s189 => some ((), s189))))))))) else bnP (gR σ (some d) 13 6) (fun x149 => bnP (gI σ (some d) 13 0) (fun x151 => bnP (nz x151) (fun _ => bnP (aI σ x149 20 ((nI W - 1) / x151)) (fun x155 => (if x155 = 2 then bnP (gR σ (some d) 13 6) (fun x157 => bnP (gI σ (some d) 13 0) (fun x159 => bnP (nz x159) (fun _ => bnP (sI σ x157 ((nI W - 1) / x159) 0) (fun s165 => some ((), s165))))) else some ((), σ))))))) = some ((), S9) ∧ FR σ S9 (fun a => a = lv) ∧ hN S9 = hN σ := by
  obtain ⟨⟨a1, a2, a3, a4, a5, a6⟩, ⟨r1, r2, r3, r4⟩, ⟨l1, l2, l3⟩⟩ := id h
  have hdv : (W - 1) / R ≤ 3 := by
    have : (W - 1) / R ≤ (W - 1) / 4 := Nat.div_le_div_left r1 (by decide)
    omega
  have ed : (nI W - 1) / nI R = nI ((W - 1) / R) := by rw [nI_m1 h0, pk_div (by omega) (by omega) (by omega)]
  have znz : nz (nI R) = some () := if_neg (nI_ne0 (by omega) (by omega))
  have SI : ∀ x, sI σ (some lv) (nI ((W - 1) / R)) x = some (wI σ lv ((W - 1) / R) x) := fun x => by
    unfold sI
    dsimp only
    rw [if_pos ⟨⟨l1, by rw [l2]; exact inb_nI (by omega) (by decide)⟩, l3⟩, nI_clamp (by omega)]
  have AIx : ∀ m, m < 12 → aI σ (some lv) 20 (nI m) = some (hI σ lv m) := fun m hm => by
    unfold aI
    dsimp only
    rw [if_pos ⟨l1, by rw [l2]; exact inb_nI hm (by decide)⟩, nI_clamp (by omega)]
  obtain ⟨x, ex, hx⟩ := ds_mate h hw hW (l := (W - 1) / R) hdv
  split
  · rw [gI_S a1, a5, bnP_1, znz, bnP_1, ed, ex, bnP_1, gR_S a1 a4, bnP_1, bnP_1, znz, bnP_1, ed]
    rcases hx with hx | ⟨m, rfl, hm⟩
    · rw [if_pos hx, bnP_1]
      dsimp only
      rw [SI, bnP_1]
      exact ⟨_, rfl, fr_wI l3 _ _, rfl⟩
    · rw [if_neg (nI_lt0 (by omega)), bnP_1, AIx m hm, bnP_1]
      split
      · rw [bnP_1]
        dsimp only
        rw [SI, bnP_1]
        exact ⟨_, rfl, fr_wI l3 _ _, rfl⟩
      · rw [bnP_1]
        dsimp only
        rw [SI, bnP_1]
        exact ⟨_, rfl, fr_wI l3 _ _, rfl⟩
  · rw [gR_S a1 a4, bnP_1, gI_S a1, a5, bnP_1, znz, bnP_1, ed, AIx _ (by omega), bnP_1]
    split
    · rw [bnP_1, bnP_1, znz, bnP_1, ed, SI, bnP_1]
      exact ⟨_, rfl, fr_wI l3 _ _, rfl⟩
    · exact ⟨_, rfl, fr_rf _ _, rfl⟩
end P56O
