/-! p56, pure: texts by hand, 4: strings made; rows of objects -/
section P56M
variable {σ σ' σ2 : HpT} {S S' : Nat → Prop} {a b x y t tv l e n k c d v : Nat} {L L2 : List Nat} {f g : Nat → Nat}
theorem getD_take {m k : Nat} (L : List Nat) (i : Nat) (hm : i + m ≤ L.length) (hk : k < m) : ((L.drop i).take m).getD k 0 = L.getD (i + k) 0 := by
  rw [List.getD_eq_getElem?_getD, List.getD_eq_getElem?_getD, List.getElem?_take, if_pos hk, List.getElem?_drop]
/-- bytes i .. i + m - 1 of a row, in a new row -/
theorem cp_bytes {r m i : Nat} (hr : hK σ r = 22) (hz : i + m ≤ hZ σ r) (hz7 : hZ σ r ≤ 700) (hb : ∀ k, k < m → hI σ r (i + k) = nI (L.getD k 0)) (hm : L.length = m) (hB : hN σ < BIG) (hrn : r ≠ hN σ) : ∃ S9, fJ7_copyOfRangeByte_39247 (some r) (nI i) (nI (i + m)) σ = some (.ok (some (hN σ)), S9, 1, m) ∧ hN S9 = hN σ + 1 ∧ hK S9 (hN σ) = 22 ∧ hZ S9 (hN σ) = m ∧ (∀ k, k < m → hI S9 (hN σ) k = nI (L.getD k 0)) ∧ FR σ S9 (fun _ => False) := by
  have kr : hK (wN σ 22 m) r = 22 := by rw [hK_wN, if_neg hrn]; exact hr
  have zr : hZ (wN σ 22 m) r = hZ σ r := by rw [hZ_wN, if_neg hrn]
  have kn : hK (wN σ 22 m) (hN σ) = 22 := by rw [hK_wN, if_pos rfl]
  have zn : hZ (wN σ 22 m) (hN σ) = m := by rw [hZ_wN, if_pos rfl]
  generalize hf : va_cpy (hI (wN σ 22 m) r) (hI (wN σ 22 m) (hN σ)) i 0 m = fc
  have lt : hN σ < hN (wN σ 22 m) := by rw [hN_wN]; omega
  have ecp : cpC (wN σ 22 m) (some r) (nI i) (some (hN σ)) 0 (nI m) = some (wIr (wN σ 22 m) (hN σ) fc) := by
    unfold cpC
    dsimp only
    rw [if_pos ⟨kr, kn, lt, by rw [nI_toInt (by omega)]; omega, by decide, by rw [nI_toInt (by omega)]; omega, by rw [nI_clamp (by omega), nI_clamp (by omega), zr]; exact hz, by rw [nI_clamp (by omega), zn]; show 0 + m ≤ m; omega⟩, nI_clamp (by omega), nI_clamp (by omega), show (0 : Int32).toNatClampNeg = 0 from rfl, hf]
  have emn : mmn (nI (hZ σ r) - nI i) (nI m) = nI m := by
    rw [nI_sub (by omega)]
    unfold mmn
    by_cases z : m < hZ σ r - i
    · rw [if_pos (nI_lt z (by omega))]
    · rw [if_neg (nI_nlt (by omega) (by omega))]
      congr 1
      omega
  refine ⟨wIr (wN σ 22 m) (hN σ) fc, ?_, rfl, by rw [hK_wIr]; exact kn, by rw [hZ_wIr]; exact zn, fun k hk => ?_, fr_tr (fr_wN σ 22 m _) (fr_wIr lt fc) (fun a ha q => by omega)⟩
  · unfold fJ7_copyOfRangeByte_39247 fJ7_checkLength_df160
    rw [if_pos (nI_le (by omega) (by omega)), bnA_ok, nI_sub (by omega), show i + m - i = m by omega, nwR_1 hB (by omega), bnA_ok, aL_S kr, bnP_1, zr, emn, ecp, bnP_1, addC_1, addC_1, Nat.zero_add, Nat.zero_add]
    rfl
  · rw [hI_wIr _ _ _ _ _ lt, if_pos rfl, ← hf, pk_cpy_in (Nat.zero_le _) (by omega), show i + (k - 0) = i + k by omega, hI_wN, if_neg hrn]
    exact hb k hk
/-- bytes from the first on, in a new row -/
theorem cp_range {r m i : Nat} (hr : hK σ r = 22) (hz : i + m ≤ hZ σ r) (hz7 : hZ σ r ≤ 700) (hb : ∀ k, k < m → hI σ r (i + k) = nI (L.getD k 0)) (hm : L.length = m) (hB : hN σ < BIG) (hrn : r < hN σ ∨ (BIG ≤ r ∧ (i ≠ 0 ∨ m ≠ hZ σ r))) : ∃ S9, fJ7_copyOfRange_39247 (some r) (nI i) (nI (i + m)) σ = some (.ok (some (hN σ)), S9, 1, m) ∧ hN S9 = hN σ + 1 ∧ hK S9 (hN σ) = 22 ∧ hZ S9 (hN σ) = m ∧ (∀ k, k < m → hI S9 (hN σ) k = nI (L.getD k 0)) ∧ FR σ S9 (fun _ => False) := by
  obtain ⟨S9, e, q1, q2, q3, q4, q5⟩ := cp_bytes hr hz hz7 hb hm hB (by omega)
  unfold fJ7_copyOfRange_39247
  by_cases y : i = 0
  · subst y
    rw [Nat.zero_add] at e ⊢
    rw [if_pos (show nI 0 = 0 from rfl), aL_S hr, bnP_1]
    by_cases u : m = hZ σ r
    · have hlt : r < hN σ := by omega
      rw [if_pos (show nI m = nI (hZ σ r) by rw [u])]
      have ec : clB (some r) σ = some (.ok (some (hN σ)), wIr (wN σ 22 (hZ σ r)) (hN σ) (hI σ r), 1, hZ σ r) := if_pos ⟨hB, hr, hlt⟩
      have lt : hN σ < hN (wN σ 22 (hZ σ r)) := by rw [hN_wN]; omega
      have kn : hK (wIr (wN σ 22 (hZ σ r)) (hN σ) (hI σ r)) (hN σ) = 22 := by rw [hK_wIr, hK_wN, if_pos rfl]
      have ek : ckK (wIr (wN σ 22 (hZ σ r)) (hN σ) (hI σ r)) (some (hN σ)) 22 = some () := if_pos ⟨kn, by rw [hN_wIr]; exact lt⟩
      refine ⟨wIr (wN σ 22 (hZ σ r)) (hN σ) (hI σ r), ?_, rfl, kn, by rw [hZ_wIr, hZ_wN, if_pos rfl, u], fun k hk => ?_, fr_tr (fr_wN σ 22 _ _) (fr_wIr lt _) (fun a ha q => by omega)⟩
      · rw [ec, bnA_ok, ek, bnP_1, addC_1, u]
        rfl
      · rw [hI_wIr _ _ _ _ _ lt, if_pos rfl]
        have := hb k hk
        rw [Nat.zero_add] at this
        exact this
    · rw [if_neg (fun q => u ((nI_eq (by omega) (by omega)).mp q)), e, bnA_ok, addC_1]
      exact ⟨S9, rfl, q1, q2, q3, q4, q5⟩
  · rw [if_neg (nI_ne0 (by omega) (by omega)), e, bnA_ok, addC_1]
    exact ⟨S9, rfl, q1, q2, q3, q4, q5⟩
/-- a builder's text -/
theorem sb_text (h : SBI σ t tv L) (hB : hN σ + 2 < BIG) : HOA (fJ4_toString_0e30d (some t) σ) σ (fun v σ' => v = some (hN σ) ∧ STR σ' (hN σ) (hN σ + 1) L ∧ FR σ σ' (fun _ => False) ∧ hN σ' = hN σ + 2) := by
  obtain ⟨⟨a1, a2, a3, a4, a5⟩, ⟨b1, b2, b3, b4⟩, c1, c2, c3⟩ := id h
  unfold fJ4_toString_0e30d fJ0_init_81219 fJ0_init_db425 fJ5_getValue_6d5f1 fJ4_length_8abf5 fJ5_length_8abf5 fJ5_isLatin1_aae02
  rw [isK_S a1, bnP_1, nwA_1 (by omega), bnA_ok]
  have F0 := fr_wN σ 15 0 (fun _ => False)
  generalize hS1 : wN σ 15 0 = S1 at F0 ⊢
  have n1 : hN S1 = hN σ + 1 := by rw [← hS1]; rfl
  have k0 : hK S1 (hN σ) = 15 := by rw [← hS1, hK_wN, if_pos rfl]
  have i0 : ∀ j, hI S1 (hN σ) j = 0 := fun j => by rw [← hS1, hI_wN, if_pos rfl]
  have h1 := sb_fr h F0 (fun q => q) (fun q => q)
  obtain ⟨⟨a1, a2, a3, a4, a5⟩, ⟨b1, b2, b3, b4⟩, c1, c2, c3⟩ := id h1
  have eb : pB S1 (some (hN σ)) 15 1 0 = some (wI S1 (hN σ) 1 0) := by
    unfold pB
    rw [if_pos (by decide)]
    exact pI_S k0 (by omega)
  rw [isK_S k0, bnP_1, bnP_1, isK_S a1, bnP_1, gR_S a1 a3, bnP_1, bnP_1, bnP_1, bnP_1, gI_S a1, bnP_1, bnP_1, bnP_1, a4, bnP_1, gI_S a1, bnP_1, a5, if_pos rfl, bnP_1, if_pos rfl, eb, bnP_1]
  have F1 := fr_wI (σ := S1) (a := hN σ) (by omega) 1 0
  generalize hS2 : wI S1 (hN σ) 1 0 = S2 at F1 ⊢
  have n2 : hN S2 = hN σ + 1 := by rw [← hS2]; exact n1
  have k2 : hK S2 (hN σ) = 15 := by rw [← hS2]; exact k0
  have i2 : hI S2 (hN σ) 1 = 0 := by rw [← hS2, hI_wI _ _ _ _ _ _ (by omega), if_pos ⟨rfl, rfl⟩]
  have h2 := sb_fr h1 F1 (fun q => by rw [q] at a1; rw [k0] at a1; cases a1) (fun q => by rw [q, k0] at b1; cases b1)
  obtain ⟨-, ⟨b1, b2, b3, b4⟩, c1, c2, c3⟩ := id h2
  obtain ⟨S3, e3, q1, q2, q3, q4, q5⟩ := cp_range (i := 0) (m := L.length) b1 (by omega) b4 (fun k hk => by rw [Nat.zero_add]; exact c1 k hk) rfl (by omega) (Or.inl b2)
  rw [Nat.zero_add] at e3
  rw [show fJ7_copyOfRange_39247 (some tv) 0 (nI L.length) S2 = _ from e3, bnA_ok]
  have k3 : hK S3 (hN σ) = 15 := (q5.2 _ (by omega)).1.trans k2
  rw [pR_S k3 (by omega), bnP_1, addC_1, bnA_ok, addC_1, bnA_ok, addC_1, addC_1]
  rw [n2] at q1 q2 q3 q4 ⊢
  have lt3 : hN σ < hN S3 := by omega
  have F3 := fr_wR (σ := S3) lt3 0 (some (hN σ + 1))
  refine ⟨_, _, _, _, rfl, by show hN σ + (1 + (1 + 0 + 0 + 0)) = hN S3; omega, by show nF 15 + (L.length + 0 + 0 + 0) ≤ 700 * (1 + (1 + 0 + 0 + 0)); have : nF 15 = 4 := rfl; omega, rfl, ⟨⟨by rw [hK_wR]; exact k3, by rw [hR_wR _ _ _ _ _ _ lt3, if_pos ⟨rfl, rfl⟩], ?_⟩, ⟨by rw [hK_wR]; exact q2, by rw [hZ_wR]; exact q3⟩, fun k hk => by rw [hI_wR]; exact q4 k hk, c2, c3⟩, ?_, by rw [hN_wR]; omega⟩
  · rw [hI_wR, ((q5.2 _ (by omega)).2.2 (fun q => q) 1).1]
    exact i2
  · exact fr_tr (fr_tr (fr_tr F0 F1 (fun a ha q => by omega)) q5 (fun _ _ q => q)) F3 (fun a ha q => by omega)
/-- a part of a constant -/
theorem sub_con {j i m : Nat} (hj : j < 47) (hm0 : 0 < m) (hm : i + m ≤ (byS j).length) (hne : ¬ (i = 0 ∧ m = (byS j).length)) (h7 : (byS j).length ≤ 100) (hb : ∀ k, k < m → (byS j).getD (i + k) 0 = nI (L.getD k 0)) (hL : L.length = m) (h1 : ∀ b ∈ L, b < 128) (hB : hN σ + 2 < BIG) : HOA (fJ0_substring_37a41 (some (BIG + j)) (nI i) (nI (i + m)) σ) σ (fun v σ' => v = some (hN σ) ∧ STR σ' (hN σ) (hN σ + 1) L ∧ FR σ σ' (fun _ => False) ∧ hN σ' = hN σ + 2) := by
  have hS : hN σ ≤ BIG := by omega
  obtain ⟨k1, k2, k3, k4, k5, k6⟩ := st_facts hS hj
  have hS1 : hN (wN σ 15 0) ≤ BIG := by rw [hN_wN]; omega
  obtain ⟨-, -, -, l4, l5, l6⟩ := st_facts hS1 hj
  have ecb : fJ0_checkBoundsBeginEnd_23922 (nI i) (nI (i + m)) (nI (byS j).length) σ = some () := by
    unfold fJ0_checkBoundsBeginEnd_23922 fJ3_checkFromToIndex_8c36e
    rw [if_neg (nI_pos (by omega)), if_neg (nI_nlt (by omega) (by omega)), if_pos (nI_le hm (by omega)), bnP_1]
  have ens : HOA (fJ1_newString_b4f7a (some (BIG + j + 100)) (nI i) (nI (i + m) - nI i) σ) σ (fun v σ' => v = some (hN σ) ∧ STR σ' (hN σ) (hN σ + 1) L ∧ FR σ σ' (fun _ => False) ∧ hN σ' = hN σ + 2) := by
    unfold fJ1_newString_b4f7a fJ0_init_031fb
    rw [nI_sub (by omega), show i + m - i = m by omega, if_neg (nI_ne0 hm0 (by omega)), nwA_1 (by omega), bnA_ok, nI_add]
    have F0 := fr_wN σ 15 0 (fun _ => False)
    have n1 : hN (wN σ 15 0) = hN σ + 1 := rfl
    have k0 : hK (wN σ 15 0) (hN σ) = 15 := by rw [hK_wN, if_pos rfl]
    generalize wN σ 15 0 = S1 at *
    obtain ⟨S3, e3, q1, q2, q3, q4, q5⟩ := cp_range (σ := S1) (L := L) (i := i) (m := m) l4 (by rw [l5]; exact hm) (by rw [l5]; omega) (fun k hk => (l6 _).trans (hb k hk)) hL (by omega) (Or.inr ⟨by omega, by rw [l5]; omega⟩)
    have k3 : hK S3 (hN σ) = 15 := (q5.2 _ (by omega)).1.trans k0
    have lt3 : hN σ < hN S3 := by omega
    have eb : pB (wR S3 (hN σ) 0 (some (hN S1))) (some (hN σ)) 15 1 0 = some (wI (wR S3 (hN σ) 0 (some (hN S1))) (hN σ) 1 0) := by
      unfold pB
      rw [if_pos (by decide)]
      exact pI_S k3 lt3
    rw [e3, bnA_ok, isK_S k3, bnP_1, pR_S k3 lt3, bnP_1, eb, bnP_1, bnP_1, addC_1, addC_1]
    rw [n1] at q1 q2 q3 q4 ⊢
    have ltw : hN σ < hN (wR S3 (hN σ) 0 (some (hN σ + 1))) := lt3
    refine ⟨_, _, _, _, rfl, by show hN σ + (1 + (1 + 0)) = hN S3; omega, by show nF 15 + (m + 0) ≤ 700 * (1 + (1 + 0)); have : nF 15 = 4 := rfl; omega, rfl, ⟨⟨by rw [hK_wI, hK_wR]; exact k3, by rw [hR_wI, hR_wR _ _ _ _ _ _ lt3, if_pos ⟨rfl, rfl⟩], by rw [hI_wI _ _ _ _ _ _ ltw, if_pos ⟨rfl, rfl⟩]⟩, ⟨by rw [hK_wI, hK_wR]; exact q2, by rw [hZ_wI, hZ_wR, hL]; exact q3⟩, fun k hk => ?_, h1, by omega⟩, ?_, by rw [hN_wI, hN_wR]; omega⟩
    · rw [hI_wI _ _ _ _ _ _ ltw, if_neg (fun q => by omega), hI_wR]
      exact q4 k (by omega)
    · exact fr_tr (fr_tr (fr_tr F0 q5 (fun _ _ q => q)) (fr_wR lt3 0 _) (fun a ha q => by omega)) (fr_wI ltw 1 0) (fun a ha q => by omega)
  have el : fJ0_isLatin1_aae02 (some (BIG + j)) σ = some true := by
    unfold fJ0_isLatin1_aae02
    rw [isK_S k1, bnP_1, gI_S k1, bnP_1, k3, if_pos rfl]
  unfold fJ0_substring_37a41
  rw [isK_S k1, bnP_1, st_len hS hj, bnP_1, ecb, bnP_1, el]
  by_cases y : i = 0
  · subst y
    rw [if_pos (show nI 0 = 0 from rfl), if_neg (fun q => hne ⟨rfl, by
      have := (nI_eq (by omega) (by omega)).mp q
      omega⟩), bnP_1, if_pos rfl, gR_S k1 k2, bnP_1]
    exact hoa_A ens (fun v σ' _ q => hoa_ret q)
  · rw [if_neg (nI_ne0 (by omega) (by omega)), bnP_1, if_pos rfl, gR_S k1 k2, bnP_1]
    exact hoa_A ens (fun v σ' _ q => hoa_ret q)
end P56M
