/-! THE PURE LEVEL, 82: the words of a text's lines -/
def ltL (l : List Int32) (k : Nat) : Nat := (l.getD k 0).toNatClampNeg - 96
abbrev kwOK (l : List Int32) : Prop := l.length ≤ 8 ∧ ∀ k, k < l.length → l.getD k 0 = nI (96 + ltL l k) ∧ 1 ≤ ltL l k ∧ ltL l k ≤ 26
theorem kw_ok : ∀ j, j < 47 → (1 ≤ j ∧ j < 16) → kwOK (byS j) := by decide +kernel
/-- is the token behind p that word -/
def kwB (f : Nat → Int32) (e p : Nat) (l : List Int32) : Bool := decide (tkK f e p = 1) && (decide (tkX f e p - tkS f e p = l.length) && (fuN (fun k => !decide (f (tkS f e p + k) = l.getD k 0)) l.length).isNone)
theorem pkL_0 (f : Nat → Nat) : pkL f 0 = 0 := rfl
theorem pkL_s (f : Nat → Nat) (n : Nat) : pkL f (n + 1) = pkL f n * 256 + (96 + f n) := rfl
section KW
variable {S σ : HpT} {G : Nat → Nat → Int32} {J : Nat → Nat → Int64} {f : Nat → Int32} {e p j : Nat}
theorem tk_7 : tkK f e p < 7 := by
  by_cases z : tkS f e p = e
  · rw [(tk_0 z).2]
    decide
  · cases z1 : lrB f (tkS f e p)
    · cases z2 : dgB f (tkS f e p)
      · rw [(tk_g z z1 z2).2]
        exact sg_b.2
      · rw [(tk_d z z1 z2).2]
        split <;> decide
    · rw [(tk_w z z1).2]
      split <;> decide
theorem st_facts (hS : hN S ≤ BIG) (hj : j < 47) : hK S (BIG + j) = 15 ∧ hR S (BIG + j) 0 = some (BIG + j + 100) ∧ hI S (BIG + j) 1 = 0 ∧ hK S (BIG + j + 100) = 22 ∧ hZ S (BIG + j + 100) = (byS j).length ∧ ∀ k, hI S (BIG + j + 100) k = (byS j).getD k 0 := by
  have q1 : ¬ BIG + j < S.1 := by
    have : hN S = S.1 := rfl
    omega
  have q2 : ¬ BIG + j + 100 < S.1 := by omega
  have en : nSt = 47 := rfl
  have es : BIG + j + 100 - (BIG + 100) = j := by omega
  refine ⟨?_, ?_, ?_, ?_, ?_, fun k => ?_⟩
  · unfold hK cK
    rw [if_neg q1, if_neg (by omega), if_pos (by omega)]
  · unfold hR cR
    rw [if_neg q1]
  · unfold hI cI
    rw [if_neg q1, if_neg (by omega), if_pos (by omega)]
  · unfold hK cK
    rw [if_neg q2, if_neg (by omega), if_neg (by omega), if_neg (by omega), if_pos (by omega)]
  · unfold hZ cZ
    rw [if_neg q2, if_neg (by omega), if_pos (by omega), es]
  · unfold hI cI
    rw [if_neg q2, if_neg (by omega), if_neg (by omega), if_pos (by omega), es]
theorem st_len (hS : hN S ≤ BIG) (hj : j < 47) : fJ0_length_8abf5 (some (BIG + j)) S = some (nI (byS j).length) := by
  obtain ⟨k1, k2, k3, k4, k5, k6⟩ := st_facts hS hj
  have hb := byS_small j hj
  unfold fJ0_length_8abf5 fJ0_coder_7d493
  rw [isK_S k1, bnP_1, gR_S k1 k2, bnP_1, aL_S k4, bnP_1, bnP_1, gI_S k1, bnP_1, k3, k5]
  unfold nrB
  rw [if_pos (by decide), bnP_1, bnP_1, shr0 hb]
theorem st_chr (hS : hN S ≤ BIG) (hj : j < 47) {k d : Nat} (hk : k < (byS j).length) (hd : (byS j).getD k 0 = nI d) (hd2 : d < 128) : fJ0_charAt_5068e (some (BIG + j)) (nI k) S = some (nI d) := by
  obtain ⟨k1, k2, k3, k4, k5, k6⟩ := st_facts hS hj
  have hb := byS_small j hj
  have ea : aI S (some (BIG + j + 100)) 22 (nI k) = some (nI d) := by
    unfold aI
    dsimp only
    rw [if_pos ⟨k4, by rw [k5]; exact inb_nI hk hb⟩, nI_clamp (by omega), k6, hd]
  unfold fJ0_charAt_5068e fJ0_isLatin1_aae02 fJ1_charAt_3b067 fJ0_checkIndex_df160 fJ3_checkIndex_8e157
  rw [isK_S k1, bnP_1, bnP_1, gI_S k1, bnP_1, k3, if_pos rfl, bnP_1, if_pos rfl, gR_S k1 k2, bnP_1, aL_S k4, bnP_1, k5, if_neg (nI_pos (by omega)), if_pos (nI_lt hk hb), bnP_1, bnP_1, ea, bnP_1, byc_ok d hd2]
  unfold nrC
  rw [if_pos (ch_ok d hd2), bnP_1, bnP_1, if_pos (ch_ok d hd2), bnP_1]
theorem c_packed (hS : hN S ≤ BIG) (hj : j < 47) (ok : kwOK (byS j)) : fX9_packed (some (BIG + j)) S = some (lN (pkL (ltL (byS j)) (byS j).length)) := by
  have e1 : lpP (fX9_packed_l1 (some (BIG + j)) S) FUEL (0, 0) = some (lN (pkL (ltL (byS j)) (byS j).length)) := by
    refine lpP_f (byS j).length (fun k => (lN (pkL (ltL (byS j)) k), nI k)) rfl (by have := ok.1; omega) (fun k hk => ?_) ?_
    · obtain ⟨q1, q2, q3⟩ := ok.2 k hk
      have hp := pkL_lt (f := ltL (byS j)) k (fun i hi => (ok.2 i (by omega)).2.2)
      have hq : 256 ^ k ≤ 256 ^ 7 := Nat.pow_le_pow_right (by decide) (by have := ok.1; omega)
      have e7 : (256 : Nat) ^ 7 = 72057594037927936 := by decide
      unfold fX9_packed_l1
      dsimp only
      rw [st_len hS hj, bnP_1, if_neg (nI_ge hk (by have := ok.1; omega)), st_chr hS hj hk q1 (by omega), bnP_1, c_joined (by omega) (by omega), bnP_1, nI_a1]
      rfl
    · unfold fX9_packed_l1
      dsimp only
      rw [st_len hS hj, bnP_1, if_pos (nI_le (Nat.le_refl _) (by have := ok.1; omega))]
  unfold fX9_packed
  rw [e1, bnP_1]
theorem none_iff {P : Nat → Bool} {n : Nat} : (fuN P n).isNone = true ↔ ∀ k, k < n → P k = false := by
  constructor
  · intro h
    cases e : fuN P n with
    | none => exact fuN_none e
    | some k =>
      rw [e] at h
      cases h
  · intro h
    cases e : fuN P n with
    | none => rfl
    | some k =>
      obtain ⟨h1, h2, -⟩ := fuN_some e
      rw [h k h1] at h2
      cases h2
theorem kwB_t (l : List Int32) : kwB f e p l = true ↔ tkK f e p = 1 ∧ tkX f e p - tkS f e p = l.length ∧ ∀ k, k < l.length → f (tkS f e p + k) = l.getD k 0 := by
  unfold kwB
  rw [Bool.and_eq_true, Bool.and_eq_true, decide_eq_true_eq, decide_eq_true_eq, none_iff]
  constructor
  · rintro ⟨h1, h2, h3⟩
    refine ⟨h1, h2, fun k hk => ?_⟩
    have := h3 k hk
    exact of_decide_eq_true (bnot_f this)
  · rintro ⟨h1, h2, h3⟩
    exact ⟨h1, h2, fun k hk => by rw [decide_eq_true (h3 k hk)]; rfl⟩
theorem kw_pk {l : List Int32} (hp : p ≤ e) (z : tkK f e p = 1) (ok : kwOK l) : lN (pkL (fun k => lf f (tkS f e p + k)) (tkX f e p - tkS f e p)) = lN (pkL (ltL l) l.length) ↔ kwB f e p l = true := by
  have hw := tk_wd hp z
  constructor
  · intro q
    have q := lN_inj (pkL_64 hw.2.1 (fun k hk => (hw.2.2 k hk).2.2)) (pkL_64 ok.1 (fun k hk => (ok.2 k hk).2.2)) q
    obtain ⟨q1, q2⟩ := pkL_inj (fun k hk => (hw.2.2 k hk).2.2) (fun k hk => (ok.2 k hk).2.2) q
    refine (kwB_t _).mpr ⟨z, q1, fun k hk => ?_⟩
    have w1 := (hw.2.2 k (by omega)).1
    have w2 := (ok.2 k hk).1
    have q3 : lf f (tkS f e p + k) = ltL l k := q2 k (by omega)
    rw [w1, w2, q3]
  · intro y
    obtain ⟨-, y2, y3⟩ := (kwB_t _).mp y
    rw [y2]
    have : ∀ n, n ≤ l.length → pkL (fun k => lf f (tkS f e p + k)) n = pkL (ltL l) n := by
      intro n
      induction n with
      | zero => exact fun _ => by rw [pkL_0, pkL_0]
      | succ n ih =>
        intro hn
        rw [pkL_s, pkL_s, ih (by omega), show lf f (tkS f e p + n) = ltL l n from by exact congrArg (fun v : Int32 => v.toNatClampNeg - 96) (y3 n (by omega))]
    rw [this _ (Nat.le_refl _)]
theorem c_isAtWord (hP : PK σ) (h5 : hK σ 68 = 5) (hr : hR σ 68 3 = some 69) (hS : hN σ ≤ BIG) (hp : p ≤ e) (h : SCN f e p (G 69) (J 69 6)) (hj : j < 47) (ok : kwOK (byS j)) : fX5_isAtWord (some 68) (some (BIG + j)) (wc σ G J) = some (kwB f e p (byS j)) := by
  obtain ⟨s1, s2, s3, s4, s5, s6⟩ := h
  have hk6 := tk_7 (f := f) (e := e) (p := p)
  unfold fX5_isAtWord
  rw [isK_c h5, bnP_1, gR_c h5 hr, bnP_1, pk_I hP, bnP_1, s3]
  by_cases z : tkK f e p = 1
  · rw [if_pos (show nI (tkK f e p) = 1 by rw [z]; rfl), bnP_1, pk_J hP, bnP_1, c_packed (S := wc σ G J) hS hj ok, bnP_1, s6 z]
    have e9 := kw_pk (l := byS j) hp z ok
    cases y : kwB f e p (byS j)
    · rw [if_neg]
      intro q
      rw [e9.mp ((lg_cmp_eq _ _).mp q)] at y
      cases y
    · rw [if_pos ((lg_cmp_eq _ _).mpr (e9.mpr y))]
  · rw [if_neg (show ¬ nI (tkK f e p) = 1 from fun q => z ((nI_eq (b := 1) (by omega) (by decide)).mp q))]
    unfold kwB
    rw [decide_eq_false z, Bool.false_and]
end KW
