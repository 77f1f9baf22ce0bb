/-! THE PURE LEVEL, 109: what a remembering leaves alone -/
section RMF
variable {σ σ' : HpT} {G G' : Nat → Nat → Int32} {J J' : Nat → Nat → Int64} {b bs ps tx : Nat} {P : Nat → Option Nat} {E : tE} {I I' T : tI} {N : Nat → Int32} {U : tU} {V : tV}
theorem c_rowAtF (hC : CR σ G J b bs ps P tx E I N U V T) (hA : AW E I N U V T) (hb : hN σ + 40 < BIG) {ra bi z k : Nat} (hrow : (ra = 71 ∧ bi = 2 ∧ z = 8) ∨ (ra = 72 ∧ bi = 10 ∧ z = 2)) (hk : k < z) : ∃ σ' G' J' x i j P', fX9_rowAt (some ra) (nI k) (wc σ G J) = some (.ok (some x), wc σ' G' J', i, j) ∧ CR σ' G' J' b bs ps P' tx E I N U V T ∧ P' (bi + k) = some x ∧ EXM σ σ' G G' J J' ∧ i ≤ 33 ∧ j ≤ 2354 ∧ ∀ a, a < hN σ → G' a = G a ∧ J' a = J a ∧ (a ≠ 71 → a ≠ 72 → ∀ k, hR σ' a k = hR σ a k) := by
  have ck := hC.1.1
  have pb := hC.1.2.2.2.2.2
  have hkr : hK σ ra = 27 := by
    rcases hrow with ⟨rfl, -, -⟩ | ⟨rfl, -, -⟩
    · exact ck.2.2.2.1.1
    · exact ck.2.2.2.1.2.2.1
  have hzr : hZ σ ra = z := by
    rcases hrow with ⟨rfl, -, rfl⟩ | ⟨rfl, -, rfl⟩
    · exact ck.2.2.2.1.2.1
    · exact ck.2.2.2.1.2.2.2.1
  have hrr : ∀ k, k < z → hR σ ra k = P (bi + k) := by
    rcases hrow with ⟨rfl, rfl, rfl⟩ | ⟨rfl, rfl, rfl⟩
    · exact pb.2.2.1
    · exact pb.2.2.2
  have hz31 : z < 2 ^ 31 := by rcases hrow with ⟨-, -, rfl⟩ | ⟨-, -, rfl⟩ <;> decide
  have hbi : bi + k < 12 := by omega
  have hra : ra < hN σ := by have := ck.1.1; omega
  unfold fX9_rowAt
  cases e : P (bi + k) with
  | some x =>
    refine ⟨σ, G, J, x, 0, 0, P, ?_, hC, e, exm_rf σ G G J J (fun _ _ _ => ⟨rfl, rfl⟩), by decide, by decide, fun _ _ => ⟨rfl, rfl, fun _ _ _ => rfl⟩⟩
    have a1 := aR_c (σ := σ) (G := G) (J := J) hkr hzr hk hz31 ((hrr k hk).trans e)
    rw [a1, bnP_1, if_neg (fun q => by cases q), bnA_ok, a1, bnP_1]
    rfl
  | none =>
    have a1 := aR_c (σ := σ) (G := G) (J := J) hkr hzr hk hz31 ((hrr k hk).trans e)
    obtain ⟨S0, S, s1, s2, s3, s4, s5⟩ := c_newBook (σ := wc σ G J) (h := hN σ) rfl (by omega)
    have lra : ra < hN S := by rw [s3]; omega
    have ks : hK S ra = 27 := by rw [(s5 ra hra).1]; exact hkr
    have zs : hZ S ra = z := by rw [(s5 ra hra).2.1]; exact hzr
    have kx : hK S (hN σ) = 1 := s4.2.1.1
    have sr : sR S (some ra) 27 1 (nI k) (some (hN σ)) = some (wR S ra k (some (hN σ))) := by
      unfold sR
      dsimp only
      rw [if_pos ⟨⟨⟨ks, by rw [zs]; exact inb_nI hk hz31⟩, lra⟩, kx, by rw [s3]; omega⟩, nI_clamp (by omega)]
    generalize hS2 : wR S ra k (some (hN σ)) = S2 at sr
    have n2 : hN S2 = hN σ + 33 := by rw [← hS2]; exact s3
    have k2 : ∀ a, hK S2 a = hK S a := fun a => by rw [← hS2]; rfl
    have z2 : ∀ a, hZ S2 a = hZ S a := fun a => by rw [← hS2]; rfl
    have r2 : ∀ a k', hR S2 a k' = if a = ra ∧ k' = k then some (hN σ) else hR S a k' := fun a k' => by rw [← hS2]; exact hR_wR _ _ _ _ _ _ lra
    have g2 : S2.2.2.2.1 = S.2.2.2.1 := by rw [← hS2]; rfl
    have j2 : S2.2.2.2.2.1 = S.2.2.2.2.1 := by rw [← hS2]; rfl
    have F : ∀ a, a < hN σ → hK S2 a = hK σ a ∧ hZ S2 a = hZ σ a ∧ S2.2.2.2.1 a = G a ∧ S2.2.2.2.2.1 a = J a := fun a ha => ⟨by rw [k2]; exact (s5 a ha).1, by rw [z2]; exact (s5 a ha).2.1, by rw [g2]; exact (s5 a ha).2.2.2.1, by rw [j2]; exact (s5 a ha).2.2.2.2⟩
    have R : ∀ a, a < hN σ → a ≠ ra → ∀ k', hR S2 a k' = hR σ a k' := fun a ha hne k' => by
      rw [r2, if_neg (fun q => hne q.1)]
      exact (s5 a ha).2.2.1 k'
    have Rr : ∀ k', k' < z → hR S2 ra k' = if k' = k then some (hN σ) else P (bi + k') := fun k' hk' => by
      rw [r2]
      by_cases q : k' = k
      · rw [if_pos ⟨rfl, q⟩, if_pos q]
      · rw [if_neg (fun q2 => q q2.2), if_neg q, (s5 ra hra).2.2.1 k']
        exact hrr k' hk'
    have hra2 : ra = 71 ∨ ra = 72 := by omega
    have hn91 := ck.1.1
    have bkn : BK S2 (hN σ) := bk_ext s4 (by rw [s3, n2]; exact Nat.le_refl _) (fun a h1 h2 => ⟨k2 a, z2 a, fun k' => by rw [r2, if_neg (fun q => by omega)]⟩)
    generalize hP' : (fun i => if i = bi + k then some (hN σ) else P i) = P'
    have p1 : P' (bi + k) = some (hN σ) := by rw [← hP']; exact if_pos rfl
    have p2 : ∀ i, i ≠ bi + k → P' i = P i := fun i hi => by rw [← hP']; exact if_neg hi
    have pb' : PB S2 P' tx := by
      refine ⟨fun i x hi hx => ?_, fun i j x y hij hj hx hy => ?_, fun k' hk' => ?_, fun k' hk' => ?_⟩
      · by_cases q : i = bi + k
        · rw [q, p1] at hx
          cases hx
          exact ⟨bkn, Or.inr (Or.inr ck.1.1), Or.inl ck.2.2.2.2.2.2.2.1⟩
        · rw [p2 i q] at hx
          obtain ⟨q1, q2, q3⟩ := pb.1 i x hi hx
          have := q1.1
          exact ⟨bk_ext q1 (by rw [n2]; omega) (fun a h1 h2 => ⟨(F a (by omega)).1, (F a (by omega)).2.1, R a (by omega) (by omega)⟩), q2, q3⟩
      · by_cases q : i = bi + k
        · rw [q, p1] at hx
          cases hx
          rw [p2 j (by omega)] at hy
          have := (pb.1 j y hj hy).1.1
          omega
        · rw [p2 i q] at hx
          by_cases q2 : j = bi + k
          · rw [q2, p1] at hy
            cases hy
            have := (pb.1 i x (by omega) hx).1.1
            omega
          · rw [p2 j q2] at hy
            exact pb.2.1 i j x y hij hj hx hy
      · rcases hrow with ⟨rfl, rfl, rfl⟩ | ⟨rfl, rfl, rfl⟩
        · rw [Rr k' hk']
          by_cases q : k' = k
          · rw [if_pos q, q, p1]
          · rw [if_neg q, p2 _ (by omega)]
        · rw [R 71 (by omega) (by decide), p2 _ (by omega)]
          exact pb.2.2.1 k' hk'
      · rcases hrow with ⟨rfl, rfl, rfl⟩ | ⟨rfl, rfl, rfl⟩
        · rw [R 72 (by omega) (by decide), p2 _ (by omega)]
          exact pb.2.2.2 k' hk'
        · rw [Rr k' hk']
          by_cases q : k' = k
          · rw [if_pos q, q, p1]
          · rw [if_neg q, p2 _ (by omega)]
    refine ⟨S2, S2.2.2.2.1, S2.2.2.2.2.1, hN σ, 33, 2354, P', ?_, cr_ext hC hA (by rw [n2]; omega) F (fun a ha h71 h72 => R a ha (by omega)) pb' (fun i x hi hx => ?_), p1, ⟨⟨by rw [n2]; omega, by rw [n2]; exact Nat.le_refl _⟩, fun a ha => ⟨(F a ha).1, (F a ha).2.1, fun _ _ _ h71 h72 => R a ha (by omega)⟩, fun a h1 h2 => ⟨(F a (by omega)).2.2.1, (F a (by omega)).2.2.2⟩⟩, by decide, by decide, fun a ha => ⟨(F a ha).2.2.1, (F a ha).2.2.2, fun h71 h72 => R a ha (by omega)⟩⟩
    · have a2 : aR S2 (some ra) 27 (nI k) = some (some (hN σ)) := by
        rw [show S2 = wc S2 S2.2.2.2.1 S2.2.2.2.2.1 from (wc_self S2).symm]
        exact aR_c (by rw [k2]; exact ks) (by rw [z2]; exact zs) hk hz31 (by rw [Rr k hk, if_pos rfl])
      rw [a1, bnP_1, if_pos rfl, s1, bnA_ok, s2, bnA_ok, sr, bnP_1]
      show bnA (some (.ok (), S2, 33, 2354)) _ = _
      rw [bnA_ok, a2, bnP_1, addC_1, wc_self]
    · rw [p2 i (fun q => by rw [q, e] at hx; cases hx)]
      exact hx
end RMF
section RMG
variable {σ σ' : HpT} {G G' : Nat → Nat → Int32} {J J' : Nat → Nat → Int64} {b bs ps ps' tx : Nat} {P : Nat → Option Nat} {E : tE} {I I' T : tI} {N N' : Nat → Int32} {U U' : tU} {V : tV}
end RMG
