/-! THE PURE LEVEL, 106: LOAD, the reference -/
section MLD
variable {σ : HpT} {G : Nat → Nat → Int32} {E : tE} {I T : tI} {N : tN} {U : tU} {V : tV} {e : Nat}
theorem m_begins (h : MK σ 80) (v : Int32) : fX10_begins (some 80) v (wi σ G) = some (wi σ (up (up (up (up G 80 12 v) 80 13 0) 80 17 0) 80 18 nO)) := by
  unfold fX10_begins
  rw [mk_o h, bnP_1, mk_P h, bnP_1, mk_P h, bnP_1, mk_P h, bnP_1, show (-1 : Int32) = nO from rfl, mk_P h, bnP_1]
theorem m_thinks (h : MK σ 80) : ∃ f, fX10_thinks (some 80) (wi σ G) = some (wi σ (cw G 82 f)) ∧ ∀ j, f j = if j < 6139 then G 81 j else G 82 j := by
  obtain ⟨f1, e1, k1⟩ := m_lays (σ := σ) (G := G) (x := 81) (y := 82) (p := 0) (q := 0) h.2.2.1.1 h.2.2.1.2.1 (by have := h.1; omega) (by have := h.1; omega) h.2.2.2.1.1 h.2.2.2.1.2.1 (by decide) (by decide) (by decide) (by decide) (by decide)
  refine ⟨f1, ?_, fun j => ?_⟩
  · unfold fX10_thinks
    rw [mk_o h, bnP_1, mk_r1 h, bnP_1, mk_r2 h, bnP_1, show fX10_lays (some (80 + 1)) 0 (some (80 + 2)) 0 (wi σ G) = _ from e1, bnP_1]
  · rw [k1]
    by_cases z : j < 6139
    · rw [if_pos (by omega), if_pos z]
      congr 1
      omega
    · rw [if_neg (by omega), if_neg z]
theorem m_backs (h : MK σ 80) (v : Int32) : ∃ f, fX10_back (some 80) v (wi σ G) = some (v, wi σ (cw G 81 f)) ∧ ∀ j, f j = if j < 6139 then G 82 j else G 81 j := by
  obtain ⟨f1, e1, k1⟩ := m_lays (σ := σ) (G := G) (x := 82) (y := 81) (p := 0) (q := 0) h.2.2.1.2.1 h.2.2.1.1 (by have := h.1; omega) (by have := h.1; omega) h.2.2.2.1.2.1 h.2.2.2.1.1 (by decide) (by decide) (by decide) (by decide) (by decide)
  refine ⟨f1, ?_, fun j => ?_⟩
  · unfold fX10_back
    rw [mk_o h, bnP_1, mk_r2 h, bnP_1, mk_r1 h, bnP_1, show fX10_lays (some (80 + 2)) 0 (some (80 + 1)) 0 (wi σ G) = _ from e1, bnP_1]
  · rw [k1]
    by_cases z : j < 6139
    · rw [if_pos (by omega), if_pos z]
      congr 1
      omega
    · rw [if_neg (by omega), if_neg z]
theorem m_zeros (h : MK σ 80) : lpS (fX10_load_l1 (some 80)) FUEL 0 (wi σ G) = some ((), wi σ (cw G 81 (fun j => if j < 6139 then 0 else G 81 j))) := by
  refine lpS_f 6139 (fun k => nI k) (fun k => wi σ (cw G 81 (fun j => if j < k then 0 else G 81 j))) rfl ?_ (by decide) (fun k hk => ?_) ?_
  · show wi σ (cw G 81 _) = wi σ G
    rw [show (fun j => if j < 0 then (0 : Int32) else G 81 j) = G 81 from funext fun j => if_neg (by omega), cw_self]
  · unfold fX10_load_l1
    rw [if_neg (show ¬ 6139 ≤ nI k from nI_ge (b := 6139) hk (by decide)), mk_r1 h, bnP_1, mS1 h hk, bnP_1, nI_a1]
    congr 4
    funext j
    unfold u1
    by_cases z : j = k
    · rw [if_pos z, if_pos (by omega)]
    · rw [if_neg z]
      dsimp only
      by_cases y : j < k
      · rw [if_pos y, if_pos (by omega)]
      · rw [if_neg y, if_neg (by omega)]
  · unfold fX10_load_l1
    rw [if_pos (show 6139 ≤ nI 6139 by decide)]
theorem m_load (hM : MR σ G E I N U V T) (hS : hN σ ≤ BIG) (hI : I.1 ≤ 600) (he : e ≤ I.1) : match ldS I.2 e with
    | .ok r => ∃ G', fX10_load (some 80) (nI e) (wi σ G) = some (r.2 3, wi σ G') ∧ G' 80 0 = 0 ∧ MR σ G' (1, 0, nO) (0, I.2) r.2 (0, U.2) (fun _ => false, V.2) T ∧ ∀ a, (a < 80 ∨ 89 ≤ a) → G' a = G a
    | .error x => ∃ G', fX10_load (some 80) (nI e) (wi σ G) = some (0, wi σ G') ∧ G' 80 0 = 2 ∧ MR σ G' (E.1, nI x.1, nI x.2) (0, I.2) N U V T ∧ ∀ a, (a < 80 ∨ 89 ≤ a) → G' a = G a := by
  obtain ⟨mk, ⟨q6, q10, q11⟩, ⟨i1, i2⟩, ⟨f81, fz⟩, ⟨u1', u2⟩, hV, ⟨t1, t2⟩⟩ := hM
  generalize hA : up (up (up (up (up (up G 80 0 0) 80 12 (nI e)) 80 13 0) 80 17 0) 80 18 nO) 80 9 0 = A
  have a80 : ∀ k, k ≠ 0 → k ≠ 12 → k ≠ 13 → k ≠ 17 → k ≠ 18 → k ≠ 9 → A 80 k = G 80 k := fun k h1 h2 h3 h4 h5 h6 => by rw [← hA, up_k h6, up_k h5, up_k h4, up_k h3, up_k h2, up_k h1]
  have ao : ∀ a, a ≠ 80 → A a = G a := fun a ha => by rw [← hA, up_a ha, up_a ha, up_a ha, up_a ha, up_a ha, up_a ha]
  have a0 : A 80 0 = 0 := by rw [← hA, up_k (by decide), up_k (by decide), up_k (by decide), up_k (by decide), up_k (by decide), up_eq]
  have a12 : A 80 12 = nI e := by rw [← hA, up_k (by decide), up_k (by decide), up_k (by decide), up_k (by decide), up_eq]
  have a13 : A 80 13 = 0 := by rw [← hA, up_k (by decide), up_k (by decide), up_k (by decide), up_eq]
  have a17 : A 80 17 = 0 := by rw [← hA, up_k (by decide), up_k (by decide), up_eq]
  have a18 : A 80 18 = nO := by rw [← hA, up_k (by decide), up_eq]
  have a9 : A 80 9 = 0 := by rw [← hA, up_eq]
  obtain ⟨f1, e1, k1⟩ := m_thinks (σ := σ) (G := A) mk
  have ez : lpS (fX10_load_l1 (some 80)) FUEL 0 (wi σ (cw A 82 f1)) = some ((), wi σ (cw (cw A 82 f1) 81 (fun _ => 0))) := by
    rw [m_zeros mk]
    congr 4
    funext j
    by_cases z : j < 6139
    · rw [if_pos z]
    · rw [if_neg z, cw_b (by decide), ao 81 (by decide), f81]
      exact fz j (by omega)
  generalize hC : cw (cw A 82 f1) 81 (fun _ => 0) = C at *
  have c80 : C 80 = A 80 := by rw [← hC, cw_b (by decide), cw_b (by decide)]
  have c81 : C 81 = fun _ => 0 := by rw [← hC, cw_a]
  have c82 : C 82 = f1 := by rw [← hC, cw_b (by decide), cw_a]
  have co : ∀ a, a ≠ 80 → a ≠ 81 → a ≠ 82 → C a = G a := fun a h1 h2 h3 => by rw [← hC, cw_b h2, cw_b h3, ao a h1]
  obtain ⟨D, e3, fD, rD⟩ := m_text (σ := σ) (G := C) (f := I.2) mk hS (e := e) (by omega) (by rw [c80]; exact a12) (by rw [c80]; exact a13) (by rw [c80]; exact a17) (fun k hk => by rw [co 86 (by decide) (by decide) (by decide)]; exact i2 k (by omega)) c81
  have hin : inR (nI e) 0 (nI I.1) = true := by
    rw [show (0 : Int32) = nI 0 from rfl, inR_nI (by omega) (by decide) (by omega), decide_eq_true (Nat.zero_le e), decide_eq_true he]
    rfl
  have emay : fX10_may (some 80) (bI true) 1 1 (wi σ G) = some (true, wi σ (up G 80 0 0)) := m_may mk true true true
  have d80 : ∀ k, k < 12 ∨ 21 ≤ k → k ≠ 0 → k ≠ 9 → D 80 k = G 80 k := fun k h1 h2 h3 => by rw [fD.2.1 k h1, c80]; exact a80 k h2 (by omega) (by omega) (by omega) (by omega) h3
  have d0 : D 80 0 = 0 := by rw [fD.2.1 0 (by decide), c80]; exact a0
  have d9 : D 80 9 = 0 := by rw [fD.2.1 9 (by decide), c80]; exact a9
  have dO : ∀ a, a ≠ 80 → a ≠ 81 → a ≠ 82 → a ≠ 87 → D a = G a := fun a h1 h2 h3 h4 => by rw [fD.1 a h1 h2 h4, co a h1 h2 h3]
  have d82 : D 82 = f1 := by rw [fD.1 82 (by decide) (by decide) (by decide), c82]
  have head : ∀ (r : Option (Int32 × HpT)), bnP (gI (wi σ D) (some 80) 10 17) (fun x36 => bnP (pI (wi σ D) (some 80) 10 10 x36) (fun s40 => bnP (gI s40 (some 80) 10 18) (fun x41 => bnP (pI s40 (some 80) 10 11 x41) (fun s45 => bnP (gI s45 (some 80) 10 17) (fun x46 => (if x46 ≤ 0 then bnP (pZ s45 (some 80) 10 6 1) (fun s50 => bnP (pI s50 (some 80) 10 7 0) (fun s53 => bnP (gR s53 (some 80) 10 5) (fun x54 => bnP (sZ s53 x54 0 0) (fun s58 => bnP (gR s58 (some 80) 10 5) (fun x59 => bnP (sZ s58 x59 1 0) (fun s63 => bnP (gR s63 (some 80) 10 1) (fun x64 => bnP (aI s63 x64 20 3) (fun x66 => some (x66, s63))))))))) else bnP (pI s45 (some 80) 10 0 2) (fun s70 => bnS (fX10_back (some 80) 0 s70) (fun x71 s73 => some (x71, s73))))))))) = r → fX10_load (some 80) (nI e) (wi σ G) = r := fun r hr => by
    rw [← hr]
    unfold fX10_load
    rw [mk_o mk, bnP_1, mk_I mk, bnP_1, i1, m_in, bnP_1, hin, emay, bnS_1, if_pos rfl, m_begins mk, bnP_1, mk_P mk, bnP_1, hA, e1, bnP_1, ez, bnS_1, e3, bnP_1]
  cases q : ldS I.2 e with
  | ok r =>
    rw [q] at rD
    have rD : MGd I.2 e r.1 r.2 D := rD
    have d17 : D 80 17 = 0 := mg_17 rD
    have d18 : D 80 18 = nO := by rw [fD.2.2.1 (by rw [c80]; exact a17) d17, c80]; exact a18
    have d81 : D (80 + 1) = r.2 := rD.2.2.2
    obtain ⟨zz, -⟩ := ld_z mk hS (by omega) q
    generalize hF : up (up (up (up (up (up D 80 10 0) 80 11 nO) 80 6 1) 80 7 0) (80 + 5) 0 0) (80 + 5) 1 0 = F
    have F80 : ∀ k, k ≠ 10 → k ≠ 11 → k ≠ 6 → k ≠ 7 → F 80 k = D 80 k := fun k h1 h2 h3 h4 => by rw [← hF, up_a (by decide), up_a (by decide), up_k h4, up_k h3, up_k h2, up_k h1]
    have FO : ∀ a, a ≠ 80 → a ≠ 85 → F a = D a := fun a h1 h2 => by rw [← hF, up_a h2, up_a h2, up_a h1, up_a h1, up_a h1, up_a h1]
    have F6 : F 80 6 = 1 := by rw [← hF, up_a (by decide), up_a (by decide), up_k (by decide), up_eq]
    have F7 : F 80 7 = 0 := by rw [← hF, up_a (by decide), up_a (by decide), up_eq]
    have F10 : F 80 10 = 0 := by rw [← hF, up_a (by decide), up_a (by decide), up_k (by decide), up_k (by decide), up_k (by decide), up_eq]
    have F11 : F 80 11 = nO := by rw [← hF, up_a (by decide), up_a (by decide), up_k (by decide), up_k (by decide), up_eq]
    have F85 : ∀ k, k < 2 → F 85 k = 0 := fun k hk => by
      have : k = 0 ∨ k = 1 := by omega
      rcases this with rfl | rfl
      · rw [← hF]
        show up (up _ 85 0 0) 85 1 0 85 0 = 0
        rw [up_k (by decide), up_eq]
      · rw [← hF]
        show up _ 85 1 0 85 1 = 0
        rw [up_eq]
    refine ⟨F, head _ ?_, by rw [F80 0 (by decide) (by decide) (by decide) (by decide)]; exact d0, ⟨mk, ⟨F6, F10, F11⟩, ⟨by rw [F80 9 (by decide) (by decide) (by decide) (by decide)]; exact d9, fun k hk => absurd hk (Nat.not_lt_zero _)⟩, ⟨by rw [FO 81 (by decide) (by decide)]; exact d81, zz⟩, ⟨F7, fun k hk => absurd hk (Nat.not_lt_zero _)⟩, fun k hk => ⟨F85 k hk, fun z => by cases z⟩, ⟨?_, fun k hk => ?_⟩⟩, fun a ha => by rw [FO a (by omega) (by omega)]; exact dO a (by omega) (by omega) (by omega) (by omega)⟩
    · have s0 : ∀ X, sZ (wi σ X) (some (80 + 5)) 0 0 = some (wi σ (up X (80 + 5) 0 0)) := fun X => mk_s5 mk (n := 0) (x := 0) (by decide)
      have s1 : ∀ X, sZ (wi σ X) (some (80 + 5)) 1 0 = some (wi σ (up X (80 + 5) 1 0)) := fun X => mk_s5 mk (n := 1) (x := 0) (by decide)
      rw [mk_I mk, bnP_1, d17, mk_P mk, bnP_1, mk_I mk, bnP_1, up_k (by decide), d18, mk_P mk, bnP_1, mk_I mk, bnP_1, up_k (by decide), up_k (by decide), d17, if_pos (show (0 : Int32) ≤ 0 by decide)]
      unfold pZ
      rw [if_pos (Or.inr rfl), mk_P mk, bnP_1, mk_P mk, bnP_1, mk_r5 mk, bnP_1, s0, bnP_1, mk_r5 mk, bnP_1, s1, bnP_1, hF, mk_r1 mk, bnP_1, show aI (wi σ F) (some (80 + 1)) 20 3 = _ from mk_a1 mk (n := 3) (by decide), bnP_1, show F (80 + 1) = r.2 from by rw [FO (80 + 1) (by decide) (by decide)]; exact d81]
    · rw [F80 23 (by decide) (by decide) (by decide) (by decide), d80 23 (by decide) (by decide) (by decide)]
      exact t1
    · rw [FO 88 (by decide) (by decide), dO 88 (by decide) (by decide) (by decide) (by decide)]
      exact t2 k hk
  | error x =>
    rw [q] at rD
    have rD : MER x D := rD
    generalize hF : up (up (up D 80 10 (nI x.1)) 80 11 (nI x.2)) 80 0 2 = F
    have F80 : ∀ k, k ≠ 10 → k ≠ 11 → k ≠ 0 → F 80 k = D 80 k := fun k h1 h2 h3 => by rw [← hF, up_k h3, up_k h2, up_k h1]
    have FO : ∀ a, a ≠ 80 → F a = D a := fun a h1 => by rw [← hF, up_a h1, up_a h1, up_a h1]
    have F0 : F 80 0 = 2 := by rw [← hF, up_eq]
    have F10 : F 80 10 = nI x.1 := by rw [← hF, up_k (by decide), up_k (by decide), up_eq]
    have F11 : F 80 11 = nI x.2 := by rw [← hF, up_k (by decide), up_eq]
    obtain ⟨f2, e5, k5⟩ := m_backs (σ := σ) (G := F) mk 0
    have hf2 : f2 = N := by
      funext j
      rw [k5]
      by_cases z : j < 6139
      · rw [if_pos z, FO 82 (by decide), d82, k1, if_pos z, ao 81 (by decide), f81]
      · rw [if_neg z, FO 81 (by decide), fD.2.2.2.2 j (by omega), c81]
        exact (fz j (by omega)).symm
    rw [hf2] at e5
    refine ⟨cw F 81 N, head _ ?_, by rw [cw_b (by decide)]; exact F0, ⟨mk, ⟨by rw [cw_b (by decide), F80 6 (by decide) (by decide) (by decide), d80 6 (by decide) (by decide) (by decide)]; exact q6, by rw [cw_b (by decide)]; exact F10, by rw [cw_b (by decide)]; exact F11⟩, ⟨by rw [cw_b (by decide), F80 9 (by decide) (by decide) (by decide)]; exact d9, fun k hk => absurd hk (Nat.not_lt_zero _)⟩, ⟨cw_a _ _ _, fz⟩, ⟨by rw [cw_b (by decide), F80 7 (by decide) (by decide) (by decide), d80 7 (by decide) (by decide) (by decide)]; exact u1', fun k hk => ?_⟩, fun k hk => ?_, ⟨?_, fun k hk => ?_⟩⟩, fun a ha => by rw [cw_b (by omega), FO a (by omega)]; exact dO a (by omega) (by omega) (by omega) (by omega)⟩
    · rw [mk_I mk, bnP_1, rD.2.1, mk_P mk, bnP_1, mk_I mk, bnP_1, up_k (by decide), rD.2.2, mk_P mk, bnP_1, mk_I mk, bnP_1, up_k (by decide), up_k (by decide), rD.2.1, if_neg (mr_le rD), mk_P mk, bnP_1, hF, e5, bnS_1]
    · rw [cw_b (by decide), FO 83 (by decide), dO 83 (by decide) (by decide) (by decide) (by decide)]
      exact u2 k hk
    · rw [cw_b (by decide), cw_b (by decide), FO 85 (by decide), FO 84 (by decide), dO 85 (by decide) (by decide) (by decide) (by decide), dO 84 (by decide) (by decide) (by decide) (by decide)]
      exact hV k hk
    · rw [cw_b (by decide), F80 23 (by decide) (by decide) (by decide), d80 23 (by decide) (by decide) (by decide)]
      exact t1
    · rw [cw_b (by decide), FO 88 (by decide), dO 88 (by decide) (by decide) (by decide) (by decide)]
      exact t2 k hk
end MLD
