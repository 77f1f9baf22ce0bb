/-! THE PURE LEVEL, 113: a step of the law -/
section STP
variable {σ : HpT} {G : Nat → Nat → Int32} {J : Nat → Nat → Int64}
theorem step_all (hI : INV σ G J) (hb : hN σ + 40100 < BIG) {Lx : Nat} {xs : Nat → Int32} {v5 a1 a2 a3 a4 a5 : Int32} (h1 : sld Lx xs (v5 + 1) = some a1) (h2 : sld Lx xs (v5 + 2) = some a2) (h3 : sld Lx xs (v5 + 3) = some a3) (h4 : sld Lx xs (v5 + 4) = some a4) (h5 : sld Lx xs (v5 + 5) = some a5) (xi : Int32) : STEP σ (fL_step Lx xs (some 0) (some 80) (some 89) (some 90) v5 xi (wc σ G J)) := by
  obtain ⟨b, bs, ps, P, tx, E, I, N, U, V, T, hC, hM, hA, hD⟩ := id hI
  have hb2 : hN σ + 40 < BIG := by omega
  have lo := lo_of hC hM hA hD
  have hbb := cr_b hC
  unfold fL_step
  by_cases q : xi = 0
  · rw [if_pos q]
    exact sc0 hC hM hA hD h1 h2 h3 h4 h5 (some 89) (some 90)
  rw [if_neg q]
  clear q
  by_cases q : xi = 1
  · rw [if_pos q]
    exact sc1 hC hM hA hD hb2 h1 (some 90)
  rw [if_neg q]
  clear q
  by_cases q : xi = 2
  · rw [if_pos q]
    exact sc2 hC hM hA hD (some 89) (some 90)
  rw [if_neg q]
  clear q
  by_cases q : xi = 3
  · rw [if_pos q]
    exact sc3 hC hM hA hD (some 89) (some 90)
  rw [if_neg q]
  clear q
  by_cases q : xi = 4
  · rw [if_pos q]
    exact sc4 hC hM hA hD (some 89) (some 90)
  rw [if_neg q]
  clear q
  by_cases q : xi = 5
  · rw [if_pos q]
    obtain ⟨t, y, a, c, e, ha, hc⟩ := lc5 lo h1 (some 90)
    exact step_q hC hM hA hD e (qg_m P G (Or.inl rfl) t) ha hc
  rw [if_neg q]
  clear q
  by_cases q : xi = 6
  · rw [if_pos q]
    obtain ⟨t, y, a, c, e, ha, hc⟩ := lc6 lo h1 h2 (some 90)
    exact step_q hC hM hA hD e (qg_m P G (Or.inl rfl) t) ha hc
  rw [if_neg q]
  clear q
  by_cases q : xi = 7
  · rw [if_pos q]
    obtain ⟨t, y, a, c, e, ha, hc⟩ := lc7 lo h1 h2 h3 (some 90)
    exact step_q hC hM hA hD e (qg_m P G (Or.inl rfl) t) ha hc
  rw [if_neg q]
  clear q
  by_cases q : xi = 8
  · rw [if_pos q]
    obtain ⟨t, y, a, c, e, ha, hc⟩ := lc8 lo h1 h2 h3 (some 90)
    exact step_q hC hM hA hD e (qg_m P G (Or.inl rfl) t) ha hc
  rw [if_neg q]
  clear q
  by_cases q : xi = 9
  · rw [if_pos q]
    obtain ⟨t, y, a, c, e, ha, hc⟩ := lc9 lo h1 h2 h3 h4 (some 90)
    exact step_q hC hM hA hD e (qg_m P G (Or.inl rfl) t) ha hc
  rw [if_neg q]
  clear q
  by_cases q : xi = 10
  · rw [if_pos q]
    obtain ⟨t, y, a, c, f, e, ha, hc⟩ := lc10 lo (by omega) (by omega) h1 h2 h3 (some 90)
    exact step_q hC hM hA hD e (qg_tr (qg_c P G (scr_13 hC) (by omega) f) (qg_m P _ (Or.inl rfl) t)) ha hc
  rw [if_neg q]
  clear q
  by_cases q : xi = 11
  · rw [if_pos q]
    obtain ⟨t, y, a, c, e, ha, hc⟩ := lc11 lo h1 h2 (some 90)
    exact step_q hC hM hA hD e (qg_m P G (Or.inl rfl) t) ha hc
  rw [if_neg q]
  clear q
  by_cases q : xi = 12
  · rw [if_pos q]
    obtain ⟨t, y, a, c, e, ha, hc⟩ := lc12 lo h1 h2 (some 90)
    exact step_q hC hM hA hD e (qg_m P G (Or.inl rfl) t) ha hc
  rw [if_neg q]
  clear q
  by_cases q : xi = 13
  · rw [if_pos q]
    obtain ⟨t, y, a, c, e, ha, hc⟩ := lc13 lo h1 h2 (some 90)
    exact step_q hC hM hA hD e (qg_m P G (Or.inl rfl) t) ha hc
  rw [if_neg q]
  clear q
  by_cases q : xi = 14
  · rw [if_pos q]
    obtain ⟨t, y, a, c, e, ha, hc⟩ := lc14 lo h1 (some 90)
    exact step_q hC hM hA hD e (qg_m P G (Or.inl rfl) t) ha hc
  rw [if_neg q]
  clear q
  by_cases q : xi = 15
  · rw [if_pos q]
    obtain ⟨t, y, a, c, e, ha, hc⟩ := lc15 lo h1 (some 90)
    exact step_q hC hM hA hD e (qg_m P G (Or.inl rfl) t) ha hc
  rw [if_neg q]
  clear q
  by_cases q : xi = 16
  · rw [if_pos q]
    obtain ⟨t, y, a, c, e, ha, hc⟩ := lc16 lo (some 90)
    exact step_q hC hM hA hD e (qg_m P G (Or.inl rfl) t) ha hc
  rw [if_neg q]
  clear q
  by_cases q : xi = 17
  · rw [if_pos q]
    obtain ⟨t, y, a, c, e, ha, hc⟩ := lc17 lo h1 h2 (some 90)
    exact step_q hC hM hA hD e (qg_m P G (Or.inl rfl) t) ha hc
  rw [if_neg q]
  clear q
  by_cases q : xi = 18
  · rw [if_pos q]
    obtain ⟨t, y, a, c, f, e, ha, hc⟩ := lc18 lo (by omega) (by omega) h1 h2 (some 90)
    exact step_q hC hM hA hD e (qg_tr (qg_c P G (scr_14 hC) (by omega) f) (qg_m P _ (Or.inl rfl) t)) ha hc
  rw [if_neg q]
  clear q
  by_cases q : xi = 19
  · rw [if_pos q]
    obtain ⟨t, y, a, c, e, ha, hc⟩ := lc19 lo h1 (some 90)
    exact step_q hC hM hA hD e (qg_m P G (Or.inl rfl) t) ha hc
  rw [if_neg q]
  clear q
  by_cases q : xi = 20
  · rw [if_pos q]
    obtain ⟨t, y, a, c, e, ha, hc⟩ := lc20 lo h1 (some 90)
    exact step_q hC hM hA hD e (qg_m P G (Or.inl rfl) t) ha hc
  rw [if_neg q]
  clear q
  by_cases q : xi = 21
  · rw [if_pos q]
    obtain ⟨t, y, a, c, e, ha, hc⟩ := lc21 lo (some 90)
    exact step_q hC hM hA hD e (qg_m P G (Or.inl rfl) t) ha hc
  rw [if_neg q]
  clear q
  by_cases q : xi = 22
  · rw [if_pos q]
    exact sc22 hC hM hA hD (some 90)
  rw [if_neg q]
  clear q
  by_cases q : xi = 23
  · rw [if_pos q]
    obtain ⟨t, y, a, c, e, ha, hc⟩ := lc23 lo h1 (some 90)
    exact step_q hC hM hA hD e (qg_m P G (Or.inl rfl) t) ha hc
  rw [if_neg q]
  clear q
  by_cases q : xi = 24
  · rw [if_pos q]
    obtain ⟨t, y, a, c, f, e, ha, hc⟩ := lc24 lo (by omega) (by omega) h1 h2 (some 90)
    exact step_q hC hM hA hD e (qg_tr (qg_c P G (scr_14 hC) (by omega) f) (qg_m P _ (Or.inl rfl) t)) ha hc
  rw [if_neg q]
  clear q
  by_cases q : xi = 25
  · rw [if_pos q]
    obtain ⟨t, y, a, c, f, e, ha, hc⟩ := lc25 lo (by omega) (by omega) h1 (some 90)
    exact step_q hC hM hA hD e (qg_tr (qg_c P G (scr_14 hC) (by omega) f) (qg_m P _ (Or.inl rfl) t)) ha hc
  rw [if_neg q]
  clear q
  by_cases q : xi = 26
  · rw [if_pos q]
    obtain ⟨t, y, a, c, f, e, ha, hc⟩ := lc26 lo (by omega) (by omega) h1 h2 (some 90)
    exact step_q hC hM hA hD e (qg_tr (qg_c P G (scr_13 hC) (by omega) f) (qg_m P _ (Or.inl rfl) t)) ha hc
  rw [if_neg q]
  clear q
  by_cases q : xi = 27
  · rw [if_pos q]
    exact sc27 hC hM hA hD h1 (some 90)
  rw [if_neg q]
  clear q
  by_cases q : xi = 28
  · rw [if_pos q]
    obtain ⟨t, y, a, c, e, ha, hc⟩ := lc28 lo h1 (some 90)
    exact step_q hC hM hA hD e (qg_m P G (Or.inl rfl) t) ha hc
  rw [if_neg q]
  clear q
  by_cases q : xi = 29
  · rw [if_pos q]
    obtain ⟨t, y, a, c, e, ha, hc⟩ := lc29 lo h1 h2 (some 90)
    exact step_q hC hM hA hD e (qg_m P G (Or.inl rfl) t) ha hc
  rw [if_neg q]
  clear q
  by_cases q : xi = 30
  · rw [if_pos q]
    exact sc30 hC hM hA hD (some 89)
  rw [if_neg q]
  clear q
  by_cases q : xi = 31
  · rw [if_pos q]
    exact sc31 hC hM hA hD (some 89)
  rw [if_neg q]
  clear q
  by_cases q : xi = 32
  · rw [if_pos q]
    exact sc32 hC hM hA hD hb h1 (some 90)
  rw [if_neg q]
  clear q
  by_cases q : xi = 33
  · rw [if_pos q]
    exact sc33 hC hM hA hD hb h1 (some 90)
  rw [if_neg q]
  clear q
  by_cases q : xi = 34
  · rw [if_pos q]
    exact sc34 hC hM hA hD hb h1 (some 90)
  rw [if_neg q]
  clear q
  by_cases q : xi = 35
  · rw [if_pos q]
    exact sc35 hC hM hA hD hb h1 (some 90)
  rw [if_neg q]
  clear q
  by_cases q : xi = 36
  · rw [if_pos q]
    exact sc36 hC hM hA hD hb h1 (some 90)
  rw [if_neg q]
  clear q
  by_cases q : xi = 37
  · rw [if_pos q]
    exact sc37 hC hM hA hD hb2 h1 h2 (some 90)
  rw [if_neg q]
  clear q
  by_cases q : xi = 38
  · rw [if_pos q]
    exact sc38 hC hM hA hD hb2 h1 (some 90)
  rw [if_neg q]
  clear q
  by_cases q : xi = 39
  · rw [if_pos q]
    exact sc39 hC hM hA hD hb2 h1 (some 90)
  rw [if_neg q]
  clear q
  by_cases q : xi = 40
  · rw [if_pos q]
    exact sc40 hC hM hA hD hb2 h1 h2 (some 90)
  rw [if_neg q]
  clear q
  by_cases q : xi = 41
  · rw [if_pos q]
    exact sc41 hC hM hA hD hb2 h1 h2 (some 90)
  rw [if_neg q]
  clear q
  by_cases q : xi = 42
  · rw [if_pos q]
    exact sc42 hC hM hA hD hb2 (some 90)
  rw [if_neg q]
  clear q
  by_cases q : xi = 43
  · rw [if_pos q]
    exact sc43 hC hM hA hD hb2 h1 h2 (some 90)
  rw [if_neg q]
  clear q
  by_cases q : xi = 44
  · rw [if_pos q]
    exact sc44 hC hM hA hD hb2 h1 (some 90)
  rw [if_neg q]
  clear q
  by_cases q : xi = 45
  · rw [if_pos q]
    exact sc45 hC hM hA hD hb2 h1 (some 90)
  rw [if_neg q]
  clear q
  by_cases q : xi = 46
  · rw [if_pos q]
    exact sc46 hC hM hA hD hb2 h1 (some 90)
  rw [if_neg q]
  clear q
  by_cases q : xi = 47
  · rw [if_pos q]
    exact sc47 hC hM hA hD hb2 h1 (some 90)
  rw [if_neg q]
  clear q
  by_cases q : xi = 48
  · rw [if_pos q]
    exact sc48 hC hM hA hD hb2 (some 90)
  rw [if_neg q]
  clear q
  by_cases q : xi = 49
  · rw [if_pos q]
    exact sc49 hC hM hA hD (some 90)
  rw [if_neg q]
  clear q
  by_cases q : xi = 50
  · rw [if_pos q]
    exact sc50 hC hM hA hD (some 89) (some 90)
  rw [if_neg q]
  clear q
  by_cases q : xi = 51
  · rw [if_pos q]
    exact sc51 hC hM hA hD hb2 h1 (some 90)
  rw [if_neg q]
  clear q
  by_cases q : xi = 52
  · rw [if_pos q]
    exact sc52 hC hM hA hD hb2 h1 (some 90)
  rw [if_neg q]
  clear q
  exact ⟨σ, G, J, 0, 0, rfl, hI, by omega, by omega, by omega⟩
end STP
