/-! THE PURE LEVEL, 16: UNKNOWNIF, the case -/
section LQ6
variable {σ : HpT} {G : Nat → Nat → Int32} {J : Nat → Nat → Int64} {o b m d : Nat} {N : Nat → Int32}
theorem c_requireLeaf (h : NK σ o b) (w1 : W1 N) (r : RB G J b N) (v : Int32) : fX9_requireLeaf (some o) v (wc σ G J) = some (if inR v (nI 0) (nI (nLv N) - 1) = true then .ok () else .error 1) := by
  unfold fX9_requireLeaf
  rw [nk_o h, bnP_1, nk_b h, bnP_1, bk_r9 (nk_B h), bnP_1, c_isThere (nk_B h) w1 r, bnP_1]
  cases inR v (nI 0) (nI (nLv N) - 1) <;> rfl
theorem inL_t (w1 : W1 N) {v : Int32} (e : inR v (nI 0) (nI (nLv N) - 1) = true) : ∃ l, v = nI l ∧ l < nLv N := by
  have h12 := nlv_12 w1
  by_cases z : nLv N = 0
  · rw [z] at e
    have := inR_nO v
    rw [show nO = nI 0 - 1 from rfl, e] at this
    cases this
  · rw [nI_m1 (by omega)] at e
    obtain ⟨a, q1, q2, q3⟩ := inR_t (by omega) (by omega) e
    exact ⟨a, q1, by omega⟩
theorem cq_unknownIf (h : NK σ o b) (hwr : G o 4 ≠ 0 → WFN N ∧ RB G J b N) (v : Int32) : fX9_unknownIf (some o) v (wc σ G J) = some (if G o 4 = 0 then .error 0 else if inR v (nI 0) (nI (nLv N) - 1) = true then .ok (lostQ N v.toNatClampNeg) else .error 1) := by
  unfold fX9_unknownIf
  rw [nk_o h, bnP_1, c_requireBook h]
  by_cases q : G o 4 = 0
  · rw [if_pos q, if_pos q, bnX_e]
  · obtain ⟨hw, r⟩ := hwr q
    rw [if_neg q, if_neg q, bnX_1, c_requireLeaf h hw.1 r]
    cases e : inR v (nI 0) (nI (nLv N) - 1)
    · rfl
    · obtain ⟨l, hv, hl⟩ := inL_t hw.1 e
      subst hv
      have := nlf_pos hw.1 hl
      rw [if_pos rfl, bnX_1, nk_b h, bnP_1, c_wouldBeUnknown (nk_B h) hw r hl, bnP_1, if_pos rfl, nI_clamp (by omega)]
end LQ6
