/-! THE PURE LEVEL, 58: the book shaken once, the reference -/
section SHK2
variable {σ : HpT} {G G1 G2 : Nat → Nat → Int32} {M : Nat → Int32} {l : Nat}
theorem m_shakes (h : MK σ 80) (hw : WFN M) (e : G 81 = M) : fX10_shakes (some 80) (wi σ G) = some (nI (cntN (lsB M) (nLv M)), wi σ (cw (cw G 87 (shG M (G 87) (nLv M))) 81 (shK M (nLv M)))) := by
  have h12 := nlv_12 hw.1
  have a81 : ∀ (g f : Nat → Int32), cw (cw G 87 g) 81 f (80 + 1) = f := fun g f => cw_a _ _ _
  have a87 : ∀ (g f : Nat → Int32), cw (cw G 87 g) 81 f 87 = g := fun g f => by rw [cw_b (by decide), cw_a]
  have p87 : ∀ (g f : Nat → Int32) k x, up (cw (cw G 87 g) 81 f) 87 k x = cw (cw G 87 (u1 g k x)) 81 f := fun g f k x => by
    funext a j
    unfold up cw u1
    by_cases z : a = 81
    · subst z
      simp
    · by_cases z2 : a = 87
      · subst z2
        simp
      · simp [z, z2]
  have k1 := lpS_f (f := fX10_shakes_l1 (some 80)) (a := (0, 0)) (σ := wi σ G) (r := nI (cntN (lsB M) (nLv M))) (nLv M) (fun k => (nI (cntN (lsB M) k), nI k)) (fun k => wi σ (cw (cw G 87 (shG M (G 87) k)) 81 (drK M k))) rfl (by
    show wi σ (cw (cw G 87 (shG M (G 87) 0)) 81 M) = wi σ G
    rw [show shG M (G 87) 0 = G 87 from funext fun j => if_neg (by omega), cw_self, ← e, cw_self]) (by omega) (fun k hk => by
    obtain ⟨d1, d2, d3, d4⟩ := dr_wf hw k (by omega)
    unfold fX10_shakes_l1
    dsimp only
    have hs : cntN (lsB M) (k + 1) = cntN (lsB M) k + (if lsB M k = true then 1 else 0) := rfl
    rw [m_leaves h (by rw [a81]; exact d1.1), bnP_1, a81, d2, if_neg (nI_ge hk (by omega)), mk_r7 h, bnP_1, m_statusOf h k (by omega), bnP_1, a81, d4 _ (by omega)]
    have gs : ∀ x, x = bI (lsB M k) → u1 (shG M (G 87) k) k x = shG M (G 87) (k + 1) := fun x hx => by
      funext i
      unfold u1 shG
      by_cases z : i = k
      · rw [if_pos z, if_pos (by omega), hx, z]
      · rw [if_neg z]
        by_cases z2 : i < k
        · rw [if_pos z2, if_pos (by omega)]
        · rw [if_neg z2, if_neg (by omega)]
    by_cases q : M (99 + k) = 1
    · have eb : lsB M k = true := decide_eq_true q
      rw [if_pos q, bnP_1]
      dsimp only
      rw [mk_s7 h (by omega), bnP_1, show 80 + 7 = 87 from rfl, p87, gs _ (by rw [eb]; rfl), mk_r7 h, bnP_1, mk_a7 h (by omega), bnP_1, show 80 + 7 = 87 from rfl, a87]
      have ev : shG M (G 87) (k + 1) k = bI true := by
        unfold shG
        rw [if_pos (by omega), eb]
      rw [ev, m_one, bnP_1, bnP_1, show aI (wi σ (cw (cw G 87 (shG M (G 87) (k + 1))) 81 (drK M k))) (some 87) 23 (nI k) = _ from mk_a7 h (by omega), bnP_1, show 80 + 7 = 87 from rfl, a87, ev, if_neg (show ¬ bI true = 0 by decide), mk_r1 h, bnP_1, m_setLeaf h (a81 _ _) (by omega), bnP_1, cw_cw, nI_a1, hs, eb, if_pos rfl, show bI true = nI 1 from rfl, nI_add]
      show some (Sum.inl _, wi σ (cw (cw G 87 (shG M (G 87) (k + 1))) 81 (lfN (drK M k) k 2))) = some (Sum.inl _, wi σ (cw (cw G 87 (shG M (G 87) (k + 1))) 81 (if M (99 + k) = 1 then lfN (drK M k) k 2 else drK M k)))
      rw [if_pos q]
    · have eb : lsB M k = false := decide_eq_false q
      rw [if_neg q, bnP_1]
      dsimp only
      rw [mk_s7 h (by omega), bnP_1, show 80 + 7 = 87 from rfl, p87, gs _ (by rw [eb]; rfl), mk_r7 h, bnP_1, mk_a7 h (by omega), bnP_1, show 80 + 7 = 87 from rfl, a87]
      have ev : shG M (G 87) (k + 1) k = bI false := by
        unfold shG
        rw [if_pos (by omega), eb]
      rw [ev, m_one, bnP_1, bnP_1, show aI (wi σ (cw (cw G 87 (shG M (G 87) (k + 1))) 81 (drK M k))) (some 87) 23 (nI k) = _ from mk_a7 h (by omega), bnP_1, show 80 + 7 = 87 from rfl, a87, ev, if_pos (show bI false = 0 by decide), nI_a1, hs, eb, if_neg (by decide), show bI false = nI 0 from rfl, nI_add]
      show some (Sum.inl _, wi σ (cw (cw G 87 (shG M (G 87) (k + 1))) 81 (drK M k))) = some (Sum.inl _, wi σ (cw (cw G 87 (shG M (G 87) (k + 1))) 81 (if M (99 + k) = 1 then lfN (drK M k) k 2 else drK M k)))
      rw [if_neg q]) (by
    obtain ⟨d1, d2, d3, d4⟩ := dr_wf hw (nLv M) (Nat.le_refl _)
    unfold fX10_shakes_l1
    dsimp only
    rw [m_leaves h (by rw [a81]; exact d1.1), bnP_1, a81, d2, if_pos (nI_le (Nat.le_refl _) (by omega))])
  have k2 := lpS_f (f := fX10_shakes_l2 (some 80) (nI (cntN (lsB M) (nLv M)))) (a := 0) (σ := wi σ (cw (cw G 87 (shG M (G 87) (nLv M))) 81 (drK M (nLv M)))) (r := ()) (nLv M) (fun k => nI k) (fun k => wi σ (cw (cw G 87 (shG M (G 87) (nLv M))) 81 (shK M k))) rfl rfl (by omega) (fun k hk => by
    obtain ⟨d1, d2, d3, d4⟩ := sh_wf hw k (by omega)
    unfold fX10_shakes_l2
    have ev : shG M (G 87) (nLv M) k = bI (lsB M k) := if_pos hk
    rw [m_leaves h (by rw [a81]; exact d1.1), bnP_1, a81, d2, if_neg (nI_ge hk (by omega)), mk_r7 h, bnP_1, mk_a7 h (by omega), bnP_1, show 80 + 7 = 87 from rfl, a87, ev]
    by_cases q : M (99 + k) = 1
    · have eb : lsB M k = true := decide_eq_true q
      rw [eb, if_neg (show ¬ bI true = 0 by decide), m_loosens h d1 (a81 _ _) (by omega), bnP_1, cw_cw, nI_a1]
      show some (Sum.inl _, wi σ (cw _ 81 (lsN (shK M k) k))) = some (Sum.inl _, wi σ (cw _ 81 (if M (99 + k) = 1 then lsN (shK M k) k else shK M k)))
      rw [if_pos q]
    · have eb : lsB M k = false := decide_eq_false q
      rw [eb, if_pos (show bI false = 0 by decide), nI_a1]
      show some (Sum.inl _, wi σ (cw _ 81 (shK M k))) = some (Sum.inl _, wi σ (cw _ 81 (if M (99 + k) = 1 then lsN (shK M k) k else shK M k)))
      rw [if_neg q]) (by
    obtain ⟨d1, d2, d3, d4⟩ := sh_wf hw (nLv M) (Nat.le_refl _)
    unfold fX10_shakes_l2
    rw [m_leaves h (by rw [a81]; exact d1.1), bnP_1, a81, d2, if_pos (nI_le (Nat.le_refl _) (by omega))])
  unfold fX10_shakes
  rw [mk_o h, bnP_1, k1, bnS_1, k2, bnS_1]
end SHK2
