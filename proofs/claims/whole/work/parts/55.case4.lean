/-! THE PURE LEVEL, 14: WHYNOTSEAL, LEAVESFOR -/
/-- may the open act be sealed by notary v with w marks -/
def sealQ (N : Nat → Int32) (v w : Int32) : Int32 := if 0 < nAc N ∧ N (9 + 9 * (nAc N - 1) + 1) = 0 then (if N 1 ≤ v then (if w = N (9 + 9 * (nAc N - 1) + 3) then (if stN N (aF N (nAc N - 1)) (aM N (nAc N - 1)) = 0 then 4 else 0) else 3) else 2) else 1
def lfQ (N : Nat → Int32) (v : Int32) : Int32 := if (((N 4 + v) + N 0) - 1) / N 0 ≤ 12 then (((N 4 + v) + N 0) - 1) / N 0 - nI (nLv N) else -1
section LQ4
variable {σ : HpT} {G : Nat → Nat → Int32} {J : Nat → Nat → Int64} {o b m d : Nat} {N : Nat → Int32}
theorem c_openStanding (h : BK σ b) (hw : WFN N) (r : RB G J b N) (q : isO N) : fX1_openStanding (some b) (wc σ G J) = some (stN N (aF N (nAc N - 1)) (aM N (nAc N - 1))) := by
  have ha : nAc N - 1 < nAc N := by have := q.1; omega
  obtain ⟨p1, p2, p3, p4, p5⟩ := (act_ok hw.1 hw.2.1 ha).1
  have hle := act_le hw.1 hw.2.1 ha
  have hr := rb_act r ha
  unfold fX1_openStanding
  rw [bk_o h, bnP_1, c_openAct1 h hw.1 r q, bnP_1, if_neg (fun e => by cases e), bk_r8 h, bnP_1, bk_aI h p1, bnP_1, hr.2.2.2.2.2.1, bk_aI h p1, bnP_1, hr.2.2.2.2.2.2.1, p2, p3, c_standingFrom h hw.1 r hle, bnP_1]
theorem c_sealReason (h : BK σ b) (hw : WFN N) (r : RB G J b N) (v w : Int32) : fX1_sealReason (some b) v w (wc σ G J) = some (sealQ N v w) := by
  unfold fX1_sealReason sealQ
  rw [bk_o h, bnP_1]
  by_cases q : 0 < nAc N ∧ N (9 + 9 * (nAc N - 1) + 1) = 0
  · have ha : nAc N - 1 < nAc N := by omega
    obtain ⟨p1, p2, p3, p4, p5⟩ := (act_ok hw.1 hw.2.1 ha).1
    have hr := rb_act r ha
    rw [c_openAct1 h hw.1 r q, bnP_1, if_neg (fun e => by cases e), if_pos q, bk_I h, bnP_1, r.1.2.1]
    by_cases h1 : N 1 ≤ v
    · rw [if_pos h1, if_pos h1, bk_aI h p1, bnP_1, hr.2.2.2.2.1]
      by_cases h2 : w = N (9 + 9 * (nAc N - 1) + 3)
      · rw [if_pos h2, if_pos h2, c_openStanding h hw r q, bnP_1]
        by_cases h3 : stN N (aF N (nAc N - 1)) (aM N (nAc N - 1)) = 0
        · rw [if_pos h3, if_pos h3]
        · rw [if_neg h3, if_neg h3]
      · rw [if_neg h2, if_neg h2]
    · rw [if_neg h1, if_neg h1]
  · rw [c_openAct0 h hw.1 r q, bnP_1, if_pos rfl, if_neg q]
theorem m_whySeal (h : MK σ m) (hw : WFN (G (m + 1))) (v w : Int32) : fX10_whySeal (some m) v w (wi σ G) = some (sealQ (G (m + 1)) v w) := by
  have hb := w1_b hw.1
  unfold fX10_whySeal sealQ
  rw [mk_o h, bnP_1]
  by_cases q : 0 < nAc (G (m + 1)) ∧ G (m + 1) (9 + 9 * (nAc (G (m + 1)) - 1) + 1) = 0
  · have ha : nAc (G (m + 1)) - 1 < nAc (G (m + 1)) := by omega
    have ho := (act_ok hw.1 hw.2.1 ha).1
    have p1 := ho.1
    rw [m_openAct1 h hw.1 q, bnP_1, if_neg (show ¬ nI (nAc (G (m + 1)) - 1) = -1 from nI_nO (by omega)), if_pos q, mk_r1 h, bnP_1, show aI (wi σ G) (some (m + 1)) 20 1 = some (G (m + 1) 1) from mk_a1 h (n := 1) (by decide), bnP_1]
    by_cases h1 : G (m + 1) 1 ≤ v
    · rw [if_pos h1, if_pos h1, show fX10_ofAct (some m) (nI (nAc (G (m + 1)) - 1)) 3 (wi σ G) = some (G (m + 1) (9 + 9 * (nAc (G (m + 1)) - 1) + 3)) from m_ofAct h _ 3 (by omega), bnP_1]
      by_cases h2 : w = G (m + 1) (9 + 9 * (nAc (G (m + 1)) - 1) + 3)
      · rw [if_pos h2, if_pos h2, m_standing h ho, bnP_1]
        by_cases h3 : stN (G (m + 1)) (aF (G (m + 1)) (nAc (G (m + 1)) - 1)) (aM (G (m + 1)) (nAc (G (m + 1)) - 1)) = 0
        · rw [if_pos h3, if_pos h3]
        · rw [if_neg h3, if_neg h3]
      · rw [if_neg h2, if_neg h2]
    · rw [if_neg h1, if_neg h1]
  · rw [m_openAct0 h hw.1 q, bnP_1, if_pos (show nO = -1 from rfl), if_neg q]
theorem cq_whyNotSeal (h : NK σ o b) (hwr : G o 4 ≠ 0 → WFN N ∧ RB G J b N) (v w : Int32) : fX9_whyNotSeal (some o) v w (wc σ G J) = some (if G o 4 = 0 then .error 0 else if (inR v 0 9 && inR w 0 99) = true then .ok (sealQ N v w) else .error 2) := by
  unfold fX9_whyNotSeal
  rw [nk_o h, bnP_1, c_requireBook h, c_requireUpTo, c_requireUpTo]
  by_cases q : G o 4 = 0
  · rw [if_pos q, if_pos q, bnX_e]
  · obtain ⟨hw, r⟩ := hwr q
    rw [if_neg q, if_neg q, bnX_1]
    cases e1 : inR v 0 9
    · rfl
    · cases e2 : inR w 0 99
      · rfl
      · rw [if_pos rfl, bnX_1, bnX_1, nk_b h, bnP_1, c_sealReason (nk_B h) hw r, bnP_1]
        rfl
theorem mq_whyNotSeal (h : MK σ m) (hw : G m 6 ≠ 0 → WFN (G (m + 1))) (hr : G m 6 = 0 ∨ G m 6 = 1) (v w : Int32) : fX10_whyNotSeal (some m) v w (wi σ G) = some (if (decide (G m 6 ≠ 0) && (inR v 0 9 && inR w 0 99)) = true then sealQ (G (m + 1)) v w else 0, wi σ (up G m 0 (thr (decide (G m 6 ≠ 0)) (inR v 0 9 && inR w 0 99) true))) := by
  unfold fX10_whyNotSeal
  have e := m_read G m hr
  have key : (bnP (if inR v 0 9 = true then bnP (fX10_in w 0 99 (wi σ G)) (fun x10 => (if x10 = true then some (some m, G m 6, (1 : Int32)) else some (some m, G m 6, 0))) else some (some m, G m 6, 0)) (fun (j5 : Option Nat × Int32 × Int32) => fX10_mayTwo j5.1 j5.2.1 j5.2.2 (wi σ G))) = some (decide (G m 6 ≠ 0) && (inR v 0 9 && inR w 0 99), wi σ (up G m 0 (thr (decide (G m 6 ≠ 0)) (inR v 0 9 && inR w 0 99) true))) := by
    rw [m_in, bnP_1]
    cases e1 : inR v 0 9
    · rw [if_neg (by decide), bnP_1]
      dsimp only
      rw [show (0 : Int32) = bI false from rfl, e, m_mayTwo h, ← e]
      rfl
    · rw [if_pos rfl]
      cases e2 : inR w 0 99
      · rw [if_neg (by decide), bnP_1]
        dsimp only
        rw [show (0 : Int32) = bI false from rfl, e, m_mayTwo h, ← e]
        rfl
      · rw [if_pos rfl, bnP_1]
        dsimp only
        rw [show (1 : Int32) = bI true from rfl, e, m_mayTwo h, ← e]
        rfl
  have key2 : ∀ (f : Bool → HpT → Option (Int32 × HpT)), (bnP (if inR v 0 9 = true then bnP (fX10_in w 0 99 (wi σ G)) (fun x10 => (if x10 = true then some (some m, G m 6, (1 : Int32)) else some (some m, G m 6, 0))) else some (some m, G m 6, 0)) (fun (j5 : Option Nat × Int32 × Int32) => bnS (fX10_mayTwo j5.1 j5.2.1 j5.2.2 (wi σ G)) f)) = f (decide (G m 6 ≠ 0) && (inR v 0 9 && inR w 0 99)) (wi σ (up G m 0 (thr (decide (G m 6 ≠ 0)) (inR v 0 9 && inR w 0 99) true))) := fun f => by
    generalize (if inR v 0 9 = true then bnP (fX10_in w 0 99 (wi σ G)) (fun x10 => (if x10 = true then some (some m, G m 6, (1 : Int32)) else some (some m, G m 6, 0))) else some (some m, G m 6, 0)) = z at key ⊢
    cases z with
    | none => cases key
    | some z =>
      rw [bnP_1] at key ⊢
      rw [key, bnS_1]
  rw [mk_o h, bnP_1, mk_I h, bnP_1, m_in, bnP_1, key2]
  cases e3 : (decide (G m 6 ≠ 0) && (inR v 0 9 && inR w 0 99))
  · rfl
  · rw [Bool.and_eq_true, decide_eq_true_eq] at e3
    have hw := hw e3.1
    rw [if_pos rfl, if_pos rfl]
    generalize hG : up G m 0 (thr (decide (G m 6 ≠ 0)) (inR v 0 9 && inR w 0 99) true) = G'
    have eG : G' (m + 1) = G (m + 1) := by rw [← hG]; exact up_a (by omega)
    rw [← eG] at hw ⊢
    rw [m_whySeal h hw, bnP_1]
/-- case 17: WHYNOTSEAL -/
theorem lc17 (h : LO σ G J o b m d) {Lx : Nat} {xs : Nat → Int32} {v5 v w : Int32} (hx : sld Lx xs (v5 + 1) = some v) (hy : sld Lx xs (v5 + 2) = some w) (v4 : Option Nat) : ∃ t y a c, fL_c17 Lx xs (some o) (some m) (some d) v4 v5 (wc σ G J) = some ((.ok () : Except Nat Unit), wc σ (up G m 0 t) (upJ J d 0 y), a, c) ∧ a ≤ 1 ∧ c ≤ 6 := by
  unfold fL_c17 fL_whyNotSeal
  simp only [hx, hy, bnP_1]
  have hr : G m 6 = 0 ∨ G m 6 = 1 := by rw [h.2.2.2.2.1]; exact h.2.2.2.1
  refine lq_int h (cq_whyNotSeal h.1 h.2.2.2.2.2 v w) (fun J' => mq_whyNotSeal (σ := wc σ G J') h.2.1 (fun q => (h.2.2.2.2.2 (by rw [← h.2.2.2.2.1]; exact q)).1) hr v w) ?_
  rw [h.2.2.2.2.1]
  by_cases q : G o 4 = 0
  · rw [if_pos q, decide_eq_false (fun e => e q)]
    exact ⟨show (1 : Int32) ≠ 0 by decide, rfl⟩
  · rw [if_neg q, decide_eq_true q]
    cases e : (inR v 0 9 && inR w 0 99)
    · exact ⟨by decide, rfl⟩
    · exact ⟨rfl, rfl⟩
theorem cq_leavesFor (h : NK σ o b) (hwr : G o 4 ≠ 0 → WFN N ∧ RB G J b N) (v : Int32) : fX9_leavesFor (some o) v (wc σ G J) = some (if G o 4 = 0 then .error 0 else if inR v 0 240 = true then .ok (lfQ N v) else .error 2) := by
  have B := nk_B h
  unfold fX9_leavesFor
  rw [nk_o h, bnP_1, c_requireBook h, c_requireUpTo]
  by_cases q : G o 4 = 0
  · rw [if_pos q, if_pos q, bnX_e]
  · obtain ⟨hw, r⟩ := hwr q
    have hb := w1_b hw.1
    rw [if_neg q, if_neg q, bnX_1]
    cases e1 : inR v 0 240
    · rfl
    · have hz : nz (N 0) = some () := by rw [(w1_e hw.1).1]; exact if_neg (nI_ne0 (by omega) (by omega))
      have hn : ¬ N 0 ≤ 0 := by rw [(w1_e hw.1).1]; exact nI_nle (by omega) (by omega)
      have r0 : G b 0 = N 0 := r.1.1
      have r4 : G (b + 3) 0 = N 4 := r.1.2.2.2.2.2.2.1
      unfold fX1_leavesOf lfQ
      simp only [bnX_1, nk_b h, bnP_1, bk_o B, bk_I B, bk_r8 B, bk_r9 B, sk_I (bk_S B), lk_I (bk_L B), r0, r4, hz, rb_l r, if_neg hn, if_true]
      by_cases q2 : (((N 4 + v) + N 0) - 1) / N 0 ≤ 12
      · rw [if_pos q2, if_pos q2]
      · rw [if_neg q2, if_neg q2]
theorem mq_leavesFor (h : MK σ m) (hw : G m 6 ≠ 0 → WFN (G (m + 1))) (hr : G m 6 = 0 ∨ G m 6 = 1) (v : Int32) : fX10_leavesFor (some m) v (wi σ G) = some (if (decide (G m 6 ≠ 0) && inR v 0 240) = true then lfQ (G (m + 1)) v else 0, wi σ (up G m 0 (thr (decide (G m 6 ≠ 0)) (inR v 0 240) true))) := by
  unfold fX10_leavesFor
  rw [mk_o h, bnP_1, mk_I h, bnP_1, m_in, bnP_1]
  have e6 := m_read G m hr
  rw [e6, m_mayTwo h, bnS_1, ← e6]
  cases e : (decide (G m 6 ≠ 0) && inR v 0 240)
  · rfl
  · rw [Bool.and_eq_true, decide_eq_true_eq] at e
    have hw := hw e.1
    rw [if_pos rfl, if_pos rfl]
    generalize hG : up G m 0 (thr (decide (G m 6 ≠ 0)) (inR v 0 240) true) = G'
    have eG : G' (m + 1) = G (m + 1) := by rw [← hG]; exact up_a (by omega)
    rw [← eG] at hw ⊢
    have hb := w1_b hw.1
    have hz : nz (G' (m + 1) 0) = some () := by rw [(w1_e hw.1).1]; exact if_neg (nI_ne0 (by omega) (by omega))
    have a4 : aI (wi σ G') (some (m + 1)) 20 4 = some (G' (m + 1) 4) := mk_a1 h (n := 4) (by decide)
    have a0 : aI (wi σ G') (some (m + 1)) 20 0 = some (G' (m + 1) 0) := mk_a1 h (n := 0) (by decide)
    unfold lfQ
    simp only [mk_r1 h, bnP_1, a4, a0, hz, m_leaves h hw.1]
    by_cases q2 : (((G' (m + 1) 4 + v) + G' (m + 1) 0) - 1) / G' (m + 1) 0 ≤ 12
    · rw [if_pos q2, if_pos q2]
    · rw [if_neg q2, if_neg q2]
/-- case 23: LEAVESFOR -/
theorem lc23 (h : LO σ G J o b m d) {Lx : Nat} {xs : Nat → Int32} {v5 v : Int32} (hx : sld Lx xs (v5 + 1) = some v) (v4 : Option Nat) : ∃ t y a c, fL_c23 Lx xs (some o) (some m) (some d) v4 v5 (wc σ G J) = some ((.ok () : Except Nat Unit), wc σ (up G m 0 t) (upJ J d 0 y), a, c) ∧ a ≤ 1 ∧ c ≤ 6 := by
  unfold fL_c23 fL_leavesFor
  simp only [hx, bnP_1]
  have hr : G m 6 = 0 ∨ G m 6 = 1 := by rw [h.2.2.2.2.1]; exact h.2.2.2.1
  refine lq_int h (cq_leavesFor h.1 h.2.2.2.2.2 v) (fun J' => mq_leavesFor (σ := wc σ G J') h.2.1 (fun q => (h.2.2.2.2.2 (by rw [← h.2.2.2.2.1]; exact q)).1) hr v) ?_
  rw [h.2.2.2.2.1]
  by_cases q : G o 4 = 0
  · rw [if_pos q, decide_eq_false (fun e => e q)]
    exact ⟨show (1 : Int32) ≠ 0 by decide, rfl⟩
  · rw [if_neg q, decide_eq_true q]
    cases e : inR v 0 240
    · exact ⟨by decide, rfl⟩
    · exact ⟨rfl, rfl⟩
end LQ4
