/-! THE PURE LEVEL, 12: KNOWN, FIRSTUNKNOWN, LEAVESFOR -/
theorem cntN_not (p : Nat → Bool) : ∀ n, cntN p n + cntN (fun k => !p k) n = n
  | 0 => rfl
  | n + 1 => by
    have ih := cntN_not p n
    have h1 : cntN p (n + 1) = cntN p n + (if p n = true then 1 else 0) := rfl
    have h2 : cntN (fun k => !p k) (n + 1) = cntN (fun k => !p k) n + (if (!p n) = true then 1 else 0) := rfl
    rw [h1, h2]
    cases p n
    · rw [if_neg (by decide), if_pos (by decide)]
      omega
    · rw [if_pos rfl, if_neg (by decide)]
      omega
theorem act_le {N : Nat → Int32} (w1 : W1 N) (w2 : W2 N) {a : Nat} (ha : a < nAc N) : aF N a + aM N a ≤ nWd N := by
  have e := (act_ok w1 w2 (a := nAc N - 1) (by omega)).2.2.1 (by omega)
  by_cases q : a = nAc N - 1
  · rw [← q] at e
    omega
  · have := act_mono w1 w2 (j := a) (nAc N - 1) (by omega) (by omega)
    omega
section LQ2
variable {σ : HpT} {G : Nat → Nat → Int32} {J : Nat → Nat → Int64} {o b m d : Nat} {N : Nat → Int32}
theorem c_requireAct0 (h : NK σ o b) (w1 : W1 N) (r : RB G J b N) {v : Int32} (e : inR v (nI 1) (N 3) = false) : fX9_requireAct (some o) v (wc σ G J) = some (.error 1) := by
  have hb := w1_b w1
  unfold fX9_requireAct
  rw [nk_o h, bnP_1]
  by_cases h1 : v < 1
  · rw [if_pos h1]
  · rw [if_neg h1, nk_b h, bnP_1, bk_I (nk_B h), bnP_1, r.1.2.2.1]
    by_cases h2 : v ≤ N 3
    · exfalso
      have : inR v (nI 1) (N 3) = true := by
        unfold inR
        rw [decide_eq_true (show nI 1 ≤ v from Int32.not_lt.mp h1), decide_eq_true h2]
        rfl
      rw [this] at e
      cases e
    · rw [if_neg h2]
theorem c_requireAct1 (h : NK σ o b) (w1 : W1 N) (r : RB G J b N) {a : Nat} (ha : a < nAc N) : fX9_requireAct (some o) (nI (a + 1)) (wc σ G J) = some (.ok (some (b + 15 + a))) := by
  have hb := w1_b w1
  unfold fX9_requireAct
  rw [nk_o h, bnP_1, if_neg (by rw [li_1, nI_ltI (by omega) (by omega)]; omega), nk_b h, bnP_1, bk_I (nk_B h), bnP_1, rb_n r w1, if_pos (by rw [nI_leI (by omega) (by omega)]; omega), bnP_1, bk_r6 (nk_B h), bnP_1, nI_pred, bk_aR (nk_B h) (by omega), bnP_1]
/-- how many words of act a are known -/
def knQ (N : Nat → Int32) (a : Nat) : Int32 := nI (cntN (fun k => knN N (aF N a + k)) (aM N a))
def actQ (N : Nat → Int32) (v : Int32) (x : Nat → Int32) : Except Nat Int32 := if inR v (nI 1) (N 3) = true then .ok (x (v.toNatClampNeg - 1)) else .error 1
theorem cq_known (h : NK σ o b) (hwr : G o 4 ≠ 0 → WFN N ∧ RB G J b N) (v : Int32) : fX9_known (some o) v (wc σ G J) = some (if G o 4 = 0 then .error 0 else actQ N v (knQ N)) := by
  have B := nk_B h
  unfold fX9_known
  rw [nk_o h, bnP_1, c_requireBook h]
  by_cases q : G o 4 = 0
  · rw [if_pos q, if_pos q, bnX_e]
  · obtain ⟨hw, r⟩ := hwr q
    have hb := w1_b hw.1
    rw [if_neg q, if_neg q, bnX_1]
    unfold actQ
    cases e : inR v (nI 1) (N 3)
    · rw [c_requireAct0 h hw.1 r e, bnX_e]
      rfl
    · rw [(w1_e hw.1).2.1] at e
      obtain ⟨j, hv, h1, hj⟩ := inR_t (by omega) (by omega) e
      subst hv
      obtain ⟨a, rfl⟩ : ∃ a, j = a + 1 := ⟨j - 1, by omega⟩
      have ha : a < nAc N := by omega
      obtain ⟨p1, p2, p3, p4, p5⟩ := (act_ok hw.1 hw.2.1 ha).1
      have hle : aF N a + aM N a ≤ nWd N := act_le hw.1 hw.2.1 ha
      have hr := rb_act r ha
      rw [if_pos rfl, nI_clamp (by omega), Nat.add_sub_cancel, c_requireAct1 h hw.1 r ha, bnX_1, bk_aI B p1, bnP_1, nk_b h, bnP_1, bk_aI B p1, bnP_1, bnP_1, hr.2.2.2.2.2.1, hr.2.2.2.2.2.2.1, p2, p3, c_unknownFrom B hw r hle, bnP_1]
      unfold knQ
      have hc := cntN_not (fun k => knN N (aF N a + k)) (aM N a)
      rw [nI_sub (by omega)]
      exact congrArg (fun x => some (Except.ok (nI x))) (by omega)
theorem mq_known (h : MK σ m) (hw : G m 6 ≠ 0 → WFN (G (m + 1))) (hr : G m 6 = 0 ∨ G m 6 = 1) (v : Int32) : fX10_known (some m) v (wi σ G) = some (if isA G m v = true then knQ (G (m + 1)) (v.toNatClampNeg - 1) else 0, wi σ (up G m 0 (thr (decide (G m 6 ≠ 0)) (isA G m v) true))) := by
  unfold fX10_known
  rw [mk_o h, bnP_1, m_mayAct h hr, bnS_1]
  cases e : isA G m v
  · rfl
  · rw [if_pos rfl, if_pos rfl]
    have q : G m 6 ≠ 0 := by
      unfold isA at e
      rw [Bool.and_eq_true, decide_eq_true_eq] at e
      exact e.1
    have hw := hw q
    obtain ⟨-, a, hv, ha⟩ := isA_t hw.1 e
    generalize hG : up G m 0 (thr (decide (G m 6 ≠ 0)) true true) = G'
    have eG : G' (m + 1) = G (m + 1) := by rw [← hG]; exact up_a (by omega)
    rw [← eG] at hw ha ⊢
    clear hG
    have hb := w1_b hw.1
    subst hv
    obtain ⟨p1, p2, p3, p4, p5⟩ := id (act_ok hw.1 hw.2.1 ha).1
    have hle : aF (G' (m + 1)) a + aM (G' (m + 1)) a ≤ nWd (G' (m + 1)) := act_le hw.1 hw.2.1 ha
    rw [nI_clamp (by omega), Nat.add_sub_cancel, nI_pred, li_5, m_ofAct h a 5 (by omega), bnP_1, p2]
    have e2 : lpP (fX10_known_l1 (some m) (nI (a + 1)) (wi σ G')) FUEL (0, nI (aF (G' (m + 1)) a)) = some (knQ (G' (m + 1)) a) := by
      refine lpP_f (aM (G' (m + 1)) a) (fun k => (nI (cntN (fun k => knN (G' (m + 1)) (aF (G' (m + 1)) a + k)) k), nI (aF (G' (m + 1)) a + k))) rfl (by omega) (fun k hk => ?_) ?_
      · unfold fX10_known_l1
        rw [nI_pred, m_lastOf h ⟨p1, p2, p3, p4, p5⟩, bnP_1]
        dsimp only
        rw [if_neg (by rw [nI_ltI (by omega) (by omega)]; omega), m_isKnown h hw (by omega), bnP_1, m_one, bnP_1, nI_a1, bI_nI, nI_add]
        rfl
      · unfold fX10_known_l1
        rw [nI_pred, m_lastOf h ⟨p1, p2, p3, p4, p5⟩, bnP_1]
        dsimp only
        rw [if_pos (by rw [nI_ltI (by omega) (by omega)]; omega)]
        rfl
    rw [e2, bnP_1]
/-- case 14: KNOWN -/
theorem lc14 (h : LO σ G J o b m d) {Lx : Nat} {xs : Nat → Int32} {v5 v : Int32} (hx : sld Lx xs (v5 + 1) = some v) (v4 : Option Nat) : ∃ t y a c, fL_c14 Lx xs (some o) (some m) (some d) v4 v5 (wc σ G J) = some ((.ok () : Except Nat Unit), wc σ (up G m 0 t) (upJ J d 0 y), a, c) ∧ a ≤ 1 ∧ c ≤ 6 := by
  unfold fL_c14 fL_known
  simp only [hx, bnP_1]
  have hr : G m 6 = 0 ∨ G m 6 = 1 := by rw [h.2.2.2.2.1]; exact h.2.2.2.1
  refine lq_int h (cq_known h.1 h.2.2.2.2.2 v) (fun J' => mq_known (σ := wc σ G J') h.2.1 (fun q => (h.2.2.2.2.2 (by rw [← h.2.2.2.2.1]; exact q)).1) hr v) ?_
  unfold isA actQ
  rw [h.2.2.2.2.1]
  by_cases q : G o 4 = 0
  · rw [if_pos q, decide_eq_false (fun e => e q)]
    exact ⟨show (1 : Int32) ≠ 0 by decide, rfl⟩
  · rw [if_neg q, decide_eq_true q]
    cases e : inR v (nI 1) (G (m + 1) 3)
    · exact ⟨by decide, rfl⟩
    · exact ⟨rfl, rfl⟩
end LQ2
