/-! THE PURE LEVEL, 13: FIRSTUNKNOWN, LEAVESFOR, WHYNOTSTRIKE -/
/-- the first of 0 .. n - 1 with p -/
def fuN (p : Nat → Bool) : Nat → Option Nat
  | 0 => none
  | n + 1 => match fuN p n with
    | some k => some k
    | none => if p n = true then some n else none
theorem fuN_none {p : Nat → Bool} : ∀ {n : Nat}, fuN p n = none → ∀ k, k < n → p k = false
  | 0, _, k, hk => absurd hk (Nat.not_lt_zero _)
  | n + 1, h, k, hk => by
    unfold fuN at h
    cases e : fuN p n with
    | some j => rw [e] at h; cases h
    | none =>
      rw [e] at h
      have h : (if p n = true then some n else none) = none := h
      cases e2 : p n
      · rcases Nat.lt_succ_iff_lt_or_eq.mp hk with q | q
        · exact fuN_none e k q
        · rw [q]; exact e2
      · rw [if_pos e2] at h; cases h
theorem fuN_some {p : Nat → Bool} {j : Nat} : ∀ {n : Nat}, fuN p n = some j → j < n ∧ p j = true ∧ ∀ k, k < j → p k = false
  | 0, h => by cases h
  | n + 1, h => by
    unfold fuN at h
    cases e : fuN p n with
    | some i =>
      rw [e] at h
      cases h
      obtain ⟨h1, h2, h3⟩ := fuN_some e
      exact ⟨by omega, h2, h3⟩
    | none =>
      rw [e] at h
      have h : (if p n = true then some n else none) = some j := h
      cases e2 : p n
      · rw [e2] at h; cases h
      · rw [if_pos e2] at h
        cases h
        exact ⟨Nat.lt_succ_self _, e2, fuN_none e⟩
def oN (x : Option Nat) : Int32 := match x with
  | none => nO
  | some k => nI k
/-- the first unknown word of act a -/
def fuQ (N : Nat → Int32) (a : Nat) : Int32 := oN (fuN (fun k => !knN N (aF N a + k)) (aM N a))
section LQ3
variable {σ : HpT} {G : Nat → Nat → Int32} {J : Nat → Nat → Int64} {o b m d : Nat} {N : Nat → Int32}
theorem bnot_f {x : Bool} (h : (!x) = false) : x = true := by cases x; cases h; rfl
theorem bnot_t {x : Bool} (h : (!x) = true) : x = false := by cases x; rfl; cases h
theorem cq_firstUnknown (h : NK σ o b) (hwr : G o 4 ≠ 0 → WFN N ∧ RB G J b N) (v : Int32) : fX9_firstUnknown (some o) v (wc σ G J) = some (if G o 4 = 0 then .error 0 else actQ N v (fuQ N)) := by
  have B := nk_B h
  unfold fX9_firstUnknown
  rw [nk_o h, bnP_1, c_requireBook h]
  by_cases q : G o 4 = 0
  · rw [if_pos q, if_pos q, bnX_e]
  · obtain ⟨hw, r⟩ := hwr q
    have hb := w1_b hw.1
    rw [if_neg q, if_neg q, bnX_1]
    unfold actQ
    cases e : inR v (nI 1) (N 3)
    · rw [c_requireAct0 h hw.1 r e, bnX_e]
      rfl
    · rw [(w1_e hw.1).2.1] at e
      obtain ⟨j, hv, h1, hj⟩ := inR_t (by omega) (by omega) e
      subst hv
      obtain ⟨a, rfl⟩ : ∃ a, j = a + 1 := ⟨j - 1, by omega⟩
      have ha : a < nAc N := by omega
      obtain ⟨p1, p2, p3, p4, p5⟩ := (act_ok hw.1 hw.2.1 ha).1
      have hle : aF N a + aM N a ≤ nWd N := act_le hw.1 hw.2.1 ha
      have hr := rb_act r ha
      rw [if_pos rfl, nI_clamp (by omega), Nat.add_sub_cancel, c_requireAct1 h hw.1 r ha, bnX_1]
      unfold fuQ
      have step : ∀ k, k < aM N a → fX9_firstUnknown_l1 (some o) (some (b + 15 + a)) (wc σ G J) (nI k) = (if knN N (aF N a + k) = true then some (.inl (nI (k + 1))) else some (.inr (.inr (nI k)))) := fun k hk => by
        unfold fX9_firstUnknown_l1
        rw [bk_aI B p1, bnP_1, hr.2.2.2.2.2.2.1, p3, if_neg (by rw [nI_leI (by omega) (by omega)]; omega), nk_b h, bnP_1, bk_aI B p1, bnP_1, hr.2.2.2.2.2.1, p2, nI_add, c_isKnown B hw r (by omega), bnP_1, nI_a1]
      cases e2 : fuN (fun k => !knN N (aF N a + k)) (aM N a) with
      | none =>
        have e3 : lpP (fX9_firstUnknown_l1 (some o) (some (b + 15 + a)) (wc σ G J)) FUEL 0 = some (.inl ()) := by
          refine lpP_f (aM N a) (fun k => nI k) rfl (by omega) (fun k hk => ?_) ?_
          · rw [step k hk, if_pos (bnot_f (fuN_none e2 k hk))]
          · unfold fX9_firstUnknown_l1
            rw [bk_aI B p1, bnP_1, hr.2.2.2.2.2.2.1, p3, if_pos (by rw [nI_leI (by omega) (by omega)]; exact Nat.le_refl _)]
        rw [e3, bnP_1]
        rfl
      | some i =>
        obtain ⟨h3, h4, h5⟩ := fuN_some e2
        have e3 : lpP (fX9_firstUnknown_l1 (some o) (some (b + 15 + a)) (wc σ G J)) FUEL 0 = some (.inr (nI i)) := by
          refine lpP_f i (fun k => nI k) rfl (by omega) (fun k hk => ?_) ?_
          · rw [step k (by omega), if_pos (bnot_f (h5 k hk))]
          · rw [step i h3, if_neg (by rw [bnot_t h4]; decide)]
        rw [e3, bnP_1]
        rfl
theorem mq_firstUnknown (h : MK σ m) (hw : G m 6 ≠ 0 → WFN (G (m + 1))) (hr : G m 6 = 0 ∨ G m 6 = 1) (v : Int32) : fX10_firstUnknown (some m) v (wi σ G) = some (if isA G m v = true then fuQ (G (m + 1)) (v.toNatClampNeg - 1) else 0, wi σ (up G m 0 (thr (decide (G m 6 ≠ 0)) (isA G m v) true))) := by
  unfold fX10_firstUnknown
  rw [mk_o h, bnP_1, m_mayAct h hr, bnS_1]
  cases e : isA G m v
  · rfl
  · rw [if_pos rfl, if_pos rfl]
    have q : G m 6 ≠ 0 := by
      unfold isA at e
      rw [Bool.and_eq_true, decide_eq_true_eq] at e
      exact e.1
    have hw := hw q
    obtain ⟨-, a, hv, ha⟩ := isA_t hw.1 e
    generalize hG : up G m 0 (thr (decide (G m 6 ≠ 0)) true true) = G'
    have eG : G' (m + 1) = G (m + 1) := by rw [← hG]; exact up_a (by omega)
    rw [← eG] at hw ha ⊢
    clear hG
    have hb := w1_b hw.1
    subst hv
    obtain ⟨p1, p2, p3, p4, p5⟩ := id (act_ok hw.1 hw.2.1 ha).1
    have hle : aF (G' (m + 1)) a + aM (G' (m + 1)) a ≤ nWd (G' (m + 1)) := act_le hw.1 hw.2.1 ha
    rw [nI_clamp (by omega), Nat.add_sub_cancel]
    unfold fuQ
    have step : ∀ k, k < aM (G' (m + 1)) a → fX10_firstUnknown_l1 (some m) (nI (a + 1)) (wi σ G') (nI k) = (if knN (G' (m + 1)) (aF (G' (m + 1)) a + k) = true then some (.inl (nI (k + 1))) else some (.inr (.inr (nI k)))) := fun k hk => by
      unfold fX10_firstUnknown_l1 fX10_globalOf
      rw [nI_pred, li_6, m_ofAct h a 6 (by omega), bnP_1, p3, if_neg (by rw [nI_leI (by omega) (by omega)]; omega), mk_o h, bnP_1, li_5, m_ofAct h a 5 (by omega), bnP_1, p2, bnP_1, nI_add, m_isKnown h hw (by omega), bnP_1, nI_a1]
    cases e2 : fuN (fun k => !knN (G' (m + 1)) (aF (G' (m + 1)) a + k)) (aM (G' (m + 1)) a) with
    | none =>
      have e3 : lpP (fX10_firstUnknown_l1 (some m) (nI (a + 1)) (wi σ G')) FUEL 0 = some (.inl ()) := by
        refine lpP_f (aM (G' (m + 1)) a) (fun k => nI k) rfl (by omega) (fun k hk => ?_) ?_
        · rw [step k hk, if_pos (bnot_f (fuN_none e2 k hk))]
        · unfold fX10_firstUnknown_l1
          rw [nI_pred, li_6, m_ofAct h a 6 (by omega), bnP_1, p3, if_pos (by rw [nI_leI (by omega) (by omega)]; exact Nat.le_refl _)]
      rw [e3, bnP_1]
      rfl
    | some i =>
      obtain ⟨h3, h4, h5⟩ := fuN_some e2
      have e3 : lpP (fX10_firstUnknown_l1 (some m) (nI (a + 1)) (wi σ G')) FUEL 0 = some (.inr (nI i)) := by
        refine lpP_f i (fun k => nI k) rfl (by omega) (fun k hk => ?_) ?_
        · rw [step k (by omega), if_pos (bnot_f (h5 k hk))]
        · rw [step i h3, if_neg (by rw [bnot_t h4]; decide)]
      rw [e3, bnP_1]
      rfl
/-- case 15: FIRSTUNKNOWN -/
theorem lc15 (h : LO σ G J o b m d) {Lx : Nat} {xs : Nat → Int32} {v5 v : Int32} (hx : sld Lx xs (v5 + 1) = some v) (v4 : Option Nat) : ∃ t y a c, fL_c15 Lx xs (some o) (some m) (some d) v4 v5 (wc σ G J) = some ((.ok () : Except Nat Unit), wc σ (up G m 0 t) (upJ J d 0 y), a, c) ∧ a ≤ 1 ∧ c ≤ 6 := by
  unfold fL_c15 fL_firstUnknown
  simp only [hx, bnP_1]
  have hr : G m 6 = 0 ∨ G m 6 = 1 := by rw [h.2.2.2.2.1]; exact h.2.2.2.1
  refine lq_int h (cq_firstUnknown h.1 h.2.2.2.2.2 v) (fun J' => mq_firstUnknown (σ := wc σ G J') h.2.1 (fun q => (h.2.2.2.2.2 (by rw [← h.2.2.2.2.1]; exact q)).1) hr v) ?_
  unfold isA actQ
  rw [h.2.2.2.2.1]
  by_cases q : G o 4 = 0
  · rw [if_pos q, decide_eq_false (fun e => e q)]
    exact ⟨show (1 : Int32) ≠ 0 by decide, rfl⟩
  · rw [if_neg q, decide_eq_true q]
    cases e : inR v (nI 1) (G (m + 1) 3)
    · exact ⟨by decide, rfl⟩
    · exact ⟨rfl, rfl⟩
/-- may word v of the open act be struck -/
def strQ (N : Nat → Int32) (v : Int32) : Int32 := if 0 < nAc N ∧ N (9 + 9 * (nAc N - 1) + 1) = 0 then (if inR v (nI 0) (nI (aM N (nAc N - 1) - 1)) = true then (if skN N (aF N (nAc N - 1) + v.toNatClampNeg) = true then 0 else 3) else 2) else 1
theorem c_strikeReason (h : BK σ b) (hw : WFN N) (r : RB G J b N) (v : Int32) : fX1_strikeReason (some b) v (wc σ G J) = some (strQ N v) := by
  have hb := w1_b hw.1
  unfold fX1_strikeReason strQ
  rw [bk_o h, bnP_1]
  by_cases q : 0 < nAc N ∧ N (9 + 9 * (nAc N - 1) + 1) = 0
  · have ha : nAc N - 1 < nAc N := by omega
    obtain ⟨p1, p2, p3, p4, p5⟩ := (act_ok hw.1 hw.2.1 ha).1
    have hle := act_le hw.1 hw.2.1 ha
    have hr := rb_act r ha
    rw [c_openAct1 h hw.1 r q, bnP_1, if_neg (fun e => by cases e), if_pos q]
    by_cases h1 : v < 0
    · rw [if_pos h1]
      unfold inR
      rw [show decide (nI 0 ≤ v) = false from decide_eq_false (Int32.not_le.mpr h1)]
      rfl
    · obtain ⟨j, hj, e⟩ := nI_of h1
      subst e
      rw [if_neg h1, bk_aI h p1, bnP_1, hr.2.2.2.2.2.2.1, p3, inR_nI hj (by omega) (by omega), decide_eq_true (Nat.zero_le j), Bool.true_and, nI_clamp hj]
      by_cases h2 : j < aM N (nAc N - 1)
      · rw [if_pos (by rw [nI_ltI (by omega) (by omega)]; exact h2), decide_eq_true (by omega), if_pos rfl, bk_r8 h, bnP_1, sk_r4 (bk_S h), bnP_1, bk_aI h p1, bnP_1, hr.2.2.2.2.2.1, p2, nI_add, sk_a4 (bk_S h) (by omega), bnP_1, rb_sk r (by omega)]
        unfold skN
        by_cases h3 : N (127 + 13 * (aF N (nAc N - 1) + j) + 2) = 0
        · rw [if_pos h3, decide_eq_true h3]
          rfl
        · rw [if_neg h3, decide_eq_false h3]
          rfl
      · rw [if_neg (by rw [nI_ltI (by omega) (by omega)]; exact h2), decide_eq_false (by omega)]
        rfl
  · rw [c_openAct0 h hw.1 r q, bnP_1, if_pos rfl, if_neg q]
theorem m_whyStrike (h : MK σ m) (hw : WFN (G (m + 1))) (v : Int32) : fX10_whyStrike (some m) v (wi σ G) = some (strQ (G (m + 1)) v) := by
  have hb := w1_b hw.1
  unfold fX10_whyStrike strQ
  rw [mk_o h, bnP_1]
  by_cases q : 0 < nAc (G (m + 1)) ∧ G (m + 1) (9 + 9 * (nAc (G (m + 1)) - 1) + 1) = 0
  · have ha : nAc (G (m + 1)) - 1 < nAc (G (m + 1)) := by omega
    obtain ⟨p1, p2, p3, p4, p5⟩ := (act_ok hw.1 hw.2.1 ha).1
    rw [m_openAct1 h hw.1 q, bnP_1, if_neg (show ¬ nI (nAc (G (m + 1)) - 1) = -1 from nI_nO (by omega)), if_pos q, li_6, m_ofAct h _ 6 (by omega), bnP_1, p3, nI_m1 (by omega), m_in, bnP_1, li_0]
    cases e : inR v (nI 0) (nI (aM (G (m + 1)) (nAc (G (m + 1)) - 1) - 1))
    · rfl
    · obtain ⟨j, hv, -, hj⟩ := inR_t (by omega) (by omega) e
      subst hv
      unfold fX10_openWord
      rw [if_pos rfl, if_pos rfl, mk_o h, bnP_1, m_openAct1 h hw.1 q, bnP_1, li_5, m_ofAct h _ 5 (by omega), bnP_1, p2, nI_add, bnP_1, m_stands h (by omega), bnP_1, nI_clamp (by omega)]
      cases skN (G (m + 1)) (aF (G (m + 1)) (nAc (G (m + 1)) - 1) + j) <;> rfl
  · rw [m_openAct0 h hw.1 q, bnP_1, if_pos (show nO = -1 from rfl), if_neg q]
theorem m_mayLook (h : MK σ m) (hr : G m 6 = 0 ∨ G m 6 = 1) : fX10_mayLook (some m) (wi σ G) = some (decide (G m 6 ≠ 0), wi σ (up G m 0 (thr (decide (G m 6 ≠ 0)) true true))) := by
  unfold fX10_mayLook
  rw [mk_o h, bnP_1, mk_I h, bnP_1]
  have e := m_read G m hr
  rw [e, show (1 : Int32) = bI true from rfl, m_may h, bnS_1, ← e, Bool.and_true, Bool.and_true]
theorem cq_whyNotStrike (h : NK σ o b) (hwr : G o 4 ≠ 0 → WFN N ∧ RB G J b N) (v : Int32) : fX9_whyNotStrike (some o) v (wc σ G J) = some (if G o 4 = 0 then .error 0 else .ok (strQ N v)) := by
  unfold fX9_whyNotStrike
  rw [nk_o h, bnP_1, c_requireBook h]
  by_cases q : G o 4 = 0
  · rw [if_pos q, if_pos q, bnX_e]
  · obtain ⟨hw, r⟩ := hwr q
    rw [if_neg q, if_neg q, bnX_1, nk_b h, bnP_1, c_strikeReason (nk_B h) hw r, bnP_1]
theorem mq_whyNotStrike (h : MK σ m) (hw : G m 6 ≠ 0 → WFN (G (m + 1))) (hr : G m 6 = 0 ∨ G m 6 = 1) (v : Int32) : fX10_whyNotStrike (some m) v (wi σ G) = some (if decide (G m 6 ≠ 0) = true then strQ (G (m + 1)) v else 0, wi σ (up G m 0 (thr (decide (G m 6 ≠ 0)) true true))) := by
  unfold fX10_whyNotStrike
  rw [mk_o h, bnP_1, m_mayLook h hr, bnS_1]
  by_cases q : G m 6 = 0
  · rw [decide_eq_false (fun e => e q)]
    rfl
  · have hw := hw q
    rw [decide_eq_true q, if_pos rfl, if_pos rfl]
    generalize hG : up G m 0 (thr true true true) = G'
    have eG : G' (m + 1) = G (m + 1) := by rw [← hG]; exact up_a (by omega)
    rw [← eG] at hw ⊢
    rw [m_whyStrike h hw, bnP_1]
/-- case 19: WHYNOTSTRIKE -/
theorem lc19 (h : LO σ G J o b m d) {Lx : Nat} {xs : Nat → Int32} {v5 v : Int32} (hx : sld Lx xs (v5 + 1) = some v) (v4 : Option Nat) : ∃ t y a c, fL_c19 Lx xs (some o) (some m) (some d) v4 v5 (wc σ G J) = some ((.ok () : Except Nat Unit), wc σ (up G m 0 t) (upJ J d 0 y), a, c) ∧ a ≤ 1 ∧ c ≤ 6 := by
  unfold fL_c19 fL_whyNotStrike
  simp only [hx, bnP_1]
  have hr : G m 6 = 0 ∨ G m 6 = 1 := by rw [h.2.2.2.2.1]; exact h.2.2.2.1
  refine lq_int h (cq_whyNotStrike h.1 h.2.2.2.2.2 v) (fun J' => mq_whyNotStrike (σ := wc σ G J') h.2.1 (fun q => (h.2.2.2.2.2 (by rw [← h.2.2.2.2.1]; exact q)).1) hr v) ?_
  rw [h.2.2.2.2.1]
  by_cases q : G o 4 = 0
  · rw [if_pos q, decide_eq_false (fun e => e q)]
    exact ⟨show (1 : Int32) ≠ 0 by decide, rfl⟩
  · rw [if_neg q, decide_eq_true q]
    exact ⟨rfl, rfl⟩
end LQ3
