/-! THE PURE LEVEL, 10: the question COUNT -/
theorem acts_sum {N : Nat → Int32} (w1 : W1 N) (w2 : W2 N) (f : Nat → Int32) : sumI (fun a => sumI (fun k => f (aF N a + k)) (aM N a)) (nAc N) = sumI f (nWd N) := by
  have key : ∀ k, k < nAc N → sumI (fun a => sumI (fun k => f (aF N a + k)) (aM N a)) (k + 1) = sumI f (aF N k + aM N k) := by
    intro k
    induction k with
    | zero =>
      intro hk
      have e0 := (act_ok w1 w2 hk).2.2.2 rfl
      rw [sumI_shift f (aF N 0) (aM N 0), show sumI f (aF N 0) = 0 by rw [e0]; rfl]
      rfl
    | succ k ih =>
      intro hk
      have e1 := (act_ok w1 w2 (a := k) (by omega)).2.1 hk
      rw [sumI_shift f (aF N (k + 1)) (aM N (k + 1)), e1, ← ih (by omega), ← e1]
      rfl
  by_cases z : nAc N = 0
  · rw [z, (w2.1 z).1]
    rfl
  · have h1 := key (nAc N - 1) (by omega)
    rw [show nAc N - 1 + 1 = nAc N by omega] at h1
    rw [h1, (act_ok w1 w2 (a := nAc N - 1) (by omega)).2.2.1 (by omega)]
theorem acts_st {N : Nat → Int32} (w1 : W1 N) (w2 : W2 N) : sumI (fun a => stN N (aF N a) (aM N a)) (nAc N) = stN N 0 (nWd N) := by
  unfold stN
  rw [acts_sum w1 w2 (fun g => bI (skN N g) + N (127 + 13 * g + 4))]
  simp only [Nat.zero_add]
/-- number of the open act -/
def opN (N : Nat → Int32) : Int32 := if 0 < nAc N ∧ N (9 + 9 * (nAc N - 1) + 1) = 0 then nI (nAc N) else 0
def cntQ (N : Nat → Int32) : Nat → Int32
  | 0 => N 0
  | 1 => N 1
  | 2 => N 2
  | 3 => N 3
  | 4 => N 4
  | 5 => nI (nLv N)
  | 6 => nI (cntN (fun l => decide (N (99 + l) = 2)) (nLv N))
  | 7 => nI (cntN (fun l => decide (N (99 + l) = 1)) (nLv N))
  | 8 => N 6
  | 9 => N 7
  | 10 => sumI (fun a => N (9 + 9 * a + 3)) (nAc N)
  | 11 => stN N 0 (nWd N)
  | 12 => nI (cntN (fun a => decide (N (9 + 9 * a + 1) = 1)) (nAc N))
  | 13 => nI (cntN (fun a => decide (N (9 + 9 * a + 1) = 2)) (nAc N))
  | 14 => opN N
  | _ => nI (ukN N)
section CQ
variable {σ : HpT} {G : Nat → Nat → Int32} {J : Nat → Nat → Int64} {o b m : Nat} {N : Nat → Int32}
theorem c_openNumber (h : BK σ b) (w1 : W1 N) (r : RB G J b N) : fX1_openNumber (some b) (wc σ G J) = some (opN N) := by
  unfold fX1_openNumber opN
  by_cases q : 0 < nAc N ∧ N (9 + 9 * (nAc N - 1) + 1) = 0
  · rw [bk_o h, bnP_1, c_openAct1 h w1 r q, bnP_1, if_neg (fun e => by cases e), bk_I h, bnP_1, rb_n r w1, if_pos q]
  · rw [bk_o h, bnP_1, c_openAct0 h w1 r q, bnP_1, if_pos rfl, if_neg q]
theorem m_openN (h : MK σ m) (w1 : W1 (G (m + 1))) : (bnP (fX10_openAct (some m) (wi σ G)) fun x => some ((x + 1), wi σ G)) = some (opN (G (m + 1)), wi σ G) := by
  unfold opN
  by_cases q : 0 < nAc (G (m + 1)) ∧ G (m + 1) (9 + 9 * (nAc (G (m + 1)) - 1) + 1) = 0
  · rw [m_openAct1 h w1 q, bnP_1, if_pos q, nI_a1, Nat.sub_add_cancel q.1]
  · rw [m_openAct0 h w1 q, bnP_1, if_neg q]
    rfl
theorem cq_count (h : NK σ o b) (hwr : G o 4 ≠ 0 → WFN N ∧ RB G J b N) (v : Int32) : fX9_count (some o) v (wc σ G J) = some (if G o 4 = 0 then .error 0 else if inR v 0 15 = true then .ok (cntQ N v.toNatClampNeg) else .error 2) := by
  have B := nk_B h
  unfold fX9_count
  rw [nk_o h, bnP_1, c_requireBook h, c_requireUpTo]
  by_cases q : G o 4 = 0
  · rw [if_pos q, if_pos q, bnX_e]
  · obtain ⟨hw, r⟩ := hwr q
    rw [if_neg q, if_neg q, bnX_1]
    cases e : inR v 0 15
    · rfl
    · rw [if_pos rfl, if_pos rfl, bnX_1]
      obtain ⟨j, hv, -, hj⟩ := inR_t (lo := 0) (hi := 15) (by decide) (by decide) e
      subst hv
      rw [nI_clamp (by omega)]
      have hj : j = 0 ∨ j = 1 ∨ j = 2 ∨ j = 3 ∨ j = 4 ∨ j = 5 ∨ j = 6 ∨ j = 7 ∨ j = 8 ∨ j = 9 ∨ j = 10 ∨ j = 11 ∨ j = 12 ∨ j = 13 ∨ j = 14 ∨ j = 15 := by omega
      rcases hj with rfl | rfl | rfl | rfl | rfl | rfl | rfl | rfl | rfl | rfl | rfl | rfl | rfl | rfl | rfl | rfl
      · rw [if_pos (by decide)]
        simp only [nk_b h, bnP_1, bk_I B, bk_r8 B, bk_r9 B, lk_I (bk_L B), sk_I (bk_S B)]
        exact congrArg (fun x => some (Except.ok x)) (r.1.1)
      · rw [if_neg (by decide), if_pos (by decide)]
        simp only [nk_b h, bnP_1, bk_I B, bk_r8 B, bk_r9 B, lk_I (bk_L B), sk_I (bk_S B)]
        exact congrArg (fun x => some (Except.ok x)) (r.1.2.1)
      · rw [if_neg (by decide), if_neg (by decide), if_pos (by decide)]
        simp only [nk_b h, bnP_1, bk_I B, bk_r8 B, bk_r9 B, lk_I (bk_L B), sk_I (bk_S B)]
        exact congrArg (fun x => some (Except.ok x)) (r.1.2.2.2.2.2.2.2.1)
      · rw [if_neg (by decide), if_neg (by decide), if_neg (by decide), if_pos (by decide)]
        simp only [nk_b h, bnP_1, bk_I B, bk_r8 B, bk_r9 B, lk_I (bk_L B), sk_I (bk_S B)]
        exact congrArg (fun x => some (Except.ok x)) (r.1.2.2.1)
      · rw [if_neg (by decide), if_neg (by decide), if_neg (by decide), if_neg (by decide), if_pos (by decide)]
        simp only [nk_b h, bnP_1, bk_I B, bk_r8 B, bk_r9 B, lk_I (bk_L B), sk_I (bk_S B)]
        exact congrArg (fun x => some (Except.ok x)) (r.1.2.2.2.2.2.2.1)
      · rw [if_neg (by decide), if_neg (by decide), if_neg (by decide), if_neg (by decide), if_neg (by decide), if_pos (by decide)]
        simp only [nk_b h, bnP_1, bk_I B, bk_r8 B, bk_r9 B, lk_I (bk_L B), sk_I (bk_S B)]
        exact congrArg (fun x => some (Except.ok x)) (rb_l r)
      · rw [if_neg (by decide), if_neg (by decide), if_neg (by decide), if_neg (by decide), if_neg (by decide), if_neg (by decide), if_pos (by decide)]
        simp only [nk_b h, bnP_1, bk_I B, bk_r8 B, bk_r9 B, lk_I (bk_L B), sk_I (bk_S B)]
        rw [c_countOf B hw.1 r, bnP_1]
        first | done | rfl
      · rw [if_neg (by decide), if_neg (by decide), if_neg (by decide), if_neg (by decide), if_neg (by decide), if_neg (by decide), if_neg (by decide), if_pos (by decide)]
        simp only [nk_b h, bnP_1, bk_I B, bk_r8 B, bk_r9 B, lk_I (bk_L B), sk_I (bk_S B)]
        rw [c_countOf B hw.1 r, bnP_1]
        first | done | rfl
      · rw [if_neg (by decide), if_neg (by decide), if_neg (by decide), if_neg (by decide), if_neg (by decide), if_neg (by decide), if_neg (by decide), if_neg (by decide), if_pos (by decide)]
        simp only [nk_b h, bnP_1, bk_I B, bk_r8 B, bk_r9 B, lk_I (bk_L B), sk_I (bk_S B)]
        exact congrArg (fun x => some (Except.ok x)) (r.1.2.2.2.1)
      · rw [if_neg (by decide), if_neg (by decide), if_neg (by decide), if_neg (by decide), if_neg (by decide), if_neg (by decide), if_neg (by decide), if_neg (by decide), if_neg (by decide), if_pos (by decide)]
        simp only [nk_b h, bnP_1, bk_I B, bk_r8 B, bk_r9 B, lk_I (bk_L B), sk_I (bk_S B)]
        exact congrArg (fun x => some (Except.ok x)) (r.1.2.2.2.2.1)
      · rw [if_neg (by decide), if_neg (by decide), if_neg (by decide), if_neg (by decide), if_neg (by decide), if_neg (by decide), if_neg (by decide), if_neg (by decide), if_neg (by decide), if_neg (by decide), if_pos (by decide)]
        simp only [nk_b h, bnP_1, bk_I B, bk_r8 B, bk_r9 B, lk_I (bk_L B), sk_I (bk_S B)]
        rw [c_marksOfAll B hw.1 r, bnP_1]
        first | done | rfl
      · rw [if_neg (by decide), if_neg (by decide), if_neg (by decide), if_neg (by decide), if_neg (by decide), if_neg (by decide), if_neg (by decide), if_neg (by decide), if_neg (by decide), if_neg (by decide), if_neg (by decide), if_pos (by decide)]
        simp only [nk_b h, bnP_1, bk_I B, bk_r8 B, bk_r9 B, lk_I (bk_L B), sk_I (bk_S B)]
        rw [rb_w r hw.1, show (0 : Int32) = nI 0 from rfl, c_standingFrom B hw.1 r (f := 0) (n := nWd N) (by omega), bnP_1]
        first | done | rfl
      · rw [if_neg (by decide), if_neg (by decide), if_neg (by decide), if_neg (by decide), if_neg (by decide), if_neg (by decide), if_neg (by decide), if_neg (by decide), if_neg (by decide), if_neg (by decide), if_neg (by decide), if_neg (by decide), if_pos (by decide)]
        simp only [nk_b h, bnP_1, bk_I B, bk_r8 B, bk_r9 B, lk_I (bk_L B), sk_I (bk_S B)]
        rw [c_actsAt B hw.1 r, bnP_1]
        first | done | rfl
      · rw [if_neg (by decide), if_neg (by decide), if_neg (by decide), if_neg (by decide), if_neg (by decide), if_neg (by decide), if_neg (by decide), if_neg (by decide), if_neg (by decide), if_neg (by decide), if_neg (by decide), if_neg (by decide), if_neg (by decide), if_pos (by decide)]
        simp only [nk_b h, bnP_1, bk_I B, bk_r8 B, bk_r9 B, lk_I (bk_L B), sk_I (bk_S B)]
        rw [c_actsAt B hw.1 r, bnP_1]
        first | done | rfl
      · rw [if_neg (by decide), if_neg (by decide), if_neg (by decide), if_neg (by decide), if_neg (by decide), if_neg (by decide), if_neg (by decide), if_neg (by decide), if_neg (by decide), if_neg (by decide), if_neg (by decide), if_neg (by decide), if_neg (by decide), if_neg (by decide), if_pos (by decide)]
        simp only [nk_b h, bnP_1, bk_I B, bk_r8 B, bk_r9 B, lk_I (bk_L B), sk_I (bk_S B)]
        rw [c_openNumber B hw.1 r, bnP_1]
        first | done | rfl
      · rw [if_neg (by decide), if_neg (by decide), if_neg (by decide), if_neg (by decide), if_neg (by decide), if_neg (by decide), if_neg (by decide), if_neg (by decide), if_neg (by decide), if_neg (by decide), if_neg (by decide), if_neg (by decide), if_neg (by decide), if_neg (by decide), if_neg (by decide)]
        simp only [nk_b h, bnP_1, bk_I B, bk_r8 B, bk_r9 B, lk_I (bk_L B), sk_I (bk_S B)]
        rw [rb_w r hw.1, show (0 : Int32) = nI 0 from rfl, c_unknownFrom B hw r (f := 0) (n := nWd N) (by omega), bnP_1]
        simp only [Nat.zero_add]
        rfl
theorem mq_count (h : MK σ m) (hw : G m 6 ≠ 0 → WFN (G (m + 1))) (hr : G m 6 = 0 ∨ G m 6 = 1) (v : Int32) : fX10_count (some m) v (wi σ G) = some (if (decide (G m 6 ≠ 0) && inR v 0 15) = true then cntQ (G (m + 1)) v.toNatClampNeg else 0, wi σ (up G m 0 (thr (decide (G m 6 ≠ 0)) (inR v 0 15) true))) := by
  unfold fX10_count
  rw [mk_o h, bnP_1, mk_I h, bnP_1, m_in, bnP_1]
  have e6 := m_read G m hr
  rw [e6, m_mayTwo h, bnS_1, ← e6]
  cases e : (decide (G m 6 ≠ 0) && inR v 0 15)
  · rw [if_neg (by decide), if_neg (by decide)]
  · rw [if_pos rfl, if_pos rfl]
    rw [Bool.and_eq_true, decide_eq_true_eq] at e
    have hw := hw e.1
    obtain ⟨j, hv, -, hj⟩ := inR_t (lo := 0) (hi := 15) (by decide) (by decide) e.2
    generalize hG : up G m 0 (thr (decide (G m 6 ≠ 0)) (inR v 0 15) true) = G'
    have eG : G' (m + 1) = G (m + 1) := by rw [← hG]; exact up_a (by omega)
    rw [← eG] at hw ⊢
    clear hG
    subst hv
    rw [nI_clamp (by omega)]
    have hj : j = 0 ∨ j = 1 ∨ j = 2 ∨ j = 3 ∨ j = 4 ∨ j = 5 ∨ j = 6 ∨ j = 7 ∨ j = 8 ∨ j = 9 ∨ j = 10 ∨ j = 11 ∨ j = 12 ∨ j = 13 ∨ j = 14 ∨ j = 15 := by omega
    rcases hj with rfl | rfl | rfl | rfl | rfl | rfl | rfl | rfl | rfl | rfl | rfl | rfl | rfl | rfl | rfl | rfl
    · rw [if_pos (by decide), mk_r1 h, bnP_1, show (0 : Int32) = nI 0 from rfl, mk_a1 h (n := 0) (by decide), bnP_1]
      first | done | rfl
    · rw [if_neg (by decide), if_pos (by decide), mk_r1 h, bnP_1, show (1 : Int32) = nI 1 from rfl, mk_a1 h (n := 1) (by decide), bnP_1]
      first | done | rfl
    · rw [if_neg (by decide), if_neg (by decide), if_pos (by decide), mk_r1 h, bnP_1, show (2 : Int32) = nI 2 from rfl, mk_a1 h (n := 2) (by decide), bnP_1]
      first | done | rfl
    · rw [if_neg (by decide), if_neg (by decide), if_neg (by decide), if_pos (by decide), mk_r1 h, bnP_1, show (3 : Int32) = nI 3 from rfl, mk_a1 h (n := 3) (by decide), bnP_1]
      first | done | rfl
    · rw [if_neg (by decide), if_neg (by decide), if_neg (by decide), if_neg (by decide), if_pos (by decide), mk_r1 h, bnP_1, show (4 : Int32) = nI 4 from rfl, mk_a1 h (n := 4) (by decide), bnP_1]
      first | done | rfl
    · rw [if_neg (by decide), if_neg (by decide), if_neg (by decide), if_neg (by decide), if_neg (by decide), if_pos (by decide), m_leaves h hw.1, bnP_1]
      first | done | rfl
    · rw [if_neg (by decide), if_neg (by decide), if_neg (by decide), if_neg (by decide), if_neg (by decide), if_neg (by decide), if_pos (by decide), m_withStatus h hw.1, bnP_1]
      first | done | rfl
    · rw [if_neg (by decide), if_neg (by decide), if_neg (by decide), if_neg (by decide), if_neg (by decide), if_neg (by decide), if_neg (by decide), if_pos (by decide), m_withStatus h hw.1, bnP_1]
      first | done | rfl
    · rw [if_neg (by decide), if_neg (by decide), if_neg (by decide), if_neg (by decide), if_neg (by decide), if_neg (by decide), if_neg (by decide), if_neg (by decide), if_pos (by decide), mk_r1 h, bnP_1, show (6 : Int32) = nI 6 from rfl, mk_a1 h (n := 6) (by decide), bnP_1]
      first | done | rfl
    · rw [if_neg (by decide), if_neg (by decide), if_neg (by decide), if_neg (by decide), if_neg (by decide), if_neg (by decide), if_neg (by decide), if_neg (by decide), if_neg (by decide), if_pos (by decide), mk_r1 h, bnP_1, show (7 : Int32) = nI 7 from rfl, mk_a1 h (n := 7) (by decide), bnP_1]
      first | done | rfl
    · rw [if_neg (by decide), if_neg (by decide), if_neg (by decide), if_neg (by decide), if_neg (by decide), if_neg (by decide), if_neg (by decide), if_neg (by decide), if_neg (by decide), if_neg (by decide), if_pos (by decide), li_3, m_ofAllActs h hw.1 (w := 3) (by decide), bnP_1]
      first | done | rfl
    · rw [if_neg (by decide), if_neg (by decide), if_neg (by decide), if_neg (by decide), if_neg (by decide), if_neg (by decide), if_neg (by decide), if_neg (by decide), if_neg (by decide), if_neg (by decide), if_neg (by decide), if_pos (by decide), m_standingAll h hw.1 hw.2.1, bnP_1, acts_st hw.1 hw.2.1]
      first | done | rfl
    · rw [if_neg (by decide), if_neg (by decide), if_neg (by decide), if_neg (by decide), if_neg (by decide), if_neg (by decide), if_neg (by decide), if_neg (by decide), if_neg (by decide), if_neg (by decide), if_neg (by decide), if_neg (by decide), if_pos (by decide), m_actsWith h hw.1, bnP_1]
      first | done | rfl
    · rw [if_neg (by decide), if_neg (by decide), if_neg (by decide), if_neg (by decide), if_neg (by decide), if_neg (by decide), if_neg (by decide), if_neg (by decide), if_neg (by decide), if_neg (by decide), if_neg (by decide), if_neg (by decide), if_neg (by decide), if_pos (by decide), m_actsWith h hw.1, bnP_1]
      first | done | rfl
    · rw [if_neg (by decide), if_neg (by decide), if_neg (by decide), if_neg (by decide), if_neg (by decide), if_neg (by decide), if_neg (by decide), if_neg (by decide), if_neg (by decide), if_neg (by decide), if_neg (by decide), if_neg (by decide), if_neg (by decide), if_neg (by decide), if_pos (by decide), m_openN h hw.1]
      first | done | rfl
    · rw [if_neg (by decide), if_neg (by decide), if_neg (by decide), if_neg (by decide), if_neg (by decide), if_neg (by decide), if_neg (by decide), if_neg (by decide), if_neg (by decide), if_neg (by decide), if_neg (by decide), if_neg (by decide), if_neg (by decide), if_neg (by decide), if_neg (by decide), m_unknown h hw, bnP_1]
      first | done | rfl
end CQ
