/-! THE PURE LEVEL, 10: the question COUNT -/
/-- number of the open act -/
def opN (N : Nat → Int32) : Int32 := if 0 < nAc N ∧ N (9 + 9 * (nAc N - 1) + 1) = 0 then nI (nAc N) else 0
def cntQ (N : Nat → Int32) : Nat → Int32
  | 0 => N 0
  | 1 => N 1
  | 2 => N 2
  | 3 => N 3
  | 4 => N 4
  | 5 => nI (nLv N)
  | 6 => nI (cntN (fun l => decide (N (99 + l) = 2)) (nLv N))
  | 7 => nI (cntN (fun l => decide (N (99 + l) = 1)) (nLv N))
  | 8 => N 6
  | 9 => N 7
  | 10 => sumI (fun a => N (9 + 9 * a + 3)) (nAc N)
  | 11 => stN N 0 (nWd N)
  | 12 => nI (cntN (fun a => decide (N (9 + 9 * a + 1) = 1)) (nAc N))
  | 13 => nI (cntN (fun a => decide (N (9 + 9 * a + 1) = 2)) (nAc N))
  | 14 => opN N
  | _ => nI (ukN N)
section CQ
variable {σ : HpT} {G : Nat → Nat → Int32} {J : Nat → Nat → Int64} {o b m : Nat} {N : Nat → Int32}
theorem c_openNumber (h : BK σ b) (w1 : W1 N) (r : RB G J b N) : fX1_openNumber (some b) (wc σ G J) = some (opN N) := by
  unfold fX1_openNumber opN
  by_cases q : 0 < nAc N ∧ N (9 + 9 * (nAc N - 1) + 1) = 0
  · rw [bk_o h, bnP_1, c_openAct1 h w1 r q, bnP_1, if_neg (fun e => by cases e), bk_I h, bnP_1, rb_n r w1, if_pos q]
  · rw [bk_o h, bnP_1, c_openAct0 h w1 r q, bnP_1, if_pos rfl, if_neg q]
theorem cq_count (h : NK σ o b) (hwr : G o 4 ≠ 0 → WFN N ∧ RB G J b N) (v : Int32) : fX9_count (some o) v (wc σ G J) = some (if G o 4 = 0 then .error 0 else if inR v 0 15 = true then .ok (cntQ N v.toNatClampNeg) else .error 2) := by
  have B := nk_B h
  unfold fX9_count
  rw [nk_o h, bnP_1, c_requireBook h, c_requireUpTo]
  by_cases q : G o 4 = 0
  · rw [if_pos q, if_pos q, bnX_e]
  · obtain ⟨hw, r⟩ := hwr q
    rw [if_neg q, if_neg q, bnX_1]
    cases e : inR v 0 15
    · rfl
    · rw [if_pos rfl, if_pos rfl, bnX_1]
      obtain ⟨j, hv, -, hj⟩ := inR_t (lo := 0) (hi := 15) (by decide) (by decide) e
      subst hv
      rw [nI_clamp (by omega)]
      have hj : j = 0 ∨ j = 1 ∨ j = 2 ∨ j = 3 ∨ j = 4 ∨ j = 5 ∨ j = 6 ∨ j = 7 ∨ j = 8 ∨ j = 9 ∨ j = 10 ∨ j = 11 ∨ j = 12 ∨ j = 13 ∨ j = 14 ∨ j = 15 := by omega
      rcases hj with rfl | rfl | rfl | rfl | rfl | rfl | rfl | rfl | rfl | rfl | rfl | rfl | rfl | rfl | rfl | rfl
      · rw [if_pos (by decide)]
        simp only [nk_b h, bnP_1, bk_I B, bk_r8 B, bk_r9 B, lk_I (bk_L B), sk_I (bk_S B)]
        exact congrArg (fun x => some (Except.ok x)) (r.1.1)
      · rw [if_neg (by decide), if_pos (by decide)]
        simp only [nk_b h, bnP_1, bk_I B, bk_r8 B, bk_r9 B, lk_I (bk_L B), sk_I (bk_S B)]
        exact congrArg (fun x => some (Except.ok x)) (r.1.2.1)
      · rw [if_neg (by decide), if_neg (by decide), if_pos (by decide)]
        simp only [nk_b h, bnP_1, bk_I B, bk_r8 B, bk_r9 B, lk_I (bk_L B), sk_I (bk_S B)]
        exact congrArg (fun x => some (Except.ok x)) (r.1.2.2.2.2.2.2.2.1)
      · rw [if_neg (by decide), if_neg (by decide), if_neg (by decide), if_pos (by decide)]
        simp only [nk_b h, bnP_1, bk_I B, bk_r8 B, bk_r9 B, lk_I (bk_L B), sk_I (bk_S B)]
        exact congrArg (fun x => some (Except.ok x)) (r.1.2.2.1)
      · rw [if_neg (by decide), if_neg (by decide), if_neg (by decide), if_neg (by decide), if_pos (by decide)]
        simp only [nk_b h, bnP_1, bk_I B, bk_r8 B, bk_r9 B, lk_I (bk_L B), sk_I (bk_S B)]
        exact congrArg (fun x => some (Except.ok x)) (r.1.2.2.2.2.2.2.1)
      · rw [if_neg (by decide), if_neg (by decide), if_neg (by decide), if_neg (by decide), if_neg (by decide), if_pos (by decide)]
        simp only [nk_b h, bnP_1, bk_I B, bk_r8 B, bk_r9 B, lk_I (bk_L B), sk_I (bk_S B)]
        exact congrArg (fun x => some (Except.ok x)) (rb_l r)
      · rw [if_neg (by decide), if_neg (by decide), if_neg (by decide), if_neg (by decide), if_neg (by decide), if_neg (by decide), if_pos (by decide)]
        simp only [nk_b h, bnP_1, bk_I B, bk_r8 B, bk_r9 B, lk_I (bk_L B), sk_I (bk_S B)]
        rw [c_countOf B hw.1 r, bnP_1]
        first | done | rfl
      · rw [if_neg (by decide), if_neg (by decide), if_neg (by decide), if_neg (by decide), if_neg (by decide), if_neg (by decide), if_neg (by decide), if_pos (by decide)]
        simp only [nk_b h, bnP_1, bk_I B, bk_r8 B, bk_r9 B, lk_I (bk_L B), sk_I (bk_S B)]
        rw [c_countOf B hw.1 r, bnP_1]
        first | done | rfl
      · rw [if_neg (by decide), if_neg (by decide), if_neg (by decide), if_neg (by decide), if_neg (by decide), if_neg (by decide), if_neg (by decide), if_neg (by decide), if_pos (by decide)]
        simp only [nk_b h, bnP_1, bk_I B, bk_r8 B, bk_r9 B, lk_I (bk_L B), sk_I (bk_S B)]
        exact congrArg (fun x => some (Except.ok x)) (r.1.2.2.2.1)
      · rw [if_neg (by decide), if_neg (by decide), if_neg (by decide), if_neg (by decide), if_neg (by decide), if_neg (by decide), if_neg (by decide), if_neg (by decide), if_neg (by decide), if_pos (by decide)]
        simp only [nk_b h, bnP_1, bk_I B, bk_r8 B, bk_r9 B, lk_I (bk_L B), sk_I (bk_S B)]
        exact congrArg (fun x => some (Except.ok x)) (r.1.2.2.2.2.1)
      · rw [if_neg (by decide), if_neg (by decide), if_neg (by decide), if_neg (by decide), if_neg (by decide), if_neg (by decide), if_neg (by decide), if_neg (by decide), if_neg (by decide), if_neg (by decide), if_pos (by decide)]
        simp only [nk_b h, bnP_1, bk_I B, bk_r8 B, bk_r9 B, lk_I (bk_L B), sk_I (bk_S B)]
        rw [c_marksOfAll B hw.1 r, bnP_1]
        first | done | rfl
      · rw [if_neg (by decide), if_neg (by decide), if_neg (by decide), if_neg (by decide), if_neg (by decide), if_neg (by decide), if_neg (by decide), if_neg (by decide), if_neg (by decide), if_neg (by decide), if_neg (by decide), if_pos (by decide)]
        simp only [nk_b h, bnP_1, bk_I B, bk_r8 B, bk_r9 B, lk_I (bk_L B), sk_I (bk_S B)]
        rw [rb_w r hw.1, show (0 : Int32) = nI 0 from rfl, c_standingFrom B hw.1 r (f := 0) (n := nWd N) (by omega), bnP_1]
        first | done | rfl
      · rw [if_neg (by decide), if_neg (by decide), if_neg (by decide), if_neg (by decide), if_neg (by decide), if_neg (by decide), if_neg (by decide), if_neg (by decide), if_neg (by decide), if_neg (by decide), if_neg (by decide), if_neg (by decide), if_pos (by decide)]
        simp only [nk_b h, bnP_1, bk_I B, bk_r8 B, bk_r9 B, lk_I (bk_L B), sk_I (bk_S B)]
        rw [c_actsAt B hw.1 r, bnP_1]
        first | done | rfl
      · rw [if_neg (by decide), if_neg (by decide), if_neg (by decide), if_neg (by decide), if_neg (by decide), if_neg (by decide), if_neg (by decide), if_neg (by decide), if_neg (by decide), if_neg (by decide), if_neg (by decide), if_neg (by decide), if_neg (by decide), if_pos (by decide)]
        simp only [nk_b h, bnP_1, bk_I B, bk_r8 B, bk_r9 B, lk_I (bk_L B), sk_I (bk_S B)]
        rw [c_actsAt B hw.1 r, bnP_1]
        first | done | rfl
      · rw [if_neg (by decide), if_neg (by decide), if_neg (by decide), if_neg (by decide), if_neg (by decide), if_neg (by decide), if_neg (by decide), if_neg (by decide), if_neg (by decide), if_neg (by decide), if_neg (by decide), if_neg (by decide), if_neg (by decide), if_neg (by decide), if_pos (by decide)]
        simp only [nk_b h, bnP_1, bk_I B, bk_r8 B, bk_r9 B, lk_I (bk_L B), sk_I (bk_S B)]
        rw [c_openNumber B hw.1 r, bnP_1]
        first | done | rfl
      · rw [if_neg (by decide), if_neg (by decide), if_neg (by decide), if_neg (by decide), if_neg (by decide), if_neg (by decide), if_neg (by decide), if_neg (by decide), if_neg (by decide), if_neg (by decide), if_neg (by decide), if_neg (by decide), if_neg (by decide), if_neg (by decide), if_neg (by decide)]
        simp only [nk_b h, bnP_1, bk_I B, bk_r8 B, bk_r9 B, lk_I (bk_L B), sk_I (bk_S B)]
        rw [rb_w r hw.1, show (0 : Int32) = nI 0 from rfl, c_unknownFrom B hw r (f := 0) (n := nWd N) (by omega), bnP_1]
        simp only [Nat.zero_add]
        rfl
end CQ
