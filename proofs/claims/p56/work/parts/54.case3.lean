/-! THE PURE LEVEL, 13: FIRSTUNKNOWN, LEAVESFOR, WHYNOTSTRIKE -/
/-- the first of 0 .. n - 1 with p -/
def fuN (p : Nat → Bool) : Nat → Option Nat
  | 0 => none
  | n + 1 => match fuN p n with
    | some k => some k
    | none => if p n = true then some n else none
theorem fuN_none {p : Nat → Bool} : ∀ {n : Nat}, fuN p n = none → ∀ k, k < n → p k = false
  | 0, _, k, hk => absurd hk (Nat.not_lt_zero _)
  | n + 1, h, k, hk => by
    unfold fuN at h
    cases e : fuN p n with
    | some j => rw [e] at h; cases h
    | none =>
      rw [e] at h
      have h : (if p n = true then some n else none) = none := h
      cases e2 : p n
      · rcases Nat.lt_succ_iff_lt_or_eq.mp hk with q | q
        · exact fuN_none e k q
        · rw [q]; exact e2
      · rw [if_pos e2] at h; cases h
theorem fuN_some {p : Nat → Bool} {j : Nat} : ∀ {n : Nat}, fuN p n = some j → j < n ∧ p j = true ∧ ∀ k, k < j → p k = false
  | 0, h => by cases h
  | n + 1, h => by
    unfold fuN at h
    cases e : fuN p n with
    | some i =>
      rw [e] at h
      cases h
      obtain ⟨h1, h2, h3⟩ := fuN_some e
      exact ⟨by omega, h2, h3⟩
    | none =>
      rw [e] at h
      have h : (if p n = true then some n else none) = some j := h
      cases e2 : p n
      · rw [e2] at h; cases h
      · rw [if_pos e2] at h
        cases h
        exact ⟨Nat.lt_succ_self _, e2, fuN_none e⟩
def oN (x : Option Nat) : Int32 := match x with
  | none => nO
  | some k => nI k
section LQ3
variable {σ : HpT} {G : Nat → Nat → Int32} {J : Nat → Nat → Int64} {o b m d : Nat} {N : Nat → Int32}
theorem bnot_f {x : Bool} (h : (!x) = false) : x = true := by cases x; cases h; rfl
/-- may word v of the open act be struck -/
def strQ (N : Nat → Int32) (v : Int32) : Int32 := if 0 < nAc N ∧ N (9 + 9 * (nAc N - 1) + 1) = 0 then (if inR v (nI 0) (nI (aM N (nAc N - 1) - 1)) = true then (if skN N (aF N (nAc N - 1) + v.toNatClampNeg) = true then 0 else 3) else 2) else 1
theorem c_strikeReason (h : BK σ b) (hw : WFN N) (r : RB G J b N) (v : Int32) : fX1_strikeReason (some b) v (wc σ G J) = some (strQ N v) := by
  have hb := w1_b hw.1
  unfold fX1_strikeReason strQ
  rw [bk_o h, bnP_1]
  by_cases q : 0 < nAc N ∧ N (9 + 9 * (nAc N - 1) + 1) = 0
  · have ha : nAc N - 1 < nAc N := by omega
    obtain ⟨p1, p2, p3, p4, p5⟩ := (act_ok hw.1 hw.2.1 ha).1
    have hle := act_le hw.1 hw.2.1 ha
    have hr := rb_act r ha
    rw [c_openAct1 h hw.1 r q, bnP_1, if_neg (fun e => by cases e), if_pos q]
    by_cases h1 : v < 0
    · rw [if_pos h1]
      unfold inR
      rw [show decide (nI 0 ≤ v) = false from decide_eq_false (Int32.not_le.mpr h1)]
      rfl
    · obtain ⟨j, hj, e⟩ := nI_of h1
      subst e
      rw [if_neg h1, bk_aI h p1, bnP_1, hr.2.2.2.2.2.2.1, p3, inR_nI hj (by omega) (by omega), decide_eq_true (Nat.zero_le j), Bool.true_and, nI_clamp hj]
      by_cases h2 : j < aM N (nAc N - 1)
      · rw [if_pos (by rw [nI_ltI (by omega) (by omega)]; exact h2), decide_eq_true (by omega), if_pos rfl, bk_r8 h, bnP_1, sk_r4 (bk_S h), bnP_1, bk_aI h p1, bnP_1, hr.2.2.2.2.2.1, p2, nI_add, sk_a4 (bk_S h) (by omega), bnP_1, rb_sk r (by omega)]
        unfold skN
        by_cases h3 : N (127 + 13 * (aF N (nAc N - 1) + j) + 2) = 0
        · rw [if_pos h3, decide_eq_true h3]
          rfl
        · rw [if_neg h3, decide_eq_false h3]
          rfl
      · rw [if_neg (by rw [nI_ltI (by omega) (by omega)]; exact h2), decide_eq_false (by omega)]
        rfl
  · rw [c_openAct0 h hw.1 r q, bnP_1, if_pos rfl, if_neg q]
theorem cq_whyNotStrike (h : NK σ o b) (hwr : G o 4 ≠ 0 → WFN N ∧ RB G J b N) (v : Int32) : fX9_whyNotStrike (some o) v (wc σ G J) = some (if G o 4 = 0 then .error 0 else .ok (strQ N v)) := by
  unfold fX9_whyNotStrike
  rw [nk_o h, bnP_1, c_requireBook h]
  by_cases q : G o 4 = 0
  · rw [if_pos q, if_pos q, bnX_e]
  · obtain ⟨hw, r⟩ := hwr q
    rw [if_neg q, if_neg q, bnX_1, nk_b h, bnP_1, c_strikeReason (nk_B h) hw r, bnP_1]
end LQ3
