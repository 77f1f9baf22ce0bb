/-! THE PURE LEVEL, 14: WHYNOTSEAL, LEAVESFOR -/
/-- may the open act be sealed by notary v with w marks -/
def sealQ (N : Nat → Int32) (v w : Int32) : Int32 := if 0 < nAc N ∧ N (9 + 9 * (nAc N - 1) + 1) = 0 then (if N 1 ≤ v then (if w = N (9 + 9 * (nAc N - 1) + 3) then (if stN N (aF N (nAc N - 1)) (aM N (nAc N - 1)) = 0 then 4 else 0) else 3) else 2) else 1
section LQ4
variable {σ : HpT} {G : Nat → Nat → Int32} {J : Nat → Nat → Int64} {o b m d : Nat} {N : Nat → Int32}
theorem c_openStanding (h : BK σ b) (hw : WFN N) (r : RB G J b N) (q : isO N) : fX1_openStanding (some b) (wc σ G J) = some (stN N (aF N (nAc N - 1)) (aM N (nAc N - 1))) := by
  have ha : nAc N - 1 < nAc N := by have := q.1; omega
  obtain ⟨p1, p2, p3, p4, p5⟩ := (act_ok hw.1 hw.2.1 ha).1
  have hle := act_le hw.1 hw.2.1 ha
  have hr := rb_act r ha
  unfold fX1_openStanding
  rw [bk_o h, bnP_1, c_openAct1 h hw.1 r q, bnP_1, if_neg (fun e => by cases e), bk_r8 h, bnP_1, bk_aI h p1, bnP_1, hr.2.2.2.2.2.1, bk_aI h p1, bnP_1, hr.2.2.2.2.2.2.1, p2, p3, c_standingFrom h hw.1 r hle, bnP_1]
theorem c_sealReason (h : BK σ b) (hw : WFN N) (r : RB G J b N) (v w : Int32) : fX1_sealReason (some b) v w (wc σ G J) = some (sealQ N v w) := by
  unfold fX1_sealReason sealQ
  rw [bk_o h, bnP_1]
  by_cases q : 0 < nAc N ∧ N (9 + 9 * (nAc N - 1) + 1) = 0
  · have ha : nAc N - 1 < nAc N := by omega
    obtain ⟨p1, p2, p3, p4, p5⟩ := (act_ok hw.1 hw.2.1 ha).1
    have hr := rb_act r ha
    rw [c_openAct1 h hw.1 r q, bnP_1, if_neg (fun e => by cases e), if_pos q, bk_I h, bnP_1, r.1.2.1]
    by_cases h1 : N 1 ≤ v
    · rw [if_pos h1, if_pos h1, bk_aI h p1, bnP_1, hr.2.2.2.2.1]
      by_cases h2 : w = N (9 + 9 * (nAc N - 1) + 3)
      · rw [if_pos h2, if_pos h2, c_openStanding h hw r q, bnP_1]
        by_cases h3 : stN N (aF N (nAc N - 1)) (aM N (nAc N - 1)) = 0
        · rw [if_pos h3, if_pos h3]
        · rw [if_neg h3, if_neg h3]
      · rw [if_neg h2, if_neg h2]
    · rw [if_neg h1, if_neg h1]
  · rw [c_openAct0 h hw.1 r q, bnP_1, if_pos rfl, if_neg q]
theorem cq_whyNotSeal (h : NK σ o b) (hwr : G o 4 ≠ 0 → WFN N ∧ RB G J b N) (v w : Int32) : fX9_whyNotSeal (some o) v w (wc σ G J) = some (if G o 4 = 0 then .error 0 else if (inR v 0 9 && inR w 0 99) = true then .ok (sealQ N v w) else .error 2) := by
  unfold fX9_whyNotSeal
  rw [nk_o h, bnP_1, c_requireBook h, c_requireUpTo, c_requireUpTo]
  by_cases q : G o 4 = 0
  · rw [if_pos q, if_pos q, bnX_e]
  · obtain ⟨hw, r⟩ := hwr q
    rw [if_neg q, if_neg q, bnX_1]
    cases e1 : inR v 0 9
    · rfl
    · cases e2 : inR w 0 99
      · rfl
      · rw [if_pos rfl, bnX_1, bnX_1, nk_b h, bnP_1, c_sealReason (nk_B h) hw r, bnP_1]
        rfl
end LQ4
