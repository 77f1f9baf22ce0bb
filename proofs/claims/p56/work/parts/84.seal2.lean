/-! THE PURE LEVEL, 44: SEAL -/
section SLN2
variable {σ : HpT} {G G1 G2 : Nat → Nat → Int32} {J : Nat → Nat → Int64} {b bs ps tx : Nat} {P : Nat → Option Nat} {E : tE} {I T : tI} {N : Nat → Int32} {U : tU} {V : tV}
/-- the fee of sealing the open act -/
def bsF (k : Int32) : Int32 := if k = 0 then 5 else if k = 1 then 3 else 4
def feQ (N : Nat → Int32) : Int32 := bsF (N (9 + 9 * (nAc N - 1))) + stN N (aF N (nAc N - 1)) (aM N (nAc N - 1))
theorem sealQ_o {v w : Int32} (h : sealQ N v w = 0) : isO N := by
  unfold sealQ at h
  by_cases q : 0 < nAc N ∧ N (9 + 9 * (nAc N - 1) + 1) = 0
  · exact q
  · rw [if_neg q] at h
    cases h
theorem c_baseFee (h : BK σ b) {a : Nat} (ha : a < 10) : fX0_baseFee (some (b + 15 + a)) (wc σ G J) = some (bsF (G (b + 15 + a) 1)) := by
  unfold fX0_baseFee bsF
  rw [isK_c (h.2.2.2.2.1 a ha).1, bnP_1, bk_aI h ha, bnP_1]
  by_cases q : G (b + 15 + a) 1 = 0
  · rw [if_pos q, if_pos q]
  · rw [if_neg q, if_neg q]
    by_cases q2 : G (b + 15 + a) 1 = 1
    · rw [if_pos q2, if_pos q2]
    · rw [if_neg q2, if_neg q2]
theorem c_sealOpen (h : BK σ b) (hw : WFN N) (r : RB G J b N) (q : isO N) (v : Int32) : ∃ G2, fX1_sealOpen (some b) v (wc σ G J) = some (feQ N, wc σ G2 J) ∧ (∀ a, a < b ∨ b + 33 ≤ a → G2 a = G a) ∧ RB G2 J b (sealN N 1 v (feQ N) (feQ N)) := by
  have hbb := w1_b hw.1
  have hp := q.1
  have hr := rb_act r (a := nAc N - 1) (by omega)
  have ha : nAc N - 1 < 10 := by omega
  refine ⟨up (up (up (up G (b + 15 + (nAc N - 1)) 7 (feQ N)) (b + 15 + (nAc N - 1)) 3 v) (b + 15 + (nAc N - 1)) 2 1) b 4 (G b 4 + feQ N), ?_, fun a h1 => ?_, sl_rb hw q r (fun k _ h4 => ?_) (up_eq _ _ _ _) (fun k hk => ?_) ?_ ?_ ?_ (fun a h1 h2 => ?_)⟩
  · unfold fX1_sealOpen
    rw [bk_o h, bnP_1, c_openAct1 h hw.1 r q, bnP_1, if_neg (fun e => by cases e), c_baseFee h ha, bnP_1, c_openStanding h hw r q, bnP_1, bk_aP h ha, bnP_1, bk_aP h ha, bnP_1, bk_aP h ha, bnP_1, bk_I h, bnP_1, bk_aI h ha, bnP_1, bk_P h, bnP_1, bk_aI h ha, bnP_1, hr.2.1]
    have e1 : up (up (up G (b + 15 + (nAc N - 1)) 7 (feQ N)) (b + 15 + (nAc N - 1)) 3 v) (b + 15 + (nAc N - 1)) 2 1 (b + 15 + (nAc N - 1)) 7 = feQ N := by rw [up_k (by decide), up_k (by decide), up_eq]
    have e2 : up (up (up G (b + 15 + (nAc N - 1)) 7 (feQ N)) (b + 15 + (nAc N - 1)) 3 v) (b + 15 + (nAc N - 1)) 2 1 b 4 = G b 4 := by rw [up_a (by omega), up_a (by omega), up_a (by omega)]
    rw [show bsF (N (9 + 9 * (nAc N - 1))) + stN N (aF N (nAc N - 1)) (aM N (nAc N - 1)) = feQ N from rfl, e1, e2]
    rw [up_a (by omega), e1]
  · rw [up_a (by omega), up_a (by omega), up_a (by omega), up_a (by omega)]
  · rw [up_k h4, up_a (by omega), up_a (by omega), up_a (by omega)]
  · rw [up_a (by omega), up_k (by omega), up_k (by omega), up_k (by omega)]
  · rw [up_a (by omega), up_eq]
  · rw [up_a (by omega), up_k (by decide), up_eq]
  · rw [up_a (by omega), up_k (by decide), up_k (by decide), up_eq]
  · rw [up_a h1, up_a h2, up_a h2, up_a h2]
end SLN2
