/-! THE PURE LEVEL, 42: STRIKECLAUSE -/
section SK3
variable {σ : HpT} {G G1 : Nat → Nat → Int32} {J : Nat → Nat → Int64} {b bs ps tx : Nat} {P : Nat → Option Nat} {E : tE} {I T : tI} {N : Nat → Int32} {U : tU} {V : tV}
theorem askB_f {v : Int32} (e : askB N v 1 = false) : ¬ isO N ∨ (isO N ∧ (inR v (nI 0) (nI (aM N (nAc N - 1) - 1)) = false ∨ wW N (opW N v.toNatClampNeg) = 0)) := by
  by_cases q : isO N
  · refine Or.inr ⟨q, ?_⟩
    cases z : inR v (nI 0) (nI (aM N (nAc N - 1) - 1))
    · exact Or.inl rfl
    · refine Or.inr ?_
      have h : (decide (strQ N v = 0) || decide (strQ N v = 3)) = true := by
        unfold strQ
        rw [if_pos (show 0 < nAc N ∧ N (9 + 9 * (nAc N - 1) + 1) = 0 from q), if_pos z]
        cases skN N (aF N (nAc N - 1) + v.toNatClampNeg)
        · rw [if_neg (by decide)]
          decide
        · rw [if_pos rfl]
          decide
      unfold askB at e
      rw [h, Bool.true_and, decide_eq_false (show ¬ (1 : Int32) = 0 by decide), Bool.false_or] at e
      have := of_decide_eq_false e
      omega
  · exact Or.inl q
/-- words struck, without a mark -/
def stwN (N : Nat → Int32) (f n : Nat) : Nat → Int32 := fun j => if 129 + 13 * f ≤ j ∧ j < 129 + 13 * (f + n) ∧ (j - 129) % 13 = 0 then 1 else N j
theorem stw_o {f n j : Nat} (h : ¬ (129 + 13 * f ≤ j ∧ j < 129 + 13 * (f + n) ∧ (j - 129) % 13 = 0)) : stwN N f n j = N j := if_neg h
theorem stk_cnt {f n : Nat} (hw : WFN N) (hf : f + n ≤ nWd N) : cntN (fun k => skN (stkN N f 0) (f + k)) n = cntN (fun k => skN N (f + k)) n := by
  have hb := w1_b hw.1
  refine cntN_cong fun k hk => ?_
  unfold skN
  rw [stk_o (by omega) (by omega)]
theorem c_strikeAround (h : BK σ b) (hw : WFN N) (r : RB G J b N) (q : isO N) {i p : Nat} (hi : i < aM N (nAc N - 1)) (hp : wW N (opW N i) = p + 1) : ∃ G2, fX1_strikeAround (some b) (nI i) (wc σ G J) = some (nI (cntN (fun k => skN N (cF N p + k)) (cT N p - cF N p + 1)), wc σ G2 J) ∧ (∀ a, a < b ∨ b + 33 ≤ a → G2 a = G a) ∧ RB G2 J b (stkN N (cF N p) (cT N p - cF N p + 1)) := by
  have ha : nAc N - 1 < nAc N := by have := q.1; omega
  obtain ⟨p1, p2, p3, p4, p5⟩ := (act_ok hw.1 hw.2.1 ha).1
  have hle := act_le hw.1 hw.2.1 ha
  have hb := w1_b hw.1
  obtain ⟨f, e1, f0, f1, g1, g2, g3, g4⟩ := c_seekA1 h hw r q hi hp
  have r' := rb_s13 hw.1 r f
  generalize hGG : cw G (b + 13) f = GG at e1 r'
  have z0 : GG (b + 13) 0 = nI (cF N p) := by rw [← hGG, cw_a]; exact f0
  have z1 : GG (b + 13) 1 = nI (cT N p - cF N p + 1) := by rw [← hGG, cw_a]; exact f1
  have hr := rb_act r' ha
  generalize hfn : cT N p - cF N p + 1 = n at *
  have hfn2 : cF N p + n ≤ nWd N := by omega
  have r1 : RB (up GG (b + 15 + (nAc N - 1)) 4 (GG (b + 15 + (nAc N - 1)) 4 + 1)) J b (stkN N (cF N p) 0) := stk_rb hw q g3 (by omega) r' (by
    rw [up_a (by omega)]
    exact funext fun j => (if_neg (by omega)).symm) (by rw [up_is, cw_a]) (fun a _ h2 => up_a h2)
  have e2 := c_strikeFrom h (stk_wf hw (f := cF N p) (n := 0) (by omega)).1 r1 (f := cF N p) (n := n) (by rw [(sm_n (stk_s (f := cF N p) (n := 0) hw (by omega))).2.2.1]; exact hfn2)
  refine ⟨_, ?_, ?_, stk_rb hw q g3 (by omega) r' (G2 := cw (up GG (b + 15 + (nAc N - 1)) 4 (GG (b + 15 + (nAc N - 1)) 4 + 1)) (b + 7) (stfG (cF N p) n (up GG (b + 15 + (nAc N - 1)) 4 (GG (b + 15 + (nAc N - 1)) 4 + 1) (b + 7)))) ?_ ?_ ?_⟩
  · unfold fX1_strikeAround
    rw [bk_o h, bnP_1, c_openAct1 h hw.1 r q, bnP_1, if_neg (fun e => by cases e), e1, bnS_1, if_pos rfl, bk_aI h p1, bnP_1, bk_aP h p1, bnP_1, bk_r8 h, bnP_1, bk_r10 h, bnP_1, bk_cI h, bnP_1, up_a (by omega), z0, bnP_1, bk_cI h, bnP_1, up_a (by omega), z1, e2, bnS_1, stk_cnt hw hfn2]
  · intro a ha
    rw [cw_b (by omega), up_a (by omega), ← hGG, cw_b (by omega)]
  · rw [cw_a, up_a (by omega)]
  · rw [cw_b (by omega), up_is, cw_a]
  · intro a h1 h2
    rw [cw_b h1, up_a h2]
end SK3
