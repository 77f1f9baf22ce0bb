/-! THE PURE LEVEL, 48: INTERLINE, whole -/
section INT4
variable {σ : HpT} {G G1 G2 : Nat → Nat → Int32} {J J2 : Nat → Nat → Int64} {b bs ps tx : Nat} {P : Nat → Option Nat} {E : tE} {I T : tI} {N : Nat → Int32} {U : tU} {V : tV} {g : Nat} {lo hi : Int32}
theorem c_insert (h : BK σ b) (hw : WFN N) (r : RB G J b N) (hg : g < nWd N) (h4 : wN' N g < 4) (w : Int64) : fX8_insert (some (b + 3)) (nI g) w (wc σ G J) = some (wc σ (up G (b + 8) g (nI (wN' N g + 1))) (upJ J (b + 9) (4 * g + wN' N g) w)) := by
  have hb := w1_b hw.1
  have hs := bk_S h
  have hb4 : N (127 + 13 * g + 4) = nI (wN' N g) := (hw.2.2.2.1 _ hg).1.1
  have hh : G (b + 3 + 5) g = nI (wN' N g) := by
    show G (b + 8) g = _
    rw [(r.2.1.1 _ hg).2.2.1]
    exact hb4
  unfold fX8_insert
  rw [sk_o hs, bnP_1, sk_r5 hs, bnP_1, sk_a5 hs (by omega), bnP_1, hh, if_neg (show ¬ (4 : Int32) ≤ nI (wN' N g) from nI_ge h4 (by decide)), sk_r6 hs, bnP_1, bnP_1, sk_a5 hs (by omega), bnP_1, hh, show nI g * 4 = nI (g * 4) from pk_mul g 4, nI_add, sk_s6 hs (by omega), bnP_1, sk_r5 hs, bnP_1, sk_a5 hs (by omega), bnP_1, hh, nI_a1, sk_s5 hs (by omega), bnP_1, Nat.mul_comm g 4]
theorem c_insertWord (h : BK σ b) (hw : WFN N) (r : RB G J b N) {i : Nat} (q : isO N) (hi : i < aM N (nAc N - 1)) (h4 : wN' N (opW N i) < 4) {lo hi' : Int32} {w : Int64} (wd : wdR lo hi' w) : ∃ G2 J2, fX1_insertWord (some b) (nI i) w (wc σ G J) = some (wc σ G2 J2) ∧ (∀ a, a < b ∨ b + 33 ≤ a → G2 a = G a) ∧ (∀ a, a < b ∨ b + 33 ≤ a → J2 a = J a) ∧ RB G2 J2 b (intN N (opW N i) lo hi') := by
  have hb := w1_b hw.1
  have ha : nAc N - 1 < nAc N := by have := q.1; omega
  obtain ⟨p1, p2, p3, p4, p5⟩ := (act_ok hw.1 hw.2.1 ha).1
  have hle := act_le hw.1 hw.2.1 ha
  have hr := rb_act r ha
  have hg : opW N i < nWd N := by unfold opW; omega
  have ci : ciB N (nI i) = true := by
    unfold ciB
    rw [askB_0, decide_eq_true (show 0 < nAc N ∧ N (9 + 9 * (nAc N - 1) + 1) = 0 from q), Bool.true_and, inR_nI (by omega) (by decide) (by omega), decide_eq_true (Nat.zero_le i), decide_eq_true (show i ≤ aM N (nAc N - 1) - 1 by omega), nI_clamp (by omega), decide_eq_true h4]
    rfl
  have hs := c_insert h hw r hg h4 w
  refine ⟨up (up G (b + 8) (opW N i) (nI (wN' N (opW N i) + 1))) (b + 15 + (nAc N - 1)) 4 (G (b + 15 + (nAc N - 1)) 4 + 1), upJ J (b + 9) (4 * opW N i + wN' N (opW N i)) w, ?_, fun a h1 => ?_, fun a h1 => ?_, int_rb hw q (by unfold opW; omega) (by unfold opW; omega) h4 r wd ?_ ?_ (fun a h1 h2 => ?_) rfl⟩
  · unfold opW at hs ⊢
    unfold fX1_insertWord
    rw [bk_o h, bnP_1, c_openAct1 h hw.1 r q, bnP_1, if_neg (fun e => by cases e), c_canInsert h hw r, bnP_1, ci, if_pos rfl, bk_r8 h, bnP_1, bk_aI h p1, bnP_1, hr.2.2.2.2.2.1, p2, nI_add, hs, bnP_1, bk_aI h p1, bnP_1, up_a (by omega), bk_aP h p1, bnP_1]
  · rw [up_a (by omega), up_a (by omega)]
  · exact upJ_a (by omega)
  · rw [up_a (by omega), up_is, cw_a]
  · rw [up_is, cw_a, up_a (by omega)]
  · rw [up_a h2, up_a h1]
end INT4
