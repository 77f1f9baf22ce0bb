/-! THE PURE LEVEL, 48: INTERLINE, whole -/
section INT4
variable {σ : HpT} {G G1 G2 : Nat → Nat → Int32} {J J2 : Nat → Nat → Int64} {b bs ps tx : Nat} {P : Nat → Option Nat} {E : tE} {I T : tI} {N : Nat → Int32} {U : tU} {V : tV} {g : Nat} {lo hi : Int32}
theorem c_insert (h : BK σ b) (hw : WFN N) (r : RB G J b N) (hg : g < nWd N) (h4 : wN' N g < 4) (w : Int64) : fX8_insert (some (b + 3)) (nI g) w (wc σ G J) = some (wc σ (up G (b + 8) g (nI (wN' N g + 1))) (upJ J (b + 9) (4 * g + wN' N g) w)) := by
  have hb := w1_b hw.1
  have hs := bk_S h
  have hb4 : N (127 + 13 * g + 4) = nI (wN' N g) := (hw.2.2.2.1 _ hg).1.1
  have hh : G (b + 3 + 5) g = nI (wN' N g) := by
    show G (b + 8) g = _
    rw [(r.2.1.1 _ hg).2.2.1]
    exact hb4
  unfold fX8_insert
  rw [sk_o hs, bnP_1, sk_r5 hs, bnP_1, sk_a5 hs (by omega), bnP_1, hh, if_neg (show ¬ (4 : Int32) ≤ nI (wN' N g) from nI_ge h4 (by decide)), sk_r6 hs, bnP_1, bnP_1, sk_a5 hs (by omega), bnP_1, hh, show nI g * 4 = nI (g * 4) from pk_mul g 4, nI_add, sk_s6 hs (by omega), bnP_1, sk_r5 hs, bnP_1, sk_a5 hs (by omega), bnP_1, hh, nI_a1, sk_s5 hs (by omega), bnP_1, Nat.mul_comm g 4]
theorem c_insertWord (h : BK σ b) (hw : WFN N) (r : RB G J b N) {i : Nat} (q : isO N) (hi : i < aM N (nAc N - 1)) (h4 : wN' N (opW N i) < 4) {lo hi' : Int32} {w : Int64} (wd : wdR lo hi' w) : ∃ G2 J2, fX1_insertWord (some b) (nI i) w (wc σ G J) = some (wc σ G2 J2) ∧ (∀ a, a < b ∨ b + 33 ≤ a → G2 a = G a) ∧ (∀ a, a < b ∨ b + 33 ≤ a → J2 a = J a) ∧ RB G2 J2 b (intN N (opW N i) lo hi') := by
  have hb := w1_b hw.1
  have ha : nAc N - 1 < nAc N := by have := q.1; omega
  obtain ⟨p1, p2, p3, p4, p5⟩ := (act_ok hw.1 hw.2.1 ha).1
  have hle := act_le hw.1 hw.2.1 ha
  have hr := rb_act r ha
  have hg : opW N i < nWd N := by unfold opW; omega
  have ci : ciB N (nI i) = true := by
    unfold ciB
    rw [askB_0, decide_eq_true (show 0 < nAc N ∧ N (9 + 9 * (nAc N - 1) + 1) = 0 from q), Bool.true_and, inR_nI (by omega) (by decide) (by omega), decide_eq_true (Nat.zero_le i), decide_eq_true (show i ≤ aM N (nAc N - 1) - 1 by omega), nI_clamp (by omega), decide_eq_true h4]
    rfl
  have hs := c_insert h hw r hg h4 w
  refine ⟨up (up G (b + 8) (opW N i) (nI (wN' N (opW N i) + 1))) (b + 15 + (nAc N - 1)) 4 (G (b + 15 + (nAc N - 1)) 4 + 1), upJ J (b + 9) (4 * opW N i + wN' N (opW N i)) w, ?_, fun a h1 => ?_, fun a h1 => ?_, int_rb hw q (by unfold opW; omega) (by unfold opW; omega) h4 r wd ?_ ?_ (fun a h1 h2 => ?_) rfl⟩
  · unfold opW at hs ⊢
    unfold fX1_insertWord
    rw [bk_o h, bnP_1, c_openAct1 h hw.1 r q, bnP_1, if_neg (fun e => by cases e), c_canInsert h hw r, bnP_1, ci, if_pos rfl, bk_r8 h, bnP_1, bk_aI h p1, bnP_1, hr.2.2.2.2.2.1, p2, nI_add, hs, bnP_1, bk_aI h p1, bnP_1, up_a (by omega), bk_aP h p1, bnP_1]
  · rw [up_a (by omega), up_a (by omega)]
  · exact upJ_a (by omega)
  · rw [up_a (by omega), up_is, cw_a]
  · rw [up_is, cw_a, up_a (by omega)]
  · rw [up_a h2, up_a h1]
theorem m_interlines (h : MK σ 80) (hw : WFN N) (e : G 81 = N) (q : isO N) {i n : Nat} (hi : i < aM N (nAc N - 1)) (h4 : wN' N (opW N i) < 4) (hn : n ≤ 600) (hl : iwB (G 86) n = true) : fX10_interlines (some 80) (nI i) 0 (nI n) (wi σ G) = some (wi σ (cw G 81 (intN N (opW N i) (nI (enL5 (lf (G 86)) n).1) (nI (enL5 (lf (G 86)) n).2)))) := by
  have hb := w1_b hw.1
  have e' : G (80 + 1) = N := e
  have ha : nAc N - 1 < nAc N := by have := q.1; omega
  have hle := act_le hw.1 hw.2.1 ha
  have hg : opW N i < nWd N := by unfold opW; omega
  have hb4 : N (127 + 13 * opW N i + 4) = nI (wN' N (opW N i)) := (hw.2.2.2.1 _ hg).1.1
  obtain ⟨n1, n8, hf⟩ := iwB_t hl
  have p0 : ∀ G' : Nat → Nat → Int32, G' 86 = G 86 → fX10_partOf (some 80) 0 (nI n) 0 (wi σ G') = some (nI (enL5 (lf (G 86)) n).1) := fun G' hG => m_partOf h (at0 := 0) n8 (by omega) (fun k hk => by
    rw [Nat.zero_add]
    show G' 86 k = _ ∧ _
    rw [hG]
    exact hf k hk) 0 (by decide)
  have p1 : ∀ G' : Nat → Nat → Int32, G' 86 = G 86 → fX10_partOf (some 80) 0 (nI n) 1 (wi σ G') = some (nI (enL5 (lf (G 86)) n).2) := fun G' hG => m_partOf h (at0 := 0) n8 (by omega) (fun k hk => by
    rw [Nat.zero_add]
    show G' 86 k = _ ∧ _
    rw [hG]
    exact hf k hk) 1 (by decide)
  generalize hlo : nI (enL5 (lf (G 86)) n).1 = lo at *
  generalize hhi : nI (enL5 (lf (G 86)) n).2 = hi' at *
  unfold fX10_interlines
  rw [mk_o h, bnP_1, m_openWord h (by rw [e']; exact hw) (by rw [e']; exact q), bnP_1, e', show fX10_ofWord (some 80) (nI (opW N i)) 4 (wi σ G) = _ from m_ofWord h (opW N i) 4 (by omega), bnP_1, e', hb4, p0 G rfl, bnP_1, show 5 + 2 * nI (wN' N (opW N i)) = nI (5 + 2 * wN' N (opW N i)) by rw [show (2 : Int32) = nI 2 from rfl, pk_mul]; exact nI_add 5 _, m_putsWord h _ _ _ (by omega), bnP_1]
  generalize hG1 : up G (80 + 1) (127 + 13 * opW N i + (5 + 2 * wN' N (opW N i))) lo = G1
  have h86 : G1 86 = G 86 := by rw [← hG1, up_a (by decide)]
  rw [p1 G1 h86, bnP_1, nI_a1, m_putsWord h _ _ _ (by omega), bnP_1]
  generalize hG2 : up G1 (80 + 1) (127 + 13 * opW N i + (5 + 2 * wN' N (opW N i) + 1)) hi' = G2
  rw [nI_a1, show fX10_putsWord (some 80) (nI (opW N i)) 4 (nI (wN' N (opW N i) + 1)) (wi σ G2) = _ from m_putsWord h (opW N i) 4 _ (by omega), bnP_1]
  generalize hG3 : up G2 (80 + 1) (127 + 13 * opW N i + 4) (nI (wN' N (opW N i) + 1)) = G3
  have g : ∀ j, j < 127 → G3 (80 + 1) j = N j := fun j hj => by rw [← hG3, up_k (by omega), ← hG2, up_k (by omega), ← hG1, up_k (by omega), e']
  rw [m_openAct1g (M := N) h (by rw [g 3 (by decide)]; exact (w1_e hw.1).2.1) q.1 (by omega) (by rw [g _ (by omega)]; exact q.2), bnP_1, m_marks h (by omega), bnP_1, g _ (by omega)]
  congr 2
  rw [← hG3, ← hG2, ← hG1, show (80 + 1 : Nat) = 81 from rfl, up_is G, up_cw, up_cw, up_cw, e]
  congr 1
  funext j
  unfold u1 intN
  by_cases z1 : j = 9 + 9 * (nAc N - 1) + 3
  · rw [if_pos z1, if_neg (by omega), if_neg (by omega), if_neg (by omega), if_pos (by omega), z1]
  · rw [if_neg z1]
    by_cases z2 : j = 127 + 13 * opW N i + 4
    · rw [if_pos z2, if_neg (by omega), if_neg (by omega), if_pos (by omega)]
    · rw [if_neg z2]
      by_cases z3 : j = 127 + 13 * opW N i + (5 + 2 * wN' N (opW N i) + 1)
      · rw [if_pos z3, if_neg (by omega), if_pos (by omega)]
      · rw [if_neg z3]
        by_cases z4 : j = 127 + 13 * opW N i + (5 + 2 * wN' N (opW N i))
        · rw [if_pos z4, if_pos (by omega)]
        · rw [if_neg z4, if_neg (by omega), if_neg (by omega), if_neg (by omega), if_neg (by omega)]
end INT4
