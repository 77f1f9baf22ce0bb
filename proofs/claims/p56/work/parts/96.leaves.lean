/-! THE PURE LEVEL, 56: a Leaves of any place; what falls when the book is shaken -/
def LvR (G : Nat → Nat → Int32) (L : Nat) (M : Nat → Int32) : Prop := G L 0 = M 2 ∧ G L 1 = nI (nLv M) ∧ ∀ l, l < nLv M → G (L + 1) l = M (99 + l)
def drK (M : Nat → Int32) : Nat → Nat → Int32
  | 0 => M
  | k + 1 => if M (99 + k) = 1 then lfN (drK M k) k 2 else drK M k
def shK (M : Nat → Int32) : Nat → Nat → Int32
  | 0 => drK M (nLv M)
  | k + 1 => if M (99 + k) = 1 then lsN (shK M k) k else shK M k
section LVS
variable {σ : HpT} {G G1 G2 : Nat → Nat → Int32} {J J2 : Nat → Nat → Int64} {b L : Nat} {N M : Nat → Int32} {l : Nat}
theorem rl_of (r : RB G J b N) : LvR G (b + 10) N := ⟨r.1.2.2.2.2.2.2.2.1, r.1.2.2.2.2.2.2.2.2.1, r.1.2.2.2.2.2.2.2.2.2.2⟩
theorem dr_wf (hw : WFN M) : ∀ k, k ≤ nLv M → WFN (drK M k) ∧ nLv (drK M k) = nLv M ∧ nv (drK M k) 2 = nv M 2 ∧ (∀ j, (j < 99 ∨ 99 + k ≤ j) → drK M k j = M j)
  | 0, _ => ⟨hw, rfl, rfl, fun _ _ => rfl⟩
  | k + 1, hk => by
    obtain ⟨i1, i2, i3, i4⟩ := dr_wf hw k (by omega)
    have hl : k < nLv (drK M k) := by omega
    show WFN (if M (99 + k) = 1 then lfN (drK M k) k 2 else drK M k) ∧ nLv (if M (99 + k) = 1 then lfN (drK M k) k 2 else drK M k) = nLv M ∧ nv (if M (99 + k) = 1 then lfN (drK M k) k 2 else drK M k) 2 = nv M 2 ∧ ∀ j, (j < 99 ∨ 99 + (k + 1) ≤ j) → (if M (99 + k) = 1 then lfN (drK M k) k 2 else drK M k) j = M j
    by_cases q : M (99 + k) = 1
    · rw [if_pos q]
      have n2 := lf_n2 (x := 2) i1 hl
      exact ⟨lf_wf i1 hl (Or.inr (Or.inr rfl)), n2.2.trans i2, n2.1.trans i3, fun j hj => by rw [lf_o (by omega)]; exact i4 j (by omega)⟩
    · rw [if_neg q]
      exact ⟨i1, i2, i3, fun j hj => i4 j (by omega)⟩
theorem ls_n (hw : WFN N) : nLv (lsN N l) = nLv N ∧ nv (lsN N l) 2 = nv N 2 := ⟨(sm_n (ls_wf (l := l) hw).2.1).2.2.2.2.1, (sm_n (ls_wf (l := l) hw).2.1).2.2.2.2.2⟩
theorem sh_wf (hw : WFN M) : ∀ k, k ≤ nLv M → WFN (shK M k) ∧ nLv (shK M k) = nLv M ∧ nv (shK M k) 2 = nv M 2 ∧ (∀ j, (j < 99 ∨ 99 + nLv M ≤ j) → shK M k j = M j)
  | 0, _ => dr_wf hw (nLv M) (Nat.le_refl _)
  | k + 1, hk => by
    obtain ⟨i1, i2, i3, i4⟩ := sh_wf hw k (by omega)
    show WFN (if M (99 + k) = 1 then lsN (shK M k) k else shK M k) ∧ nLv (if M (99 + k) = 1 then lsN (shK M k) k else shK M k) = nLv M ∧ nv (if M (99 + k) = 1 then lsN (shK M k) k else shK M k) 2 = nv M 2 ∧ ∀ j, (j < 99 ∨ 99 + nLv M ≤ j) → (if M (99 + k) = 1 then lsN (shK M k) k else shK M k) j = M j
    by_cases q : M (99 + k) = 1
    · rw [if_pos q]
      have n2 := ls_n (l := k) i1
      exact ⟨(ls_wf i1).1, n2.1.trans i2, n2.2.trans i3, fun j hj => ((ls_wf i1).2.2 j (by rw [i2]; exact hj)).trans (i4 j hj)⟩
    · rw [if_neg q]
      exact ⟨i1, i2, i3, i4⟩
theorem l_isThere (h : LK σ L) (w1 : W1 M) (r : LvR G L M) (v : Int32) : fX4_isThere (some L) v (wc σ G J) = some (inR v (nI 0) (nI (nLv M) - 1)) := by
  have h12 := nlv_12 w1
  have hp : 0 < nLv M ∨ nLv M = 0 := by omega
  unfold fX4_isThere
  rw [lk_o h, bnP_1]
  by_cases h1 : v < 0
  · rw [if_pos h1]
    unfold inR
    rw [show decide (nI 0 ≤ v) = false from decide_eq_false (Int32.not_le.mpr h1), Bool.false_and]
  · obtain ⟨i, hi, rfl⟩ := nI_of h1
    rw [if_neg h1, lk_I h, bnP_1, r.2.1]
    rcases hp with hp | hp
    · rw [nI_m1 hp, inR_nI hi (by decide) (by omega), decide_eq_true (Nat.zero_le i), Bool.true_and]
      by_cases z : i < nLv M
      · rw [if_neg (nI_ge z (by omega)), decide_eq_true (show i ≤ nLv M - 1 by omega)]
      · rw [if_pos (nI_le (by omega) hi), decide_eq_false (show ¬ i ≤ nLv M - 1 by omega)]
    · rw [hp, if_pos (nI_le (Nat.zero_le i) hi)]
      unfold inR
      rw [decide_eq_false (show ¬ nI i ≤ nI 0 - 1 from fun e => by
        have e2 : nI i ≤ nO := e
        exact absurd (Int32.le_trans (Int32.not_lt.mp (nI_lt0 hi)) e2) (by decide)), Bool.and_false]
theorem l_mateOf (h : LK σ L) (w1 : W1 M) (r : LvR G L M) (hl : l < 20) : fX4_mateOf (some L) (nI l) (wc σ G J) = some (mtQ M l) := by
  obtain ⟨g1, g2, g3⟩ := w1_g w1
  have r0 : G L 0 = nI (nv M 2) := by rw [← g1]; exact r.1
  have h12 := nlv_12 w1
  have hd := Nat.div_add_mod' l (nv M 2)
  have hm := Nat.mod_lt l (show 0 < nv M 2 by omega)
  have hga : fX4_gatheringOf (some L) (nI l) (wc σ G J) = some (nI (l / nv M 2)) := by
    unfold fX4_gatheringOf
    rw [lk_o h, bnP_1, lk_I h, bnP_1, r0, if_neg (nI_nle (by omega) (by omega)), bnP_1, show nz (nI (nv M 2)) = some () from if_neg (nI_ne0 (by omega) (by omega)), bnP_1, pk_div (by omega) (by omega) (by omega)]
  unfold fX4_mateOf mtQ
  rw [lk_o h, bnP_1, hga, bnP_1, lk_I h, bnP_1, bnP_1, r0, pk_mul, nI_add, nI_m1 (by omega), nI_sub (show l / nv M 2 * nv M 2 ≤ l by omega), nI_sub (by omega), show l - l / nv M 2 * nv M 2 = l % nv M 2 by omega]
  show (if nI (mtN (nv M 2) l) = nI l then _ else bnP (fX4_isThere (some L) (nI (mtN (nv M 2) l)) (wc σ G J)) (fun x7 => if x7 = true then some (nI (mtN (nv M 2) l)) else some (-1))) = _
  have hM := mtN_b (l := l) g3 g2
  by_cases q : mtN (nv M 2) l = l
  · rw [if_pos (congrArg nI q), if_pos q]
    rfl
  · rw [if_neg (by rw [nI_eq (by omega) (by omega)]; exact q), if_neg q, l_isThere h w1 r, bnP_1, inN_e (by omega) (by omega)]
    by_cases q2 : mtN (nv M 2) l < nLv M
    · rw [decide_eq_true q2, if_pos rfl, if_pos q2]
    · rw [decide_eq_false q2, if_neg q2]
      rfl
theorem rl_set (hw : WFN M) (hl : l < nLv M) (r : LvR G L M) (x : Int32) : LvR (up G (L + 1) l x) L (lfN M l x) := by
  have n2 := lf_n2 (x := x) hw hl
  refine ⟨?_, ?_, fun k hk => ?_⟩
  · rw [up_a (by omega), lf_o (by omega)]
    exact r.1
  · rw [up_a (by omega), n2.2]
    exact r.2.1
  · rw [n2.2] at hk
    by_cases z : k = l
    · rw [z, up_eq]
      exact (u1_e _ _ _).symm
    · rw [up_k z, lf_o (by omega)]
      exact r.2.2 k hk
theorem l_loosen (h : LK σ L) (hw : WFN M) (r : LvR G L M) (hl : l < nLv M) : ∃ G2, fX4_loosenMateOf (some L) (nI l) (wc σ G J) = some (wc σ G2 J) ∧ (∀ a, a ≠ L + 1 → G2 a = G a) ∧ LvR G2 L (lsN M l) := by
  have h12 := nlv_12 hw.1
  unfold fX4_loosenMateOf
  rw [lk_o h, bnP_1, l_mateOf h hw.1 r (by omega), bnP_1, l_isThere h hw.1 r, bnP_1]
  unfold mtQ lsN
  by_cases q1 : mtN (nv M 2) l = l
  · have e : mtO M l 0 = false := decide_eq_false (fun e => e.1 q1)
    refine ⟨G, ?_, fun _ _ => rfl, ?_⟩
    · rw [if_pos q1, show inR nO (nI 0) (nI (nLv M) - 1) = false by
        unfold inR
        rw [decide_eq_false (show ¬ nI 0 ≤ nO by decide), Bool.false_and]]
      rfl
    · rw [e]
      exact r
  · rw [if_neg q1]
    by_cases q2 : mtN (nv M 2) l < nLv M
    · rw [if_pos q2, there_1 hw.1 q2, if_pos rfl, lk_r2 h, bnP_1, lk_a2 h (by omega), bnP_1, r.2.2 _ q2]
      by_cases q3 : M (99 + mtN (nv M 2) l) = 0
      · have e : mtO M l 0 = true := decide_eq_true ⟨q1, q2, q3⟩
        refine ⟨up G (L + 1) (mtN (nv M 2) l) 1, ?_, fun a ha => up_a ha, ?_⟩
        · rw [if_pos q3, bnP_1, lk_s2 h (by omega), bnP_1]
        · rw [e, if_pos rfl]
          exact rl_set hw q2 r 1
      · have e : mtO M l 0 = false := decide_eq_false (fun e => q3 e.2.2)
        refine ⟨G, ?_, fun _ _ => rfl, ?_⟩
        · rw [if_neg q3]
        · rw [e]
          exact r
    · have e : mtO M l 0 = false := decide_eq_false (fun e => q2 e.2.1)
      refine ⟨G, ?_, fun _ _ => rfl, ?_⟩
      · rw [if_neg q2, show inR nO (nI 0) (nI (nLv M) - 1) = false by
          unfold inR
          rw [decide_eq_false (show ¬ nI 0 ≤ nO by decide), Bool.false_and]]
        rfl
      · rw [e]
        exact r
end LVS
