/-! p56, pure: what the law sees of a book -/
def fiL (s : Nat → Int64) : Nat → Nat → Int64
  | 0 => s
  | k + 1 => vp_updL (fiL s k) k 0
def se1 (N : tN) (s : Nat → Int64) : Nat → Nat → Int64
  | 0 => s
  | k + 1 => vp_updL (se1 N s k) k (cntQ N k).toInt64
def se3 (N : tN) (a : Nat) (s : Nat → Int64) : Nat → Nat → Int64
  | 0 => s
  | k + 1 => vp_updL (se3 N a s k) (41 + a) (31 * se3 N a s k (41 + a) + (actW N a k).toInt64)
def se5 (N : tN) (a i : Nat) (s : Nat → Int64) : Nat → Nat → Int64
  | 0 => s
  | k + 1 => vp_updL (se5 N a i s k) (56 + a) (31 * se5 N a i s k (56 + a) + (wrdW N a (aF N a + i) k).toInt64)
def se4 (N : tN) (a : Nat) (s : Nat → Int64) : Nat → Nat → Int64
  | 0 => s
  | i + 1 => se5 N a i (se4 N a s i) 8
def se2 (N : tN) (s : Nat → Int64) : Nat → Nat → Int64
  | 0 => s
  | a + 1 => se4 N a (se3 N a (vp_updL (se2 N s a) (21 + a) (actW N a 3).toInt64) 12) (aM N a)
def se6 (N : tN) (s : Nat → Int64) : Nat → Nat → Int64
  | 0 => s
  | l + 1 => vp_updL (se6 N s l) (70 + l) (lefW N l 0).toInt64
def se7 (N : tN) (s : Nat → Int64) : Nat → Nat → Int64
  | 0 => s
  | c + 1 => vp_updL (se7 N s c) (85 + c) (10 * (cpW N c 0).toInt64 + (cpW N c 1).toInt64)
def SEE (N : tN) (s : Nat → Int64) : Nat → Int64 := se7 N (se6 N (se2 N (se1 N s 16) (nAc N)) (nLv N)) (nCp N)
section P56G
variable {σ : HpT} {G G' : Nat → Nat → Int32} {J J' : Nat → Nat → Int64} {N N' : tN} {V : tV} {w z y a i k l c : Nat} {I : tI} {s s' : Nat → Int64}
theorem up_cwJ (J : Nat → Nat → Int64) (y : Nat) (s : Nat → Int64) (k : Nat) (x : Int64) : upJ (cwJ J y s) y k x = cwJ J y (vp_updL s k x) := by
  funext b j
  unfold upJ cwJ vp_updL
  by_cases q : b = y
  · subst q
    by_cases q2 : j = k
    · rw [if_pos ⟨rfl, q2⟩, if_pos rfl, if_pos q2]
    · rw [if_neg (fun e => q2 e.2), if_pos rfl, if_pos rfl, if_neg q2]
  · rw [if_neg (fun e => q e.1), if_neg q, if_neg q]
theorem sj_y (h : LST σ G J N V w z I) (hy : y = w ∨ y = z) (s : Nat → Int64) {k : Nat} (hk : k < 100) (x : Int64) : sJ (wc σ G (cwJ J y s)) (some y) (nI k) x = some (wc σ G (cwJ J y (vp_updL s k x))) := by
  obtain ⟨aw, az, -⟩ := ls_ar h
  have q : AR σ y := by rcases hy with rfl | rfl <;> assumption
  rw [sJ_c q.1 q.2.2.2 q.2.1 hk (by decide), up_cwJ]
theorem aj_y (h : LST σ G J N V w z I) (hy : y = w ∨ y = z) (s : Nat → Int64) {k : Nat} (hk : k < 100) : aJ (wc σ G (cwJ J y s)) (some y) (nI k) = some (s k) := by
  obtain ⟨aw, az, -⟩ := ls_ar h
  have q : AR σ y := by rcases hy with rfl | rfl <;> assumption
  rw [aJ_c q.1 q.2.2.2 q.2.1 hk (by decide), cwJ_a]
theorem ix_a (m k n : Nat) (h : m + k = n) (x : Int32) (hx : x = nI m) : x + nI k = nI n := by rw [hx, nI_add, h]
theorem ls_sees (h : LST σ G J N V w z I) (hy : y = w ∨ y = z) : fL_sees (some 0) (some y) (wc σ G J) = some (wc σ G (cwJ J y (SEE N (fiL (J y) 100)))) := by
  have hw := ls_w h
  have hb := w1_b hw.1
  have h12 := nlv_12 hw.1
  obtain ⟨aw, az, -⟩ := ls_ar h
  have q : AR σ y := by rcases hy with rfl | rfl <;> assumption
  have L : ∀ s, LST σ G (cwJ J y s) N V w z I := fun s => ls_j h hy s
  have e0 : fJ7_fill_d0a16 (some y) 0 (wc σ G J) = some (wc σ G (cwJ J y (fiL (J y) 100))) := by
    unfold fJ7_fill_d0a16
    have el : aL (wc σ G J) (some y) 21 = some (nI 100) := by
      have k1 : hK (wc σ G J) y = 21 := q.1
      have k2 : hZ (wc σ G J) y = 100 := q.2.1
      unfold aL
      dsimp only
      rw [if_pos k1, k2]
      rfl
    have e : lpS (fJ7_fill_d0a16_l1 (some y) 0 (nI 100)) FUEL 0 (wc σ G J) = some ((), wc σ G (cwJ J y (fiL (J y) 100))) := by
      refine lpS_f 100 (fun k => nI k) (fun k => wc σ G (cwJ J y (fiL (J y) k))) rfl ?_ (by decide) (fun k hk => ?_) ?_
      · show wc σ G (cwJ J y (J y)) = wc σ G J
        congr 1
        funext b j
        unfold cwJ
        by_cases e : b = y
        · rw [if_pos e, e]
        · rw [if_neg e]
      · unfold fJ7_fill_d0a16_l1
        rw [if_neg (nI_ge hk (by decide)), sj_y h hy _ hk, bnP_1, nI_a1]
        rfl
      · unfold fJ7_fill_d0a16_l1
        rw [if_pos (nI_le (Nat.le_refl _) (by decide))]
    rw [el, bnP_1, e, bnS_1]
  unfold SEE
  generalize fiL (J y) 100 = s0 at e0 ⊢
  have e1 : lpS (fL_sees_l1 (some 0) (some y)) FUEL 0 (wc σ G (cwJ J y s0)) = some ((), wc σ G (cwJ J y (se1 N s0 16))) := by
    refine lpS_f 16 (fun k => nI k) (fun k => wc σ G (cwJ J y (se1 N s0 k))) rfl rfl (by decide) (fun k hk => ?_) ?_
    · unfold fL_sees_l1
      rw [if_neg (show ¬ (16 : Int32) ≤ nI k from nI_ge (b := 16) hk (by decide)), lq_count (L _) k (by omega), exO_1, bnP_1, sj_y h hy _ (by omega), bnP_1, nI_a1]
      rfl
    · unfold fL_sees_l1
      rw [if_pos (show (16 : Int32) ≤ nI 16 by decide)]
  generalize se1 N s0 16 = s1 at e1 ⊢
  have e2 : lpS (fL_sees_l2 (some 0) (some y)) FUEL 1 (wc σ G (cwJ J y s1)) = some ((), wc σ G (cwJ J y (se2 N s1 (nAc N)))) := by
    refine lpS_f (nAc N) (fun k => nI (k + 1)) (fun k => wc σ G (cwJ J y (se2 N s1 k))) rfl rfl (by omega) (fun a ha => ?_) ?_
    · have hm := w2_b hw.2.1 ha
      unfold fL_sees_l2
      rw [show fX9_count (some 0) 3 _ = _ from lq_count (L _) 3 (by decide), exO_1, bnP_1, show cntQ N 3 = N 3 from rfl, (w1_e hw.1).2.1, if_neg (show ¬ nI (nAc N) < nI (a + 1) from nI_nlt (by omega) (by omega)), show fX9_act (some 0) (nI (a + 1)) 3 _ = _ from lq_act (L _) ha 3 (by decide), exO_1, bnP_1, ix_a 20 (a + 1) (21 + a) (by omega) 20 rfl, sj_y h hy _ (by omega), bnP_1]
      have e3 : ∀ s, lpS (fL_sees_l3 (some 0) (some y) (nI (a + 1))) FUEL 0 (wc σ G (cwJ J y s)) = some ((), wc σ G (cwJ J y (se3 N a s 12))) := fun s => by
        refine lpS_f 12 (fun k => nI k) (fun k => wc σ G (cwJ J y (se3 N a s k))) rfl rfl (by decide) (fun k hk => ?_) ?_
        · unfold fL_sees_l3
          rw [if_neg (show ¬ (12 : Int32) ≤ nI k from nI_ge (b := 12) hk (by decide)), ix_a 40 (a + 1) (41 + a) (by omega) 40 rfl, aj_y h hy _ (by omega), bnP_1, lq_act (L _) ha k (by omega), exO_1, bnP_1, sj_y h hy _ (by omega), bnP_1, nI_a1]
          rfl
        · unfold fL_sees_l3
          rw [if_pos (show (12 : Int32) ≤ nI 12 by decide)]
      rw [e3, bnS_1]
      have e4 : ∀ s, lpS (fL_sees_l4 (some 0) (some y) (nI (a + 1))) FUEL 0 (wc σ G (cwJ J y s)) = some ((), wc σ G (cwJ J y (se4 N a s (aM N a)))) := fun s => by
        refine lpS_f (aM N a) (fun k => nI k) (fun k => wc σ G (cwJ J y (se4 N a s k))) rfl rfl (by omega) (fun i hi => ?_) ?_
        · unfold fL_sees_l4
          rw [show fX9_act (some 0) (nI (a + 1)) 4 _ = _ from lq_act (L _) ha 4 (by decide), exO_1, bnP_1, show actW N a 4 = nI (aM N a) from rfl, if_neg (nI_ge hi (by omega))]
          have e5 : ∀ s, lpS (fL_sees_l5 (some 0) (some y) (nI (a + 1)) (nI i)) FUEL 0 (wc σ G (cwJ J y s)) = some ((), wc σ G (cwJ J y (se5 N a i s 8))) := fun s => by
            refine lpS_f 8 (fun k => nI k) (fun k => wc σ G (cwJ J y (se5 N a i s k))) rfl rfl (by decide) (fun k hk => ?_) ?_
            · unfold fL_sees_l5
              rw [if_neg (show ¬ (8 : Int32) ≤ nI k from nI_ge (b := 8) hk (by decide)), ix_a 55 (a + 1) (56 + a) (by omega) 55 rfl, aj_y h hy _ (by omega), bnP_1, lq_word (L _) ha hi k (by omega), exO_1, bnP_1, sj_y h hy _ (by omega), bnP_1, nI_a1]
              rfl
            · unfold fL_sees_l5
              rw [if_pos (show (8 : Int32) ≤ nI 8 by decide)]
          rw [e5, bnS_1, nI_a1]
          rfl
        · unfold fL_sees_l4
          rw [show fX9_act (some 0) (nI (a + 1)) 4 _ = _ from lq_act (L _) ha 4 (by decide), exO_1, bnP_1, show actW N a 4 = nI (aM N a) from rfl, if_pos (nI_le (Nat.le_refl _) (by omega))]
      rw [e4, bnS_1, nI_a1]
      rfl
    · unfold fL_sees_l2
      rw [show fX9_count (some 0) 3 _ = _ from lq_count (L _) 3 (by decide), exO_1, bnP_1, show cntQ N 3 = N 3 from rfl, (w1_e hw.1).2.1, if_pos (show nI (nAc N) < nI (nAc N + 1) from nI_lt (by omega) (by omega))]
  generalize se2 N s1 (nAc N) = s2 at e2 ⊢
  have e6 : lpS (fL_sees_l6 (some 0) (some y)) FUEL 0 (wc σ G (cwJ J y s2)) = some ((), wc σ G (cwJ J y (se6 N s2 (nLv N)))) := by
    refine lpS_f (nLv N) (fun k => nI k) (fun k => wc σ G (cwJ J y (se6 N s2 k))) rfl rfl (by omega) (fun l hl => ?_) ?_
    · unfold fL_sees_l6
      rw [show fX9_count (some 0) 5 _ = _ from lq_count (L _) 5 (by decide), exO_1, bnP_1, show cntQ N 5 = nI (nLv N) from rfl, if_neg (nI_ge hl (by omega)), show fX9_leaf (some 0) (nI l) 0 _ = _ from lq_leaf (L _) hl 0 (by decide), exO_1, bnP_1, ix_a 70 l (70 + l) rfl 70 rfl, sj_y h hy _ (by omega), bnP_1, nI_a1]
      rfl
    · unfold fL_sees_l6
      rw [show fX9_count (some 0) 5 _ = _ from lq_count (L _) 5 (by decide), exO_1, bnP_1, show cntQ N 5 = nI (nLv N) from rfl, if_pos (nI_le (Nat.le_refl _) (by omega))]
  generalize se6 N s2 (nLv N) = s3 at e6 ⊢
  have e7 : lpS (fL_sees_l7 (some 0) (some y)) FUEL 0 (wc σ G (cwJ J y s3)) = some ((), wc σ G (cwJ J y (se7 N s3 (nCp N)))) := by
    refine lpS_f (nCp N) (fun k => nI k) (fun k => wc σ G (cwJ J y (se7 N s3 k))) rfl rfl (by omega) (fun c hc => ?_) ?_
    · unfold fL_sees_l7
      rw [show fX9_count (some 0) 8 _ = _ from lq_count (L _) 8 (by decide), exO_1, bnP_1, show cntQ N 8 = N 6 from rfl, (w1_e hw.1).2.2.2.2, if_neg (nI_ge hc (by omega)), show fX9_copy (some 0) (nI c) 0 _ = _ from lq_copy (L _) hc 0 (by decide), exO_1, bnP_1, show fX9_copy (some 0) (nI c) 1 _ = _ from lq_copy (L _) hc 1 (by decide), exO_1, bnP_1, ix_a 85 c (85 + c) rfl 85 rfl, sj_y h hy _ (by omega), bnP_1, nI_a1]
      rfl
    · unfold fL_sees_l7
      rw [show fX9_count (some 0) 8 _ = _ from lq_count (L _) 8 (by decide), exO_1, bnP_1, show cntQ N 8 = N 6 from rfl, (w1_e hw.1).2.2.2.2, if_pos (nI_le (Nat.le_refl _) (by omega))]
  unfold fL_sees
  rw [e0, bnP_1, e1, bnS_1, e2, bnS_1, e6, bnS_1, e7, bnS_1]
/-- rows that agree where the law looks -/
def E100 (s s' : Nat → Int64) : Prop := ∀ k, k < 100 → s k = s' k
theorem e_up (h : E100 s s') (k : Nat) (x : Int64) : E100 (vp_updL s k x) (vp_updL s' k x) := fun j hj => by
  unfold vp_updL
  by_cases q : j = k
  · rw [if_pos q, if_pos q]
  · rw [if_neg q, if_neg q]
    exact h j hj
theorem e_1 (N : tN) (h : E100 s s') : ∀ k, E100 (se1 N s k) (se1 N s' k)
  | 0 => h
  | k + 1 => e_up (e_1 N h k) _ _
theorem e_3 (N : tN) {a : Nat} (ha : a < 11) (h : E100 s s') : ∀ k, E100 (se3 N a s k) (se3 N a s' k)
  | 0 => h
  | k + 1 => by
    have ih := e_3 N ha h k
    show E100 (vp_updL _ _ (31 * se3 N a s k (41 + a) + _)) (vp_updL _ _ (31 * se3 N a s' k (41 + a) + _))
    rw [ih (41 + a) (by omega)]
    exact e_up ih _ _
theorem e_5 (N : tN) {a : Nat} (i : Nat) (ha : a < 11) (h : E100 s s') : ∀ k, E100 (se5 N a i s k) (se5 N a i s' k)
  | 0 => h
  | k + 1 => by
    have ih := e_5 N i ha h k
    show E100 (vp_updL _ _ (31 * se5 N a i s k (56 + a) + _)) (vp_updL _ _ (31 * se5 N a i s' k (56 + a) + _))
    rw [ih (56 + a) (by omega)]
    exact e_up ih _ _
theorem e_4 (N : tN) {a : Nat} (ha : a < 11) (h : E100 s s') : ∀ k, E100 (se4 N a s k) (se4 N a s' k)
  | 0 => h
  | k + 1 => e_5 N k ha (e_4 N ha h k) 8
theorem e_2 (N : tN) (h : E100 s s') : ∀ k, k ≤ 11 → E100 (se2 N s k) (se2 N s' k)
  | 0, _ => h
  | k + 1, hk => e_4 N (by omega) (e_3 N (by omega) (e_up (e_2 N h k (by omega)) _ _) 12) _
theorem e_6 (N : tN) (h : E100 s s') : ∀ k, E100 (se6 N s k) (se6 N s' k)
  | 0 => h
  | k + 1 => e_up (e_6 N h k) _ _
theorem e_7 (N : tN) (h : E100 s s') : ∀ k, E100 (se7 N s k) (se7 N s' k)
  | 0 => h
  | k + 1 => e_up (e_7 N h k) _ _
theorem e_see (w1 : W1 N) (h : E100 s s') : E100 (SEE N s) (SEE N s') := e_7 N (e_6 N (e_2 N (e_1 N h 16) _ (by have := w1_b w1; omega)) _) _
theorem fi_0 (s : Nat → Int64) : ∀ n k, k < n → fiL s n k = 0
  | n + 1, k, hk => by
    show vp_updL (fiL s n) n 0 k = 0
    unfold vp_updL
    by_cases q : k = n
    · rw [if_pos q]
    · rw [if_neg q]
      exact fi_0 s n k (by omega)
theorem e_fi (s s' : Nat → Int64) : E100 (fiL s 100) (fiL s' 100) := fun k hk => by rw [fi_0 s 100 k hk, fi_0 s' 100 k hk]
theorem updL_n {s : Nat → Int64} {k j : Nat} {x : Int64} (h : j ≠ k) : vp_updL s k x j = s j := if_neg h
theorem see_7 (N : tN) (s : Nat → Int64) {j : Nat} (hj : j < 85) : ∀ k, se7 N s k j = s j
  | 0 => rfl
  | k + 1 => (updL_n (by omega)).trans (see_7 N s hj k)
theorem see_6 (N : tN) (s : Nat → Int64) {j : Nat} (hj : j < 70) : ∀ k, se6 N s k j = s j
  | 0 => rfl
  | k + 1 => (updL_n (by omega)).trans (see_6 N s hj k)
theorem see_5 (N : tN) (a i : Nat) (s : Nat → Int64) {j : Nat} (hj : j < 41) : ∀ k, se5 N a i s k j = s j
  | 0 => rfl
  | k + 1 => (updL_n (by omega)).trans (see_5 N a i s hj k)
theorem see_4 (N : tN) (a : Nat) (s : Nat → Int64) {j : Nat} (hj : j < 41) : ∀ k, se4 N a s k j = s j
  | 0 => rfl
  | k + 1 => (see_5 N a k _ hj 8).trans (see_4 N a s hj k)
theorem see_3 (N : tN) (a : Nat) (s : Nat → Int64) {j : Nat} (hj : j < 41) : ∀ k, se3 N a s k j = s j
  | 0 => rfl
  | k + 1 => (updL_n (by omega)).trans (see_3 N a s hj k)
theorem see_2 (N : tN) (s : Nat → Int64) {j : Nat} (hj : j < 21) : ∀ k, se2 N s k j = s j
  | 0 => rfl
  | k + 1 => (see_4 N k _ (by omega) _).trans ((see_3 N k _ (by omega) 12).trans ((updL_n (by omega)).trans (see_2 N s hj k)))
theorem see_1 (N : tN) (s : Nat → Int64) {j : Nat} : ∀ k, j < k → se1 N s k j = (cntQ N j).toInt64
  | k + 1, hk => by
    show vp_updL (se1 N s k) k _ j = _
    unfold vp_updL
    by_cases q : j = k
    · rw [if_pos q, q]
    · rw [if_neg q]
      exact see_1 N s k (by omega)
theorem see_c (N : tN) (s : Nat → Int64) {j : Nat} (hj : j < 16) : SEE N s j = (cntQ N j).toInt64 := by
  unfold SEE
  rw [see_7 N _ (by omega), see_6 N _ (by omega), see_2 N _ (by omega), see_1 N s 16 hj]
theorem see_22 (h : nAc N = 2) (s : Nat → Int64) : SEE N s 22 = (N 21).toInt64 := by
  unfold SEE
  rw [see_7 N _ (by decide), see_6 N _ (by decide), h]
  show se4 N 1 (se3 N 1 (vp_updL _ (21 + 1) (actW N 1 3).toInt64) 12) (aM N 1) 22 = _
  rw [see_4 N 1 _ (by decide), see_3 N 1 _ (by decide)]
  exact if_pos rfl
theorem sn_see (h : nAc N = 2) (s : Nat → Int64) : SN (cwJ J w (SEE N s)) w N := by
  unfold SN
  rw [cwJ_a]
  exact ⟨see_c N s (by decide), see_c N s (by decide), see_c N s (by decide), see_c N s (by decide), see_c N s (by decide), see_22 h s⟩
/-! the two rows are compared -/
theorem ofs_k : ∀ k, k < 100 → lg_cmp (((16).toInt64 + ((nI k).toInt64 <<< ((3).toInt64 &&& 63))) &&& 7) 0 = 0 ∧ ¬ ((16).toInt64 + ((nI k).toInt64 <<< ((3).toInt64 &&& 63))) < 0 ∧ ((16).toInt64 + ((nI k).toInt64 <<< ((3).toInt64 &&& 63))).toNatClampNeg = 16 + 8 * k := by decide +kernel
theorem gl_y (h : LST σ G J N V w z I) (hB : hN σ ≤ BIG) (hy : y = w ∨ y = z) (hk : k < 100) : fJx9a822_getLongUnaligned_f02c6 (some (BIG + 205)) (some y) ((16).toInt64 + ((nI k).toInt64 <<< ((3).toInt64 &&& 63))) (wc σ G J) = some (J y k) := by
  obtain ⟨aw, az, -⟩ := ls_ar h
  have q : AR σ y := by rcases hy with rfl | rfl <;> assumption
  obtain ⟨o1, o2, o3⟩ := ofs_k k hk
  generalize (16).toInt64 + ((nI k).toInt64 <<< ((3).toInt64 &&& 63)) = off at o1 o2 o3
  have kU : isK (wc σ G J) (some (BIG + 205)) 16 = some () := by
    refine isK_S ?_
    unfold hK
    rw [if_neg (show ¬ BIG + 205 < (wc σ G J).1 from by have e : hN σ = (wc σ G J).1 := rfl; omega)]
    decide
  have e8 : (16 + 8 * k - 16) / 8 = k := by omega
  unfold fJx9a822_getLongUnaligned_f02c6
  rw [kU, bnP_1, if_pos o1]
  have eg : gL (wc σ G J) (some y) off = some (J y k) := by
    unfold gL
    dsimp only
    rw [o3, e8, if_pos ⟨⟨q.1, q.2.2.2⟩, o2, rfl, by rw [show hZ (wc σ G J) y = 100 from q.2.1]; exact hk⟩]
    exact congrArg some (if_pos q.2.2.2)
  rw [eg, bnP_1]
theorem ls_eq (h : LST σ G J N V w z I) (hB : hN σ ≤ BIG) (e : E100 (J w) (J z)) : fJ7_equals_331f6 (some w) (some z) (wc σ G J) = some true := by
  obtain ⟨aw, az, hne⟩ := ls_ar h
  have el : ∀ y, y = w ∨ y = z → aL (wc σ G J) (some y) 21 = some 100 := fun y hy => by
    have q : AR σ y := by rcases hy with rfl | rfl <;> assumption
    have k1 : hK (wc σ G J) y = 21 := q.1
    have k2 : hZ (wc σ G J) y = 100 := q.2.1
    unfold aL
    dsimp only
    rw [if_pos k1, k2]
    rfl
  have ed : diffR (wc σ G J) (some w) (some z) = some () := if_pos ⟨⟨aw.2.2.2, az.2.2.2⟩, hne⟩
  have a0 : ∀ y, y = w ∨ y = z → aJ (wc σ G J) (some y) 0 = some (J y 0) := fun y hy => by
    have q : AR σ y := by rcases hy with rfl | rfl <;> assumption
    exact aJ_c (n := 0) q.1 q.2.2.2 q.2.1 (by decide) (by decide)
  have lp : lpP (fJ8_vectorizedMismatch_456ae_l1 (some w) ((16).toInt64) (some z) ((16).toInt64) 100 3 (3 - 3) (wc σ G J)) FUEL 0 = some (.inl (nI 100)) := by
    refine lpP_f 100 (fun k => nI k) rfl (by decide) (fun k hk => ?_) ?_
    · unfold fJ8_vectorizedMismatch_456ae_l1
      rw [if_neg (show ¬ (100 : Int32) >>> ((3 - 3 : Int32) &&& 31) ≤ nI k from by
        rw [show (100 : Int32) >>> ((3 - 3 : Int32) &&& 31) = nI 100 from by decide]
        exact nI_ge hk (by decide)), gl_y h hB (Or.inl rfl) hk, bnP_1, gl_y h hB (Or.inr rfl) hk, bnP_1, e k hk, if_pos ((lg_cmp_eq _ _).mpr rfl), nI_a1]
    · unfold fJ8_vectorizedMismatch_456ae_l1
      rw [if_pos (show (100 : Int32) >>> ((3 - 3 : Int32) &&& 31) ≤ nI 100 from by decide)]
  have ev : fJ8_vectorizedMismatch_456ae (some w) ((16).toInt64) (some z) ((16).toInt64) 100 3 (wc σ G J) = some (-1) := by
    unfold fJ8_vectorizedMismatch_456ae
    rw [lp, bnP_1]
    decide
  unfold fJ7_equals_331f6 fJ8_mismatch_974f6
  rw [ed, bnP_1, if_neg (fun e => by cases e), if_neg (fun e => by cases e), el w (Or.inl rfl), bnP_1, el z (Or.inr rfl), bnP_1, if_pos rfl, if_neg (by decide), a0 w (Or.inl rfl), bnP_1, a0 z (Or.inr rfl), bnP_1, e 0 (by decide), if_pos ((lg_cmp_eq _ _).mpr rfl), ev, bnP_1, if_pos (by decide), bnP_1, if_neg (by decide)]
end P56G
