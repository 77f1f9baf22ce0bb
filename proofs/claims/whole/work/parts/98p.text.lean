/-! THE PURE LEVEL, 74: texts; the reference writes -/
def tA (T : tI) (d : Nat) : tI := (T.1 + 1, u1 T.2 T.1 (nI d))
def tB (T : tI) : tI := if T.1 = 0 then T else tA T 32
def tL (T : tI) (lo hi : Int32) : Nat → tI
  | 0 => T
  | k + 1 => tA (tL T lo hi k) (96 + dg lo hi k)
def tW (T : tI) (lo hi : Int32) : tI := tL T lo hi (lenQ lo hi)
def tS (T : tI) (d : Nat) : Nat → tI
  | 0 => T
  | k + 1 => tA (tB (tS T d k)) d
def TY (T : tI) : Prop := ∀ k, k < T.1 → ∃ d, d < 128 ∧ T.2 k = nI d
section TXT
variable {T : tI} {d n k : Nat} {lo hi : Int32}
theorem ty_A (h : TY T) (hd : d < 128) : TY (tA T d) := by
  intro k hk
  have hk : k < T.1 + 1 := hk
  show ∃ d', d' < 128 ∧ u1 T.2 T.1 (nI d) k = nI d'
  by_cases q : k = T.1
  · rw [q, u1_e]
    exact ⟨d, hd, rfl⟩
  · rw [u1_k q]
    exact h k (by omega)
theorem tB_1 (T : tI) : T.1 ≤ (tB T).1 ∧ (tB T).1 ≤ T.1 + 1 := by
  unfold tB
  split
  · exact ⟨Nat.le_refl _, by omega⟩
  · exact ⟨Nat.le_succ _, Nat.le_refl _⟩
theorem ty_B (h : TY T) : TY (tB T) := by
  unfold tB
  split
  · exact h
  · exact ty_A h (by decide)
theorem tL_1 (T : tI) (lo hi : Int32) : ∀ k, (tL T lo hi k).1 = T.1 + k
  | 0 => rfl
  | k + 1 => by
    show (tL T lo hi k).1 + 1 = _
    rw [tL_1 T lo hi k]
    rfl
theorem ty_L (h : TY T) : ∀ k, TY (tL T lo hi k)
  | 0 => h
  | k + 1 => ty_A (ty_L h k) (by have := dg_lt lo hi k; omega)
theorem lenQ_le (lo hi : Int32) : lenQ lo hi ≤ 8 := by
  unfold lenQ
  cases e : fuN (fun k => decide (dg lo hi k = 0)) 8 with
  | none => exact Nat.le_refl _
  | some j =>
    have := (fuN_some e).1
    show j ≤ 8
    omega
theorem lt_in (h : k < lenQ lo hi) : ltQ lo hi (nI k) = nI (96 + dg lo hi k) := by
  have h8 := lenQ_le lo hi
  have hn : ¬ dg lo hi k = 0 := by
    unfold lenQ at h
    cases e : fuN (fun k => decide (dg lo hi k = 0)) 8 with
    | none =>
      rw [e] at h
      exact of_decide_eq_false (fuN_none e k h)
    | some j =>
      rw [e] at h
      exact of_decide_eq_false ((fuN_some e).2.2 k h)
  unfold ltQ
  rw [inR_nI (by omega) (by decide) (by decide), decide_eq_true (Nat.zero_le k), decide_eq_true (show k ≤ 7 by omega), if_pos (show (true && true) = true from rfl), nI_clamp (by omega), if_neg hn]
theorem lt_end (lo hi : Int32) : ltQ lo hi (nI (lenQ lo hi)) = nO := by
  have h8 := lenQ_le lo hi
  unfold ltQ
  rw [inR_nI (by omega) (by decide) (by decide), decide_eq_true (Nat.zero_le _)]
  by_cases q : lenQ lo hi ≤ 7
  · rw [decide_eq_true q, if_pos (show (true && true) = true from rfl), nI_clamp (by omega)]
    unfold lenQ at q ⊢
    cases e : fuN (fun k => decide (dg lo hi k = 0)) 8 with
    | none =>
      rw [e] at q
      exact absurd q (by decide)
    | some j => exact if_pos (of_decide_eq_true (fuN_some e).2.1)
  · rw [decide_eq_false q, if_neg (by decide)]
theorem tW_1 (T : tI) (lo hi : Int32) : T.1 ≤ (tW T lo hi).1 ∧ (tW T lo hi).1 ≤ T.1 + 8 := by
  have h8 := lenQ_le lo hi
  unfold tW
  rw [tL_1]
  omega
theorem ty_W (h : TY T) : TY (tW T lo hi) := ty_L h _
theorem tS_1 (T : tI) (d : Nat) : ∀ n, T.1 ≤ (tS T d n).1 ∧ (tS T d n).1 ≤ T.1 + 2 * n
  | 0 => ⟨Nat.le_refl _, Nat.le_refl _⟩
  | n + 1 => by
    have h := tS_1 T d n
    have h2 := tB_1 (tS T d n)
    show T.1 ≤ (tB (tS T d n)).1 + 1 ∧ (tB (tS T d n)).1 + 1 ≤ _
    omega
theorem ty_S (h : TY T) (hd : d < 128) : ∀ n, TY (tS T d n)
  | 0 => h
  | n + 1 => ty_A (ty_B (ty_S h hd n)) hd
theorem by_ok : ∀ d, d < 128 → (nI d).toInt8.toInt32 = nI d := by decide +kernel
theorem ch_ok : ∀ d, d < 128 → ((nI d).toUInt32 % 65536).toInt32 = nI d := by decide +kernel
theorem byc_ok : ∀ d, d < 128 → ((nI d &&& 255).toUInt32 % 65536).toInt32 = nI d := by decide +kernel
end TXT
/-- a word as it is written: mk: with the mark of a struck one -/
def wdT (N : Nat → Int32) (mk : Bool) (g : Nat) (T : tI) : tI := if knN N g = true then tW (if (mk && !skN N g) = true then tA (tB T) 45 else tB T) (N (127 + 13 * g)) (N (127 + 13 * g + 1)) else tA (tB T) 63
def inT (N : Nat → Int32) (mk g : Nat) (T : tI) : Nat → tI
  | 0 => T
  | j + 1 => tW (if mk = 0 then tB (inT N mk g T j) else tA (tB (inT N mk g T j)) mk) (N (127 + 13 * g + 5 + 2 * j)) (N (127 + 13 * g + 5 + 2 * j + 1))
section WDT
variable {N : Nat → Int32} {mk : Bool} {g mm j : Nat} {T : tI}
theorem wdT_1 : T.1 ≤ (wdT N mk g T).1 ∧ (wdT N mk g T).1 ≤ T.1 + 10 := by
  have hB := tB_1 T
  unfold wdT
  split
  · split
    · have := tW_1 (tA (tB T) 45) (N (127 + 13 * g)) (N (127 + 13 * g + 1))
      have e : (tA (tB T) 45).1 = (tB T).1 + 1 := rfl
      omega
    · have := tW_1 (tB T) (N (127 + 13 * g)) (N (127 + 13 * g + 1))
      omega
  · show T.1 ≤ (tB T).1 + 1 ∧ (tB T).1 + 1 ≤ _
    omega
theorem ty_wd (h : TY T) : TY (wdT N mk g T) := by
  unfold wdT
  split
  · split
    · exact ty_W (ty_A (ty_B h) (by decide))
    · exact ty_W (ty_B h)
  · exact ty_A (ty_B h) (by decide)
theorem inT_1 : ∀ j, T.1 ≤ (inT N mm g T j).1 ∧ (inT N mm g T j).1 ≤ T.1 + 10 * j
  | 0 => ⟨Nat.le_refl _, Nat.le_refl _⟩
  | j + 1 => by
    have h := inT_1 j
    have hB := tB_1 (inT N mm g T j)
    show T.1 ≤ (tW (if mm = 0 then tB (inT N mm g T j) else tA (tB (inT N mm g T j)) mm) _ _).1 ∧ (tW (if mm = 0 then tB (inT N mm g T j) else tA (tB (inT N mm g T j)) mm) _ _).1 ≤ _
    split
    · have := tW_1 (tB (inT N mm g T j)) (N (127 + 13 * g + 5 + 2 * j)) (N (127 + 13 * g + 5 + 2 * j + 1))
      omega
    · have := tW_1 (tA (tB (inT N mm g T j)) mm) (N (127 + 13 * g + 5 + 2 * j)) (N (127 + 13 * g + 5 + 2 * j + 1))
      have e : (tA (tB (inT N mm g T j)) mm).1 = (tB (inT N mm g T j)).1 + 1 := rfl
      omega
theorem ty_in (h : TY T) (hm : mm < 128) : ∀ j, TY (inT N mm g T j)
  | 0 => h
  | j + 1 => by
    have h2 := ty_in h hm j
    show TY (tW (if mm = 0 then tB (inT N mm g T j) else tA (tB (inT N mm g T j)) mm) _ _)
    split
    · exact ty_W (ty_B h2)
    · exact ty_W (ty_A (ty_B h2) hm)
end WDT
/-- the reference's cells with a text -/
def mtG (G : Nat → Nat → Int32) (T : tI) : Nat → Nat → Int32 := up (cw G 88 T.2) 80 23 (nI T.1)
section MTX
variable {σ : HpT} {G : Nat → Nat → Int32} {T : tI} {N : Nat → Int32} {a d g c q : Nat}
theorem mt_o (h8 : a ≠ 80) (h : a ≠ 88) : mtG G T a = G a := by
  unfold mtG
  rw [up_a h8, cw_b h]
theorem mt_81 : mtG G T (80 + 1) = G 81 := mt_o (by decide) (by decide)
theorem mt_n : mtG G T 80 23 = nI T.1 := up_eq _ _ _ _
theorem mt_k {k : Nat} (h : k ≠ 23) : mtG G T 80 k = G 80 k := by
  unfold mtG
  rw [up_k h, cw_b (by decide)]
theorem mt_A : up (up (mtG G T) (80 + 8) T.1 (nI d)) 80 23 (nI (T.1 + 1)) = mtG G (tA T d) := by
  funext a j
  unfold mtG tA up cw u1
  by_cases h1 : a = 80
  · subst h1
    by_cases h2 : j = 23
    · simp [h2]
    · simp [h2]
  · by_cases h2 : a = 88
    · subst h2
      simp
    · simp [h1, h2]
theorem m_byte (h : MK σ 80) (hT : T.1 < 20000) (hd : d < 128) : fX10_writesByte (some 80) (nI d) (wi σ (mtG G T)) = some (wi σ (mtG G (tA T d))) := by
  unfold fX10_writesByte
  rw [mk_o h, bnP_1, mk_r8 h, bnP_1, mk_I h, bnP_1, mt_n, mk_s8 h hT, bnP_1, by_ok d hd, by_ok d hd, mk_I h, bnP_1, up_a (by decide), mt_n, mk_P h, bnP_1, nI_a1, mt_A]
theorem m_blank (h : MK σ 80) (hT : T.1 < 20000) : fX10_writesBlank (some 80) (wi σ (mtG G T)) = some (wi σ (mtG G (tB T))) := by
  unfold fX10_writesBlank tB
  rw [mk_o h, bnP_1, mk_I h, bnP_1, mt_n]
  by_cases z : T.1 = 0
  · rw [if_pos z, z, if_pos (show nI 0 ≤ 0 by decide)]
  · rw [if_neg z, if_neg (show ¬ nI T.1 ≤ 0 from nI_ge (a := 0) (by omega) (by omega)), show (32 : Int32) = nI 32 from rfl, m_byte h hT (by decide), bnP_1]
theorem m_letters (h : MK σ 80) {w : Int64} (hc : c + 1 < 6139) (hw : wdR (G 81 c) (G 81 (c + 1)) w) (hT : T.1 + 8 ≤ 20000) : fX10_writesLetters (some 80) (nI c) (wi σ (mtG G T)) = some (wi σ (mtG G (tW T (G 81 c) (G 81 (c + 1))))) := by
  have h8 := lenQ_le (G 81 c) (G 81 (c + 1))
  have key := lpS_f (f := fX10_writesLetters_l1 (some 80) (nI c)) (a := 0) (σ := wi σ (mtG G T)) (r := ()) (lenQ (G 81 c) (G 81 (c + 1))) (fun k => nI k) (fun k => wi σ (mtG G (tL T (G 81 c) (G 81 (c + 1)) k))) rfl rfl (by omega) (fun k hk => by
    have hlt := dg_lt (G 81 c) (G 81 (c + 1)) k
    have hl := tL_1 T (G 81 c) (G 81 (c + 1)) k
    unfold fX10_writesLetters_l1
    rw [mk_r1 h, bnP_1, mk_a1 h (by omega), bnP_1, bnP_1, nI_a1, mk_a1 h hc, bnP_1, mt_81, wd_mlet hw, bnP_1, lt_in hk, if_neg (show ¬ nI (96 + dg (G 81 c) (G 81 (c + 1)) k) = -1 from nI_nO (by omega)), bnP_1, mk_a1 h (by omega), bnP_1, bnP_1, mk_a1 h hc, bnP_1, mt_81, wd_mlet hw, bnP_1, lt_in hk, m_byte h (by omega) (by omega), bnP_1, nI_a1]
    rfl) (by
    unfold fX10_writesLetters_l1
    rw [mk_r1 h, bnP_1, mk_a1 h (by omega), bnP_1, bnP_1, nI_a1, mk_a1 h hc, bnP_1, mt_81, wd_mlet hw, bnP_1, lt_end, if_pos (show nO = -1 from rfl)])
  unfold fX10_writesLetters
  rw [mk_o h, bnP_1, key, bnS_1]
  rfl
theorem m_inner (h : MK σ 80) (hw : WFN (G 81)) (w5 : W5 (G 81)) {mm : Nat} (hm : mm < 128) (hg : g < nWd (G 81)) (hT : T.1 + 40 ≤ 20000) : fX10_writesInner (some 80) (nI g) (nI mm) (wi σ (mtG G T)) = some (wi σ (mtG G (inT (G 81) mm g T (wN' (G 81) g)))) := by
  have hb := w1_b hw.1
  have hi := (hw.2.2.2.1 g hg).1
  have hi3 : wN' (G 81) g < 5 := hi.2
  have key := lpS_f (f := fX10_writesInner_l1 (some 80) (nI g) (nI mm)) (a := 0) (σ := wi σ (mtG G T)) (r := ()) (wN' (G 81) g) (fun k => nI k) (fun k => wi σ (mtG G (inT (G 81) mm g T k))) rfl rfl (by omega) (fun k hk => by
    have hl := inT_1 (N := G 81) (mm := mm) (g := g) (T := T) k
    have hB := tB_1 (inT (G 81) mm g T k)
    obtain ⟨w, hwd⟩ := (w5 g hg).2 k hk
    unfold fX10_writesInner_l1
    rw [show fX10_ofWord (some 80) (nI g) 4 (wi σ (mtG G (inT (G 81) mm g T k))) = _ from m_ofWord h g 4 (by omega), bnP_1, mt_81, hi.1, if_neg (nI_ge hk (by omega)), m_blank h (by omega), bnP_1]
    have e1 : (if nI mm ≤ 0 then some ((), wi σ (mtG G (tB (inT (G 81) mm g T k)))) else bnP (fX10_writesByte (some 80) (nI mm) (wi σ (mtG G (tB (inT (G 81) mm g T k))))) (fun s23 => some ((), s23))) = some ((), wi σ (mtG G (if mm = 0 then tB (inT (G 81) mm g T k) else tA (tB (inT (G 81) mm g T k)) mm))) := by
      by_cases z : mm = 0
      · rw [if_pos z, z, if_pos (show nI 0 ≤ 0 by decide)]
      · rw [if_neg z, if_neg (show ¬ nI mm ≤ 0 from nI_ge (a := 0) (by omega) (by omega)), m_byte h (by omega) hm, bnP_1]
    have hl2 : (if mm = 0 then tB (inT (G 81) mm g T k) else tA (tB (inT (G 81) mm g T k)) mm).1 ≤ T.1 + 10 * k + 2 := by
      split
      · omega
      · show (tB (inT (G 81) mm g T k)).1 + 1 ≤ _
        omega
    have i1 : ((127 + 13 * nI g) + 5) + 2 * nI k = nI (127 + 13 * g + 5 + 2 * k) := by
      rw [show (13 : Int32) * nI g = nI (13 * g) from by rw [Int32.mul_comm, show (13 : Int32) = nI 13 from rfl, pk_mul, Nat.mul_comm], show (2 : Int32) * nI k = nI (2 * k) from by rw [Int32.mul_comm, show (2 : Int32) = nI 2 from rfl, pk_mul, Nat.mul_comm], show (127 : Int32) = nI 127 from rfl, show (5 : Int32) = nI 5 from rfl, nI_add, nI_add, nI_add]
    rw [e1, bnS_1, i1, m_letters h (by omega) hwd (by omega), bnP_1, nI_a1]
    rfl) (by
    unfold fX10_writesInner_l1
    rw [show fX10_ofWord (some 80) (nI g) 4 (wi σ (mtG G (inT (G 81) mm g T (wN' (G 81) g)))) = _ from m_ofWord h g 4 (by omega), bnP_1, mt_81, hi.1, if_pos (nI_le (Nat.le_refl _) (by have := hi.2; omega))])
  unfold fX10_writesInner
  rw [mk_o h, bnP_1, key, bnS_1]
theorem cv_4 (hw : WFN N) (ha : a < nAc N) (h1 : aF N a ≤ g) (h2 : g < aF N a + aM N a) : cntV (cF N) (aK N a) (aC N a) g ≤ 4 ∧ cntV (cT N) (aK N a) (aC N a) g ≤ 4 := by
  have hc := ((hw.2.2.1 a ha).2 g h1 h2).2.2
  have cl := (hw.2.2.1 a ha).1
  refine ⟨Nat.le_trans (cntN_mono fun i hi e => ?_) hc, Nat.le_trans (cntN_mono fun i hi e => ?_) hc⟩
  · have e := of_decide_eq_true e
    have := (cl (aK N a + i) (by omega) (by omega)).2.2.2.2.1
    rw [decide_eq_true (show cF N (aK N a + i) ≤ g by omega), decide_eq_true (show g ≤ cT N (aK N a + i) by omega)]
    rfl
  · have e := of_decide_eq_true e
    have := (cl (aK N a + i) (by omega) (by omega)).2.2.2.2.1
    rw [decide_eq_true (show cF N (aK N a + i) ≤ g by omega), decide_eq_true (show g ≤ cT N (aK N a + i) by omega)]
    rfl
theorem m_opening (h : MK σ 80) (hw : WFN (G 81)) (ha : a < nAc (G 81)) (h1 : aF (G 81) a ≤ g) (h2 : g < aF (G 81) a + aM (G 81) a) (hT : T.1 + 8 ≤ 20000) : fX10_writesOpening (some 80) (nI a) (nI g) (wi σ (mtG G T)) = some (wi σ (mtG G (tS T 40 (cntV (cF (G 81)) (aK (G 81) a) (aC (G 81) a) g)))) := by
  have hb := w1_b hw.1
  have kb := w3_kb hw.2.1 hw.1 ha
  have hl := act_le hw.1 hw.2.1 ha
  have h4 := (cv_4 hw ha h1 h2).1
  have w2 := hw.2.1.2 a ha
  have e7 : (G 81) (9 + 9 * a + 7) = nI (aK (G 81) a) := w2.2.1.2.2.1.1
  have e8 : (G 81) (9 + 9 * a + 8) = nI (aC (G 81) a) := w2.2.1.2.2.2.1
  have mono : ∀ k, k ≤ aC (G 81) a → cntN (fun i => decide (cF (G 81) (aK (G 81) a + i) = g)) k ≤ 4 := fun k hk => Nat.le_trans (cntN_ple hk) h4
  have key := lpS_f (f := fX10_writesOpening_l1 (some 80) (nI a) (nI g)) (a := 0) (σ := wi σ (mtG G T)) (r := ()) (aC (G 81) a) (fun k => nI k) (fun k => wi σ (mtG G (tS T 40 (cntN (fun i => decide (cF (G 81) (aK (G 81) a + i) = g)) k)))) rfl rfl (by have := w2.2.1.2.2.2.2; omega) (fun k hk => by
    have hc := mono k (by omega)
    have hc1 := mono (k + 1) (by omega)
    have hs : cntN (fun i => decide (cF (G 81) (aK (G 81) a + i) = g)) (k + 1) = cntN (fun i => decide (cF (G 81) (aK (G 81) a + i) = g)) k + (if decide (cF (G 81) (aK (G 81) a + k) = g) = true then 1 else 0) := rfl
    have ht := tS_1 T 40 (cntN (fun i => decide (cF (G 81) (aK (G 81) a + i) = g)) k)
    have hB := tB_1 (tS T 40 (cntN (fun i => decide (cF (G 81) (aK (G 81) a + i) = g)) k))
    have i0 := ((hw.2.2.1 a ha).1 (aK (G 81) a + k) (by omega) (by omega)).1
    have i02 : cF (G 81) (aK (G 81) a + k) < 241 := i0.2
    unfold fX10_writesOpening_l1
    rw [show fX10_ofAct (some 80) (nI a) 8 (wi σ (mtG G (tS T 40 (cntN (fun i => decide (cF (G 81) (aK (G 81) a + i) = g)) k)))) = _ from m_ofAct h a 8 (by omega), bnP_1, mt_81, e8, if_neg (nI_ge hk (by omega)), show fX10_ofAct (some 80) (nI a) 7 (wi σ (mtG G (tS T 40 (cntN (fun i => decide (cF (G 81) (aK (G 81) a + i) = g)) k)))) = _ from m_ofAct h a 7 (by omega), bnP_1, mt_81, e7, nI_add, show fX10_ofClause (some 80) (nI (aK (G 81) a + k)) 0 (wi σ (mtG G (tS T 40 (cntN (fun i => decide (cF (G 81) (aK (G 81) a + i) = g)) k)))) = some (mtG G (tS T 40 (cntN (fun i => decide (cF (G 81) (aK (G 81) a + i) = g)) k)) (80 + 1) (3247 + 3 * (aK (G 81) a + k))) from m_ofClause h _ 0 (by omega), bnP_1, mt_81, i0.1, nI_a1]
    by_cases z : cF (G 81) (aK (G 81) a + k) = g
    · rw [decide_eq_true z, if_pos rfl] at hs
      rw [if_pos (congrArg nI z), m_blank h (by omega), bnP_1, show (40 : Int32) = nI 40 from rfl, m_byte h (by omega) (by decide), bnP_1, hs]
      rfl
    · rw [decide_eq_false z, if_neg (by decide)] at hs
      rw [if_neg (fun e => z ((nI_eq (by omega) (by omega)).mp e)), hs]
      rfl) (by
    unfold fX10_writesOpening_l1
    rw [show fX10_ofAct (some 80) (nI a) 8 (wi σ (mtG G (tS T 40 (cntN (fun i => decide (cF (G 81) (aK (G 81) a + i) = g)) (aC (G 81) a))))) = _ from m_ofAct h a 8 (by omega), bnP_1, mt_81, e8, if_pos (nI_le (Nat.le_refl _) (by omega))])
  unfold fX10_writesOpening
  rw [mk_o h, bnP_1, key, bnS_1]
  rfl
theorem m_closing (h : MK σ 80) (hw : WFN (G 81)) (ha : a < nAc (G 81)) (h1 : aF (G 81) a ≤ g) (h2 : g < aF (G 81) a + aM (G 81) a) (hT : T.1 + 8 ≤ 20000) : fX10_writesClosing (some 80) (nI a) (nI g) (wi σ (mtG G T)) = some (wi σ (mtG G (tS T 41 (cntV (cT (G 81)) (aK (G 81) a) (aC (G 81) a) g)))) := by
  have hb := w1_b hw.1
  have kb := w3_kb hw.2.1 hw.1 ha
  have hl := act_le hw.1 hw.2.1 ha
  have h4 := (cv_4 hw ha h1 h2).2
  have w2 := hw.2.1.2 a ha
  have e7 : (G 81) (9 + 9 * a + 7) = nI (aK (G 81) a) := w2.2.1.2.2.1.1
  have e8 : (G 81) (9 + 9 * a + 8) = nI (aC (G 81) a) := w2.2.1.2.2.2.1
  have mono : ∀ k, k ≤ aC (G 81) a → cntN (fun i => decide (cT (G 81) (aK (G 81) a + i) = g)) k ≤ 4 := fun k hk => Nat.le_trans (cntN_ple hk) h4
  have key := lpS_f (f := fX10_writesClosing_l1 (some 80) (nI a) (nI g)) (a := 0) (σ := wi σ (mtG G T)) (r := ()) (aC (G 81) a) (fun k => nI k) (fun k => wi σ (mtG G (tS T 41 (cntN (fun i => decide (cT (G 81) (aK (G 81) a + i) = g)) k)))) rfl rfl (by have := w2.2.1.2.2.2.2; omega) (fun k hk => by
    have hc := mono k (by omega)
    have hc1 := mono (k + 1) (by omega)
    have hs : cntN (fun i => decide (cT (G 81) (aK (G 81) a + i) = g)) (k + 1) = cntN (fun i => decide (cT (G 81) (aK (G 81) a + i) = g)) k + (if decide (cT (G 81) (aK (G 81) a + k) = g) = true then 1 else 0) := rfl
    have ht := tS_1 T 41 (cntN (fun i => decide (cT (G 81) (aK (G 81) a + i) = g)) k)
    have hB := tB_1 (tS T 41 (cntN (fun i => decide (cT (G 81) (aK (G 81) a + i) = g)) k))
    have i0 := ((hw.2.2.1 a ha).1 (aK (G 81) a + k) (by omega) (by omega)).2.1
    have i02 : cT (G 81) (aK (G 81) a + k) < 241 := i0.2
    unfold fX10_writesClosing_l1
    rw [show fX10_ofAct (some 80) (nI a) 8 (wi σ (mtG G (tS T 41 (cntN (fun i => decide (cT (G 81) (aK (G 81) a + i) = g)) k)))) = _ from m_ofAct h a 8 (by omega), bnP_1, mt_81, e8, if_neg (nI_ge hk (by omega)), show fX10_ofAct (some 80) (nI a) 7 (wi σ (mtG G (tS T 41 (cntN (fun i => decide (cT (G 81) (aK (G 81) a + i) = g)) k)))) = _ from m_ofAct h a 7 (by omega), bnP_1, mt_81, e7, nI_add, show fX10_ofClause (some 80) (nI (aK (G 81) a + k)) 1 (wi σ (mtG G (tS T 41 (cntN (fun i => decide (cT (G 81) (aK (G 81) a + i) = g)) k)))) = _ from m_ofClause h _ 1 (by omega), bnP_1, mt_81, i0.1, nI_a1]
    by_cases z : cT (G 81) (aK (G 81) a + k) = g
    · rw [decide_eq_true z, if_pos rfl] at hs
      rw [if_pos (congrArg nI z), m_blank h (by omega), bnP_1, show (41 : Int32) = nI 41 from rfl, m_byte h (by omega) (by decide), bnP_1, hs]
      rfl
    · rw [decide_eq_false z, if_neg (by decide)] at hs
      rw [if_neg (fun e => z ((nI_eq (by omega) (by omega)).mp e)), hs]
      rfl) (by
    unfold fX10_writesClosing_l1
    rw [show fX10_ofAct (some 80) (nI a) 8 (wi σ (mtG G (tS T 41 (cntN (fun i => decide (cT (G 81) (aK (G 81) a + i) = g)) (aC (G 81) a))))) = _ from m_ofAct h a 8 (by omega), bnP_1, mt_81, e8, if_pos (nI_le (Nat.le_refl _) (by omega))])
  unfold fX10_writesClosing
  rw [mk_o h, bnP_1, key, bnS_1]
  rfl
theorem m_word (h : MK σ 80) (hw : WFN (G 81)) (w5 : W5 (G 81)) (mk : Bool) (hg : g < nWd (G 81)) (hT : T.1 + 10 ≤ 20000) : fX10_writesWord (some 80) (nI g) (bI mk) (wi σ (mtG G T)) = some (wi σ (mtG G (wdT (G 81) mk g T))) := by
  have hb := w1_b hw.1
  have hB := tB_1 T
  obtain ⟨w, hwd⟩ := (w5 g hg).1
  unfold fX10_writesWord wdT
  rw [mk_o h, bnP_1, m_blank h (by omega), bnP_1, m_isKnown h (by rw [mt_81]; exact hw) (by rw [mt_81]; exact hg), bnP_1, mt_81]
  cases e : knN (G 81) g
  · rw [if_neg (by decide), if_neg (by decide), show (63 : Int32) = nI 63 from rfl, m_byte h (by omega) (by decide), bnP_1]
  · rw [if_pos rfl, if_pos rfl]
    have e1 : (if bI mk = 0 then some ((), wi σ (mtG G (tB T))) else bnP (fX10_stands (some 80) (nI g) (wi σ (mtG G (tB T)))) (fun x11 => (if x11 = true then some ((), wi σ (mtG G (tB T))) else bnP (fX10_writesByte (some 80) 45 (wi σ (mtG G (tB T)))) (fun s15 => some ((), s15))))) = some ((), wi σ (mtG G (if (mk && !skN (G 81) g) = true then tA (tB T) 45 else tB T))) := by
      cases mk
      · rw [if_pos (show bI false = 0 from rfl), Bool.false_and, if_neg (by decide)]
      · rw [if_neg (show ¬ bI true = 0 by decide), m_stands h (by omega), bnP_1, mt_81, Bool.true_and]
        cases e2 : skN (G 81) g
        · rw [if_neg (by decide), show (45 : Int32) = nI 45 from rfl, m_byte h (by omega) (by decide), bnP_1, if_pos (show (!false) = true from rfl)]
        · rw [if_pos rfl, if_neg (by decide)]
    have hl : (if (mk && !skN (G 81) g) = true then tA (tB T) 45 else tB T).1 ≤ T.1 + 2 := by
      split
      · show (tB T).1 + 1 ≤ _
        omega
      · omega
    have i1 : 127 + 13 * nI g = nI (127 + 13 * g) := by
      rw [show (13 : Int32) * nI g = nI (13 * g) from by rw [Int32.mul_comm, show (13 : Int32) = nI 13 from rfl, pk_mul, Nat.mul_comm], show (127 : Int32) = nI 127 from rfl, nI_add]
    rw [e1, bnS_1, i1, m_letters h (by omega) hwd (by omega), bnP_1]
end MTX
