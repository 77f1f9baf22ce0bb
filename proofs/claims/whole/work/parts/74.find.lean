/-! THE PURE LEVEL, 34: words of the buffer; FINDWORD -/
/-- is it a letter -/
def ltB (v : Int32) : Bool := inR v (nI 97) (nI 122)
def lf (f : Nat → Int32) (k : Nat) : Nat := (f k).toNatClampNeg - 96
/-- are the first n bytes a word -/
def iwB (f : Nat → Int32) (n : Nat) : Bool := (fuN (fun k => !ltB (f k)) n).isNone && (decide (1 ≤ n) && decide (n ≤ 8))
theorem ltB_t {v : Int32} (h : ltB v = true) : v = nI (96 + (v.toNatClampNeg - 96)) ∧ 1 ≤ v.toNatClampNeg - 96 ∧ v.toNatClampNeg - 96 ≤ 26 := by
  unfold ltB at h
  obtain ⟨a, rfl, h1, h2⟩ := inR_t (by decide) (by decide) h
  rw [nI_clamp (by omega)]
  exact ⟨congrArg nI (by omega), by omega, by omega⟩
theorem c_isLetter {σ : HpT} (v : Int32) : fX9_isLetter v σ = some (ltB v) := by
  unfold fX9_isLetter ltB inR
  by_cases h1 : v < 97
  · rw [if_pos h1, show decide (nI 97 ≤ v) = false from decide_eq_false (Int32.not_le.mpr h1), Bool.false_and]
  · rw [if_neg h1, show decide (nI 97 ≤ v) = true from decide_eq_true (Int32.not_lt.mp h1), Bool.true_and]
    by_cases h2 : 122 < v
    · rw [if_pos h2, show decide (v ≤ nI 122) = false from decide_eq_false (Int32.not_le.mpr h2)]
    · rw [if_neg h2, show decide (v ≤ nI 122) = true from decide_eq_true (Int32.not_lt.mp h2)]
theorem c_joined {σ : HpT} {P x : Nat} (hx : x < 256) (hp : P * 256 + x < 2 ^ 64) : fX9_joined (lN P) (nI x) σ = some (lN (P * 256 + x)) := by
  unfold fX9_joined
  rw [show Nat.toInt64 8 = (nI 8).toInt64 by decide, wb_shl P (by decide), nI_l (by omega), show 2 ^ 8 = 256 from rfl, g_or (k := 8) rfl hx hp]
/-- a part of a word of the buffer -/
theorem m_partOf {σ : HpT} {G : Nat → Nat → Int32} {m : Nat} (h : MK σ m) {at0 n : Nat} {f : Nat → Nat} (hn : n ≤ 8) (ha : at0 + n ≤ 600) (hf : ∀ k, k < n → G (m + 6) (at0 + k) = nI (96 + f k) ∧ 1 ≤ f k ∧ f k ≤ 26) (p : Nat) (hp : p < 2) : fX10_partOf (some m) (nI at0) (nI n) (nI p) (wi σ G) = some (nI (if p = 0 then (enL5 f n).1 else (enL5 f n).2)) := by
  have hb : ∀ k, eL f n k ≤ 26 := fun k => eL_le (fun k hk => (hf k hk).2) k
  have one : ∀ k x, k < 4 → fX10_partOf_l1 (some m) (nI at0) (nI n) (nI p) (wi σ G) (nI x, nI k) = some (.inl (nI (32 * x + eL f n (4 * p + k)), nI k + nO)) := fun k x hk => by
    unfold fX10_partOf_l1 fX10_valueOf
    dsimp only
    rw [if_neg (nI_lt0 (by omega)), li_4, pk_mul, nI_add, li_32, pk_mul]
    unfold eL
    by_cases q : 4 * p + k < n
    · obtain ⟨e1, e2, e3⟩ := hf (4 * p + k) q
      rw [if_neg (nI_ge q (by omega)), mk_r6 h, bnP_1, nI_add, nI_add, show at0 + 4 * p + k = at0 + (4 * p + k) by omega, mk_a6 h (by omega), bnP_1, e1, bnP_1, if_pos q, li_97, nI_sub (by omega), nI_a1, nI_add, show 96 + f (4 * p + k) - 97 + 1 = f (4 * p + k) by omega]
      rfl
    · rw [if_pos (nI_le (by omega) (by omega)), if_neg q]
      show some (Sum.inl (nI (32 * x) + nI 0, nI k + nO)) = _
      rw [nI_add]
  have b0 := hb (4 * p + 0)
  have b1 := hb (4 * p + 1)
  have b2 := hb (4 * p + 2)
  have b3 := hb (4 * p + 3)
  unfold fX10_partOf
  have e : lpP (fX10_partOf_l1 (some m) (nI at0) (nI n) (nI p) (wi σ G)) FUEL (0, 3) = some (nI (if p = 0 then (enL5 f n).1 else (enL5 f n).2)) := by
    show lpP (fX10_partOf_l1 (some m) (nI at0) (nI n) (nI p) (wi σ G)) (199995 + 1 + 1 + 1 + 1 + 1) (nI 0, nI 3) = _
    rw [lpP_s _ (one 3 0 (by decide)), show nI 3 + nO = nI 2 by decide, lpP_s _ (one 2 _ (by decide)), show nI 2 + nO = nI 1 by decide, lpP_s _ (one 1 _ (by decide)), show nI 1 + nO = nI 0 by decide, lpP_s _ (one 0 _ (by decide)), show nI 0 + nO = nO by decide]
    rw [lpP_e (r := nI (32 * (32 * (32 * (32 * 0 + eL f n (4 * p + 3)) + eL f n (4 * p + 2)) + eL f n (4 * p + 1)) + eL f n (4 * p + 0))) _ (by
      unfold fX10_partOf_l1
      exact if_pos (show nO < 0 by decide))]
    refine congrArg (fun x => some (nI x)) ?_
    have hp : p = 0 ∨ p = 1 := by omega
    rcases hp with rfl | rfl
    · rw [if_pos rfl, enL5_1]
      show 32 * (32 * (32 * (32 * 0 + eL f n 3) + eL f n 2) + eL f n 1) + eL f n 0 = _
      omega
    · rw [if_neg (by decide), enL5_2]
      show 32 * (32 * (32 * (32 * 0 + eL f n 7) + eL f n 6) + eL f n 5) + eL f n 4 = _
      omega
  rw [mk_o h, bnP_1, e, bnP_1]
theorem m_areLetters {σ : HpT} {G : Nat → Nat → Int32} {m : Nat} (h : MK σ m) {n : Nat} (hn : n ≤ 600) : fX10_areLetters (some m) (nI n) (wi σ G) = some (iwB (G (m + 6)) n) := by
  unfold fX10_areLetters iwB
  have step : ∀ k, k < n → fX10_areLetters_l1 (some m) (nI n) (wi σ G) (nI k) = (if (!ltB (G (m + 6) k)) = true then some (.inr (.inr false)) else some (.inl (nI (k + 1)))) := fun k hk => by
    unfold fX10_areLetters_l1
    rw [if_neg (nI_ge hk (by omega)), mk_r6 h, bnP_1, mk_a6 h (by omega), bnP_1, m_in, bnP_1, nI_a1]
    show (if ltB (G (m + 6) k) = true then _ else _) = _
    cases ltB (G (m + 6) k) <;> rfl
  cases e1 : fuN (fun k => !ltB (G (m + 6) k)) n with
  | none =>
    have e2 : lpP (fX10_areLetters_l1 (some m) (nI n) (wi σ G)) FUEL 0 = some (.inl ()) := by
      refine lpP_f n (fun k => nI k) rfl (by omega) (fun k hk => ?_) ?_
      · rw [step k hk, fuN_none e1 k hk]
        rfl
      · unfold fX10_areLetters_l1
        rw [if_pos (nI_le (Nat.le_refl _) (by omega))]
    rw [mk_o h, bnP_1, e2, bnP_1]
    show bnP (fX10_in (nI n) 1 8 (wi σ G)) _ = _
    rw [m_in, bnP_1]
    show some (inR (nI n) (nI 1) (nI 8)) = _
    rw [inR_nI (by omega) (by decide) (by decide)]
    rfl
  | some j =>
    obtain ⟨h3, h4, h5⟩ := fuN_some e1
    have e2 : lpP (fX10_areLetters_l1 (some m) (nI n) (wi σ G)) FUEL 0 = some (.inr false) := by
      refine lpP_f j (fun k => nI k) rfl (by omega) (fun k hk => ?_) ?_
      · rw [step k (by omega), h5 k hk]
        rfl
      · rw [step j h3, h4]
        rfl
    rw [mk_o h, bnP_1, e2, bnP_1]
    rfl
/-- does a word stand interlined behind g; does it stand at g -/
def inB (N : Nat → Int32) (lo hi : Int32) (g : Nat) : Bool := (fuN (fun j => decide (N (127 + 13 * g + 5 + 2 * j) = lo) && decide (N (127 + 13 * g + 5 + 2 * j + 1) = hi)) (wN' N g)).isSome
def siB (N : Nat → Int32) (a : Nat) (lo hi : Int32) : Bool := (fuN (fun k => inB N lo hi (aF N a + k)) (aM N a)).isSome
def saB (N : Nat → Int32) (lo hi : Int32) (g : Nat) : Bool := wsB N lo hi g || inB N lo hi g
def fwQ (N : Nat → Int32) (lo hi : Int32) : Int32 := match fuN (fun a => swB N a lo hi || siB N a lo hi) (nAc N) with
  | none => 0
  | some a => nI (a + 1)
theorem isSome_t {p : Nat → Bool} {n : Nat} (h : (fuN p n).isSome = true) : ∃ k, k < n ∧ p k = true := by
  cases e : fuN p n with
  | none => rw [e] at h; cases h
  | some k => exact ⟨k, (fuN_some e).1, (fuN_some e).2.1⟩
theorem isSome_f {p : Nat → Bool} {n : Nat} (h : (fuN p n).isSome = false) : ∀ k, k < n → p k = false := by
  cases e : fuN p n with
  | none => exact fuN_none e
  | some k => rw [e] at h; cases h
theorem isSome_of {p : Nat → Bool} {n k : Nat} (hk : k < n) (h : p k = true) : (fuN p n).isSome = true := by
  cases e : (fuN p n).isSome
  · rw [isSome_f e k hk] at h
    cases h
  · rfl
section FND
variable {σ : HpT} {G G' : Nat → Nat → Int32} {J J' : Nat → Nat → Int64} {o b m d bs ps tx : Nat} {P : Nat → Option Nat} {E : tE} {I I' T : tI} {N : Nat → Int32} {U : tU} {V : tV}
theorem c_standsInter (h : BK σ b) (hw : WFN N) (r : RB G J b N) {a : Nat} (ha : a < nAc N) {lo hi : Int32} {w : Int64} (wd : wdR lo hi w) : fX8_standsInterlined (some (b + 3)) (some (b + 15 + a)) w (wc σ G J) = some (siB N a lo hi) := by
  have hb := w1_b hw.1
  obtain ⟨p1, p2, p3, p4, p5⟩ := (act_ok hw.1 hw.2.1 ha).1
  have hle : aF N a + aM N a ≤ nWd N := act_le hw.1 hw.2.1 ha
  have hr := rb_act r ha
  unfold fX8_standsInterlined siB
  have inner : ∀ g, g < nWd N → lpP (fX8_standsInterlined_l2 (some (b + 3)) (some (b + 15 + a)) w (nI g) (wc σ G J)) FUEL 0 = some (if inB N lo hi g = true then .inr true else .inl ()) := fun g hg => by
    have e4 : N (127 + 13 * g + 4) = nI (wN' N g) := (hw.2.2.2.1 g hg).1.1
    have e5 : wN' N g < 5 := (hw.2.2.2.1 g hg).1.2
    have step : ∀ j, j < wN' N g → fX8_standsInterlined_l2 (some (b + 3)) (some (b + 15 + a)) w (nI g) (wc σ G J) (nI j) = (if (decide (N (127 + 13 * g + 5 + 2 * j) = lo) && decide (N (127 + 13 * g + 5 + 2 * j + 1) = hi)) = true then some (.inr (.inr true)) else some (.inl (nI (j + 1)))) := fun j hj => by
      have wg := rb_is r hg hj
      unfold fX8_standsInterlined_l2
      rw [sk_r5 (bk_S h), bnP_1, sk_a5 (bk_S h) (by omega), bnP_1, rb_in r hg, e4, if_neg (nI_ge hj (by omega)), c_insertOf h hw r hg, bnP_1, e4, inN_e (by omega) (by omega), decide_eq_true hj, if_pos rfl, nI_clamp (by omega), nI_a1]
      by_cases z2 : N (127 + 13 * g + 5 + 2 * j) = lo ∧ N (127 + 13 * g + 5 + 2 * j + 1) = hi
      · rw [if_pos ((lg_cmp_eq _ _).mpr ((wd_eq wg wd).mpr z2)), decide_eq_true z2.1, decide_eq_true z2.2]
        rfl
      · rw [if_neg (fun q => z2 ((wd_eq wg wd).mp ((lg_cmp_eq _ _).mp q)))]
        by_cases z3 : N (127 + 13 * g + 5 + 2 * j) = lo
        · rw [decide_eq_false (fun q => z2 ⟨z3, q⟩), Bool.and_false]
          rfl
        · rw [decide_eq_false z3, Bool.false_and]
          rfl
    unfold inB
    cases e1 : fuN (fun j => decide (N (127 + 13 * g + 5 + 2 * j) = lo) && decide (N (127 + 13 * g + 5 + 2 * j + 1) = hi)) (wN' N g) with
    | none =>
      refine lpP_f (wN' N g) (fun k => nI k) rfl (by omega) (fun k hk => ?_) ?_
      · rw [step k hk, fuN_none e1 k hk]
        rfl
      · unfold fX8_standsInterlined_l2
        rw [sk_r5 (bk_S h), bnP_1, sk_a5 (bk_S h) (by omega), bnP_1, rb_in r hg, e4, if_pos (nI_le (Nat.le_refl _) (by omega))]
        rfl
    | some j =>
      obtain ⟨h3, h4, h5⟩ := fuN_some e1
      refine lpP_f j (fun k => nI k) rfl (by omega) (fun k hk => ?_) ?_
      · rw [step k (by omega), h5 k hk]
        rfl
      · rw [step j h3, h4]
        rfl
  have step : ∀ k, k < aM N a → fX8_standsInterlined_l1 (some (b + 3)) (some (b + 15 + a)) w (wc σ G J) (nI (aF N a + k)) = (if inB N lo hi (aF N a + k) = true then some (.inr (.inr true)) else some (.inl (nI (aF N a + (k + 1))))) := fun k hk => by
    unfold fX8_standsInterlined_l1
    rw [bk_aI h p1, bnP_1, bk_aI h p1, bnP_1, hr.2.2.2.2.2.1, hr.2.2.2.2.2.2.1, p2, p3, nI_add, if_neg (nI_ge (by omega) (by omega)), inner _ (by omega), bnP_1, nI_a1]
    cases inB N lo hi (aF N a + k) <;> rfl
  cases e1 : fuN (fun k => inB N lo hi (aF N a + k)) (aM N a) with
  | none =>
    have e2 : lpP (fX8_standsInterlined_l1 (some (b + 3)) (some (b + 15 + a)) w (wc σ G J)) FUEL (nI (aF N a)) = some (.inl ()) := by
      refine lpP_f (aM N a) (fun k => nI (aF N a + k)) rfl (by omega) (fun k hk => ?_) ?_
      · rw [step k hk, fuN_none e1 k hk]
        rfl
      · unfold fX8_standsInterlined_l1
        rw [bk_aI h p1, bnP_1, bk_aI h p1, bnP_1, hr.2.2.2.2.2.1, hr.2.2.2.2.2.2.1, p2, p3, nI_add, if_pos (nI_le (Nat.le_refl _) (by omega))]
    rw [sk_o (bk_S h), bnP_1, bk_aI h p1, bnP_1, hr.2.2.2.2.2.1, p2, e2, bnP_1]
    rfl
  | some j =>
    obtain ⟨h3, h4, h5⟩ := fuN_some e1
    have e2 : lpP (fX8_standsInterlined_l1 (some (b + 3)) (some (b + 15 + a)) w (wc σ G J)) FUEL (nI (aF N a)) = some (.inr true) := by
      refine lpP_f j (fun k => nI (aF N a + k)) rfl (by omega) (fun k hk => ?_) ?_
      · rw [step k (by omega), h5 k hk]
        rfl
      · rw [step j h3, h4]
        rfl
    rw [sk_o (bk_S h), bnP_1, bk_aI h p1, bnP_1, hr.2.2.2.2.2.1, p2, e2, bnP_1]
    rfl
theorem c_firstActWith (h : BK σ b) (hw : WFN N) (r : RB G J b N) {lo hi : Int32} {w : Int64} (wd : wdR lo hi w) : fX1_firstActWith (some b) w (wc σ G J) = some (fwQ N lo hi) := by
  have hb := w1_b hw.1
  unfold fX1_firstActWith fwQ
  have step : ∀ k, k < nAc N → fX1_firstActWith_l1 (some b) w (wc σ G J) (nI k) = (if (swB N k lo hi || siB N k lo hi) = true then some (.inr (.inr (nI (k + 1)))) else some (.inl (nI (k + 1)))) := fun k hk => by
    unfold fX1_firstActWith_l1
    rw [bk_I h, bnP_1, rb_n r hw.1, if_neg (nI_ge (by omega) (by omega)), bk_r8 h, bnP_1, bk_r6 h, bnP_1, bk_aR h (by omega), bnP_1, c_standsWritten h hw r hk wd, bnP_1, nI_a1]
    cases swB N k lo hi
    · rw [if_neg (by decide), bnP_1, bnP_1, bk_aR h (by omega), bnP_1, c_standsInter h hw r hk wd, bnP_1, Bool.false_or]
    · rfl
  cases e1 : fuN (fun a => swB N a lo hi || siB N a lo hi) (nAc N) with
  | none =>
    have e2 : lpP (fX1_firstActWith_l1 (some b) w (wc σ G J)) FUEL 0 = some (.inl ()) := by
      refine lpP_f (nAc N) (fun k => nI k) rfl (by omega) (fun k hk => ?_) ?_
      · rw [step k hk, fuN_none e1 k hk]
        rfl
      · unfold fX1_firstActWith_l1
        rw [bk_I h, bnP_1, rb_n r hw.1, if_pos (nI_le (Nat.le_refl _) (by omega))]
    rw [bk_o h, bnP_1, e2, bnP_1]
  | some j =>
    obtain ⟨h3, h4, h5⟩ := fuN_some e1
    have e2 : lpP (fX1_firstActWith_l1 (some b) w (wc σ G J)) FUEL 0 = some (.inr (nI (j + 1))) := by
      refine lpP_f j (fun k => nI k) rfl (by omega) (fun k hk => ?_) ?_
      · rw [step k (by omega), h5 k hk]
        rfl
      · rw [step j h3, h4]
        rfl
    rw [bk_o h, bnP_1, e2, bnP_1]
theorem m_standsAt (h : MK σ m) (hw : WFN (G (m + 1))) {g : Nat} (hg : g < nWd (G (m + 1))) (lo hi : Int32) : fX10_standsAt (some m) (nI g) lo hi (wi σ G) = some (saB (G (m + 1)) lo hi g) := by
  have hb := w1_b hw.1
  have e4 : G (m + 1) (127 + 13 * g + 4) = nI (wN' (G (m + 1)) g) := (hw.2.2.2.1 g hg).1.1
  have e5 : wN' (G (m + 1)) g < 5 := (hw.2.2.2.1 g hg).1.2
  have ei : (127 : Int32) + 13 * nI g = nI (127 + 13 * g) := by rw [li_127, li_13, pk_mul, nI_add]
  have inner : ∀ f : Option Nat → Int32 → Int32 → Int32 → Int32 → HpT → Int32 → Option ((Int32) ⊕ ((Unit) ⊕ (Bool))), (∀ j, f (some m) (nI g) lo hi (nI (127 + 13 * g)) (wi σ G) (nI j) = bnP (fX10_ofWord (some m) (nI g) 4 (wi σ G)) (fun x13 => (if x13 ≤ nI j then some (.inr (.inl ())) else bnP (fX10_isAlike (some m) ((nI (127 + 13 * g) + 5) + (2 * nI j)) lo hi (wi σ G)) (fun x15 => (if x15 = true then some (.inr (.inr true)) else some (.inl (nI j + 1))))))) → lpP (f (some m) (nI g) lo hi (nI (127 + 13 * g)) (wi σ G)) FUEL 0 = some (if inB (G (m + 1)) lo hi g = true then .inr true else .inl ()) := fun f hf => by
    have step : ∀ j, j < wN' (G (m + 1)) g → f (some m) (nI g) lo hi (nI (127 + 13 * g)) (wi σ G) (nI j) = (if (decide (G (m + 1) (127 + 13 * g + 5 + 2 * j) = lo) && decide (G (m + 1) (127 + 13 * g + 5 + 2 * j + 1) = hi)) = true then some (.inr (.inr true)) else some (.inl (nI (j + 1)))) := fun j hj => by
      rw [hf, li_4, m_ofWord h g 4 (by omega), bnP_1, e4, if_neg (nI_ge hj (by omega)), li_5, nI_add, li_2, pk_mul, nI_add, m_isAlike h (by omega), bnP_1, nI_a1]
    unfold inB
    cases e1 : fuN (fun j => decide (G (m + 1) (127 + 13 * g + 5 + 2 * j) = lo) && decide (G (m + 1) (127 + 13 * g + 5 + 2 * j + 1) = hi)) (wN' (G (m + 1)) g) with
    | none =>
      refine lpP_f (wN' (G (m + 1)) g) (fun k => nI k) rfl (by omega) (fun k hk => ?_) ?_
      · rw [step k hk, fuN_none e1 k hk]
        rfl
      · rw [hf, li_4, m_ofWord h g 4 (by omega), bnP_1, e4, if_pos (nI_le (Nat.le_refl _) (by omega))]
        rfl
    | some j =>
      obtain ⟨h3, h4, h5⟩ := fuN_some e1
      refine lpP_f j (fun k => nI k) rfl (by omega) (fun k hk => ?_) ?_
      · rw [step k (by omega), h5 k hk]
        rfl
      · rw [step j h3, h4]
        rfl
  unfold fX10_standsAt saB wsB
  rw [mk_o h, bnP_1, m_stands h (by omega), bnP_1]
  cases z : skN (G (m + 1)) g
  · rw [if_neg (by decide), ei, inner fX10_standsAt_l1 (fun j => rfl), bnP_1, Bool.false_and, Bool.false_or]
    cases inB (G (m + 1)) lo hi g <;> rfl
  · rw [if_pos rfl, ei, m_isAlike h (by omega), bnP_1, Bool.true_and]
    show (if (decide (G (m + 1) (127 + 13 * g) = lo) && decide (G (m + 1) (127 + 13 * g + 1) = hi)) = true then some true else _) = _
    cases decide (G (m + 1) (127 + 13 * g) = lo) && decide (G (m + 1) (127 + 13 * g + 1) = hi)
    · rw [if_neg (by decide), inner fX10_standsAt_l2 (fun j => rfl), bnP_1, Bool.false_or]
      cases inB (G (m + 1)) lo hi g <;> rfl
    · rfl
theorem m_actWith (h : MK σ m) (hw : WFN (G (m + 1))) (lo hi : Int32) : fX10_actWith (some m) lo hi (wi σ G) = some (fwQ (G (m + 1)) lo hi) := by
  have hb := w1_b hw.1
  have he := w1_e hw.1
  unfold fX10_actWith
  have step0 : ∀ k, k < nWd (G (m + 1)) → saB (G (m + 1)) lo hi k = false → fX10_actWith_l1 (some m) lo hi (wi σ G) (nI k) = some (.inl (nI (k + 1))) := fun k hk hs => by
    unfold fX10_actWith_l1
    rw [mk_r1 h, bnP_1, li_4, mk_a1 h (by decide), bnP_1, he.2.2.1, if_neg (nI_ge (by omega) (by omega)), m_standsAt h hw hk, bnP_1, hs, if_neg (by decide), nI_a1]
  have noAct : ∀ a, a < nAc (G (m + 1)) → (∀ k, k < aM (G (m + 1)) a → saB (G (m + 1)) lo hi (aF (G (m + 1)) a + k) = false) → (swB (G (m + 1)) a lo hi || siB (G (m + 1)) a lo hi) = false := fun a ha hs => by
    cases z1 : swB (G (m + 1)) a lo hi
    · cases z2 : siB (G (m + 1)) a lo hi
      · rfl
      · obtain ⟨k, hk, q⟩ := isSome_t z2
        have := hs k hk
        unfold saB at this
        rw [q, Bool.or_true] at this
        cases this
    · obtain ⟨k, hk, q⟩ := isSome_t z1
      have := hs k hk
      unfold saB at this
      rw [q, Bool.true_or] at this
      cases this
  cases e1 : fuN (saB (G (m + 1)) lo hi) (nWd (G (m + 1))) with
  | none =>
    have e2 : lpP (fX10_actWith_l1 (some m) lo hi (wi σ G)) FUEL 0 = some (.inl ()) := by
      refine lpP_f (nWd (G (m + 1))) (fun k => nI k) rfl (by omega) (fun k hk => step0 k hk (fuN_none e1 k hk)) ?_
      unfold fX10_actWith_l1
      rw [mk_r1 h, bnP_1, li_4, mk_a1 h (by decide), bnP_1, he.2.2.1, if_pos (nI_le (Nat.le_refl _) (by omega))]
    have e3 : fwQ (G (m + 1)) lo hi = 0 := by
      unfold fwQ
      cases e4 : fuN (fun a => swB (G (m + 1)) a lo hi || siB (G (m + 1)) a lo hi) (nAc (G (m + 1))) with
      | none => rfl
      | some a =>
        obtain ⟨q1, q2, -⟩ := fuN_some e4
        have hle := act_le hw.1 hw.2.1 q1
        rw [noAct a q1 (fun k hk => fuN_none e1 _ (by omega))] at q2
        cases q2
    rw [mk_o h, bnP_1, e2, bnP_1, e3]
  | some g =>
    obtain ⟨h3, h4, h5⟩ := fuN_some e1
    obtain ⟨a, a1, a2, a3, a4⟩ := act_at hw.1 hw.2.1 h3
    have e2 : lpP (fX10_actWith_l1 (some m) lo hi (wi σ G)) FUEL 0 = some (.inr (nI (a + 1))) := by
      refine lpP_f g (fun k => nI k) rfl (by omega) (fun k hk => step0 k (by omega) (h5 k hk)) ?_
      unfold fX10_actWith_l1
      rw [mk_r1 h, bnP_1, li_4, mk_a1 h (by decide), bnP_1, he.2.2.1, if_neg (nI_ge (by omega) (by omega)), m_standsAt h hw h3, bnP_1, h4, if_pos rfl, m_actOfW h hw.1 hw.2.1 a1 a2 a3, bnP_1, nI_a1]
    have e3 : fwQ (G (m + 1)) lo hi = nI (a + 1) := by
      unfold fwQ
      have q : (swB (G (m + 1)) a lo hi || siB (G (m + 1)) a lo hi) = true := by
        unfold saB at h4
        rw [Bool.or_eq_true] at h4 ⊢
        rcases h4 with h4 | h4
        · left
          exact isSome_of (p := fun k => wsB (G (m + 1)) lo hi (aF (G (m + 1)) a + k)) (k := g - aF (G (m + 1)) a) (by omega) (by show wsB _ _ _ (aF (G (m + 1)) a + (g - aF (G (m + 1)) a)) = true; rw [show aF (G (m + 1)) a + (g - aF (G (m + 1)) a) = g by omega]; exact h4)
        · right
          exact isSome_of (p := fun k => inB (G (m + 1)) lo hi (aF (G (m + 1)) a + k)) (k := g - aF (G (m + 1)) a) (by omega) (by show inB _ _ _ (aF (G (m + 1)) a + (g - aF (G (m + 1)) a)) = true; rw [show aF (G (m + 1)) a + (g - aF (G (m + 1)) a) = g by omega]; exact h4)
      rw [fuN_of (P := fun a => swB (G (m + 1)) a lo hi || siB (G (m + 1)) a lo hi) a1 q (fun k hk => noAct k (by omega) (fun i hi => h5 _ (by have := act_mono hw.1 hw.2.1 (j := k) a hk a1; omega)))]
    rw [mk_o h, bnP_1, e2, bnP_1, e3]
/-! the buffer's first word -/
def i64W (f : Nat → Int32) (n : Nat) : Int64 := if iwB f n = true then lN (pkL (lf f) n) else 0
theorem iwB_t {f : Nat → Int32} {n : Nat} (h : iwB f n = true) : 1 ≤ n ∧ n ≤ 8 ∧ ∀ k, k < n → f k = nI (96 + lf f k) ∧ 1 ≤ lf f k ∧ lf f k ≤ 26 := by
  unfold iwB at h
  rw [Bool.and_eq_true, Bool.and_eq_true, decide_eq_true_eq, decide_eq_true_eq] at h
  refine ⟨h.2.1, h.2.2, fun k hk => ?_⟩
  cases e : fuN (fun k => !ltB (f k)) n with
  | none => exact ltB_t (bnot_f (fuN_none e k hk))
  | some j =>
    rw [e] at h
    cases h.1
theorem iw_wd {f : Nat → Int32} {n : Nat} (h : iwB f n = true) : wdR (nI (enL5 (lf f) n).1) (nI (enL5 (lf f) n).2) (i64W f n) := by
  obtain ⟨h1, h2, h3⟩ := iwB_t h
  refine ⟨n, lf f, h1, h2, fun k hk => (h3 k hk).2, rfl, rfl, ?_⟩
  unfold i64W
  rw [if_pos h]
  rfl
theorem c_inputWord (hC : CR σ G J b bs ps P tx E I N U V T) (G' : Nat → Nat → Int32) (J' : Nat → Nat → Int64) {n : Nat} (hn : n ≤ 600) : fX9_inputWord (some 0) (nI n) (wc σ G' J') = some (i64W (G' 1) n) := by
  unfold fX9_inputWord i64W
  rw [cr_o hC, bnP_1]
  by_cases q : n ≤ 8
  · rw [if_pos (show nI n ≤ 8 from nI_le (show n ≤ 8 from q) (by decide))]
    have step : ∀ k, k < n → (∀ i, i < k → ltB (G' 1 i) = true) → fX9_inputWord_l1 (some 0) (nI n) (wc σ G' J') (lN (pkL (lf (G' 1)) k), nI k) = (if (!ltB (G' 1 k)) = true then some (.inr (.inr 0)) else some (.inl (lN (pkL (lf (G' 1)) (k + 1)), nI (k + 1)))) := fun k hk hs => by
      unfold fX9_inputWord_l1
      dsimp only
      rw [if_neg (nI_ge hk (by omega)), cr_r0 hC, bnP_1, cr_a1 hC _ _ (by omega), bnP_1, c_isLetter, bnP_1]
      cases z : ltB (G' 1 k)
      · rfl
      · obtain ⟨z1, z2, z3⟩ := ltB_t z
        have z1 : G' 1 k = nI (96 + lf (G' 1) k) := z1
        have z3 : lf (G' 1) k ≤ 26 := z3
        have hl := pkL_lt (f := lf (G' 1)) k (fun i hi => (ltB_t (hs i hi)).2.2)
        have h8 : 256 ^ k ≤ 256 ^ 7 := Nat.pow_le_pow_right (by decide) (by omega)
        have h87 : (256 : Nat) ^ 7 = 72057594037927936 := rfl
        rw [if_pos rfl, bnP_1, cr_a1 hC _ _ (by omega), bnP_1, z1, c_joined (by omega) (by omega), bnP_1, nI_a1]
        rfl
    cases e1 : fuN (fun k => !ltB (G' 1 k)) n with
    | none =>
      have e2 : lpP (fX9_inputWord_l1 (some 0) (nI n) (wc σ G' J')) FUEL (0, 0) = some (.inl (lN (pkL (lf (G' 1)) n))) := by
        refine lpP_f n (fun k => (lN (pkL (lf (G' 1)) k), nI k)) rfl (by omega) (fun k hk => ?_) ?_
        · rw [step k hk (fun i hi => bnot_f (fuN_none e1 i (by omega))), fuN_none e1 k hk]
          rfl
        · unfold fX9_inputWord_l1
          exact if_pos (nI_le (Nat.le_refl _) (by omega))
      rw [e2, bnP_1]
      unfold iwB
      rw [e1]
      by_cases z : 1 ≤ n
      · rw [decide_eq_true z, decide_eq_true q]
        rfl
      · rw [show n = 0 by omega]
        rfl
    | some j =>
      obtain ⟨h3, h4, h5⟩ := fuN_some e1
      have e2 : lpP (fX9_inputWord_l1 (some 0) (nI n) (wc σ G' J')) FUEL (0, 0) = some (.inr 0) := by
        refine lpP_f j (fun k => (lN (pkL (lf (G' 1)) k), nI k)) rfl (by omega) (fun k hk => ?_) ?_
        · rw [step k (by omega) (fun i hi => bnot_f (h5 i (by omega))), h5 k hk]
          rfl
        · rw [step j h3 (fun i hi => bnot_f (h5 i (by omega))), h4]
          rfl
      rw [e2, bnP_1]
      unfold iwB
      rw [e1]
      rfl
  · rw [if_neg (show ¬ nI n ≤ 8 from nI_ge (show 8 < n by omega) (by omega))]
    unfold iwB
    rw [decide_eq_false q, Bool.and_false, Bool.and_false]
    rfl
theorem c_requireBytes (hC : CR σ G J b bs ps P tx E I N U V T) (hA : AW E I N U V T) (v : Int32) : fX9_requireBytes (some 0) v (wc σ G J) = some (if inR v (nI 0) (nI I.1) = true then .ok () else .error 1) := by
  have hb := hA.1.2.1
  unfold fX9_requireBytes inR
  rw [cr_o hC, bnP_1]
  by_cases h1 : v < 0
  · rw [if_pos h1, show decide (nI 0 ≤ v) = false from decide_eq_false (Int32.not_le.mpr h1)]
    rfl
  · rw [if_neg h1, cr_I hC, bnP_1, hC.2.2.1.1, show decide (nI 0 ≤ v) = true from decide_eq_true (Int32.not_lt.mp h1)]
    by_cases h2 : v ≤ nI I.1
    · rw [if_pos h2, decide_eq_true h2]
      rfl
    · rw [if_neg h2, decide_eq_false h2]
      rfl
theorem fuN_cong {p q : Nat → Bool} : ∀ {n : Nat}, (∀ k, k < n → p k = q k) → fuN p n = fuN q n
  | 0, _ => rfl
  | n + 1, h => by
    unfold fuN
    rw [fuN_cong (n := n) (fun k hk => h k (by omega)), h n (by omega)]
theorem iwB_cong {f g : Nat → Int32} {n : Nat} (h : ∀ k, k < n → f k = g k) : iwB f n = iwB g n ∧ ∀ k, k < n → lf f k = lf g k := by
  refine ⟨?_, fun k hk => by unfold lf; rw [h k hk]⟩
  unfold iwB
  rw [fuN_cong (p := fun k => !ltB (f k)) (q := fun k => !ltB (g k)) (fun k hk => by rw [h k hk])]
theorem enL5_cong {f g : Nat → Nat} {n : Nat} (h : ∀ k, k < n → f k = g k) : enL5 f n = enL5 g n := by
  have e : eL f n = eL g n := funext fun k => by
    unfold eL
    by_cases q : k < n
    · rw [if_pos q, if_pos q, h k q]
    · rw [if_neg q, if_neg q]
  refine Prod.ext ?_ ?_
  · rw [enL5_1, enL5_1, e]
  · rw [enL5_2, enL5_2, e]
/-- case 27: FINDWORD -/
theorem sc27 (hC : CR σ G J b bs ps P tx E I N U V T) (hM : MR σ G E I N U V T) (hA : AW E I N U V T) (hD : DK σ) {Lx : Nat} {xs : Nat → Int32} {v5 v : Int32} (hx : sld Lx xs (v5 + 1) = some v) (v4 : Option Nat) : STEP σ (fL_c27 Lx xs (some 0) (some 80) (some 89) v4 v5 (wc σ G J)) := by
  have h := lo_of hC hM hA hD
  have mk := hM.1
  have i2 := hM.2.2.1.1
  have m6 := hM.2.1.1
  have c4 := hC.2.1.1
  have hb := hA.1.2.1
  have hr : G 80 6 = 0 ∨ G 80 6 = 1 := by rw [m6]; exact hA.1.1
  unfold fL_c27 fL_findWord
  simp only [hx, bnP_1]
  -- what both answer
  cases e : decide (E.1 ≠ 0)
  · have q : E.1 = 0 := by
      by_cases z : E.1 = 0
      · exact z
      · rw [decide_eq_true z] at e
        cases e
    obtain ⟨y, hy⟩ := lq_gen (σ1 := σ) (G1 := G) (G2 := up G 80 0 1) (J1 := J) (m := 80) (d := 89) (i := 1) (j := 6) (C := fX9_findWord (some 0) v (wc σ G J)) (M := fun s5 => fX10_findWord (some 80) v s5) (g := fun n3 s2 => if n3 = 0 then some (.ok 1, s2, 0, 0) else if n3 = 1 then some (.ok 2, s2, 0, 0) else none) (r := .error 0) (x := 0) h.2.2.1 h.2.1 (by
        unfold fX9_findWord
        rw [cr_o hC, bnP_1, c_requireBook h.1, if_pos (by rw [c4]; exact q), bnXA_e]) (fun J' => by
        show fX10_findWord (some 80) v (wi (wc σ G J') G) = _
        have mk' : MK (wc σ G J') 80 := mk
        unfold fX10_findWord
        rw [mk_o mk', bnP_1, mk_I mk', bnP_1, mk_I mk', bnP_1, m_in, bnP_1, m_may2 mk' hr, bnS_1, m6, e]
        rfl) ⟨by rw [up_eq]; decide, by rw [up_eq]; rfl⟩
    exact step_q hC hM hA hD hy (qg_m P G (Or.inl rfl) 1) (by decide) (by decide)
  · have q : E.1 ≠ 0 := of_decide_eq_true e
    have hw := hA.2.1 q
    have rb := hC.2.2.2.1 q
    cases e2 : inR v (nI 0) (nI I.1)
    · obtain ⟨y, hy⟩ := lq_gen (σ1 := σ) (G1 := G) (G2 := up G 80 0 2) (J1 := J) (m := 80) (d := 89) (i := 1) (j := 6) (C := fX9_findWord (some 0) v (wc σ G J)) (M := fun s5 => fX10_findWord (some 80) v s5) (g := fun n3 s2 => if n3 = 0 then some (.ok 1, s2, 0, 0) else if n3 = 1 then some (.ok 2, s2, 0, 0) else none) (r := .error 1) (x := 0) h.2.2.1 h.2.1 (by
          unfold fX9_findWord
          rw [cr_o hC, bnP_1, c_requireBook h.1, if_neg (by rw [c4]; exact q), bnXA_1, c_requireBytes hC hA, e2]
          rfl) (fun J' => by
          show fX10_findWord (some 80) v (wi (wc σ G J') G) = _
          have mk' : MK (wc σ G J') 80 := mk
          unfold fX10_findWord
          rw [mk_o mk', bnP_1, mk_I mk', bnP_1, mk_I mk', bnP_1, m_in, bnP_1, m_may2 mk' hr, bnS_1, m6, e, i2, show inR v 0 (nI I.1) = inR v (nI 0) (nI I.1) from rfl, e2]
          rfl) ⟨by rw [up_eq]; decide, by rw [up_eq]; rfl⟩
      exact step_q hC hM hA hD hy (qg_m P G (Or.inl rfl) 2) (by decide) (by decide)
    · obtain ⟨n, rfl, -, hn⟩ := inR_t (by decide) (by omega) e2
      have hby : ∀ k, k < n → G 1 k = G 86 k := fun k hk => by rw [hC.2.2.1.2 k (by omega), hM.2.2.1.2 k (by omega)]
      obtain ⟨iw1, iw2⟩ := iwB_cong hby
      have h86 : ∀ J', MK (wc σ (up G 0 1 0) J') 80 := fun _ => mk
      generalize hx : (if iwB (G 1) n = true then fwQ N (nI (enL5 (lf (G 1)) n).1) (nI (enL5 (lf (G 1)) n).2) else 0) = x
      obtain ⟨y, hy⟩ := lq_gen (σ1 := σ) (G1 := up G 0 1 0) (G2 := up (up (up G 0 1 0) 80 0 0) 80 9 0) (J1 := J) (m := 80) (d := 89) (i := 0) (j := 0) (C := fX9_findWord (some 0) (nI n) (wc σ G J)) (M := fun s5 => fX10_findWord (some 80) (nI n) s5) (g := fun n3 s2 => if n3 = 0 then some (.ok 1, s2, 0, 0) else if n3 = 1 then some (.ok 2, s2, 0, 0) else none) (r := .ok x) (x := x) h.2.2.1 h.2.1 (by
          unfold fX9_findWord
          rw [cr_o hC, bnP_1, c_requireBook h.1, if_neg (by rw [c4]; exact q), bnXA_1, c_requireBytes hC hA, e2, if_pos rfl, bnXA_1, c_inputWord hC _ _ (by omega), bnP_1, cr_P hC, bnP_1, ← hx]
          unfold i64W
          cases z : iwB (G 1) n
          · rw [if_neg (show ¬ false = true by decide), if_pos ((lg_cmp_eq _ _).mpr rfl)]
            rfl
          · have wd := iw_wd z
            have ne := wd_ne0 wd
            unfold i64W at wd ne
            rw [z] at wd ne
            rw [if_pos rfl] at wd ne ⊢
            rw [if_neg (fun q => ne ((lg_cmp_eq _ _).mp q)), nk_b h.1, bnP_1]
            have rb' : RB (up G 0 1 0) J b N := rb_cong hw.1 (fun a h1 _ _ _ _ _ => up_a (by have := cr_b hC; omega)) (fun _ _ _ => rfl) rb
            rw [c_firstActWith (nk_B h.1) hw rb' wd, bnP_1, if_pos rfl]) (fun J' => by
          show fX10_findWord (some 80) (nI n) (wi (wc σ (up G 0 1 0) J') (up G 0 1 0)) = _
          have mk' := h86 J'
          have hr' : up G 0 1 0 80 6 = 0 ∨ up G 0 1 0 80 6 = 1 := by rw [up_a (by decide)]; exact hr
          unfold fX10_findWord
          rw [mk_o mk', bnP_1, mk_I mk', bnP_1, mk_I mk', bnP_1, m_in, bnP_1, m_may2 mk' hr', bnS_1, up_a (show (80 : Nat) ≠ 0 by decide), m6, e, i2, show inR (nI n) 0 (nI I.1) = inR (nI n) (nI 0) (nI I.1) from rfl, e2, if_pos (show (true && true) = true from rfl), mk_P mk', bnP_1, show thr true true true = 0 from rfl]
          generalize hG2 : up (up (up G 0 1 0) 80 0 0) 80 9 0 = G2
          have g86 : G2 86 = G 86 := by rw [← hG2, up_a (by decide), up_a (by decide), up_a (by decide)]
          have g81 : G2 81 = N := by rw [← hG2, up_a (by decide), up_a (by decide), up_a (by decide)]; exact hM.2.2.2.1.1
          rw [m_areLetters mk' (by omega), bnP_1, ← hx]
          show (if iwB (G2 86) n = true then _ else _) = _
          rw [g86, ← iw1]
          cases z : iwB (G 1) n
          · rfl
          · obtain ⟨z1, z2, z3⟩ := iwB_t z
            have hf : ∀ k, k < n → G2 (80 + 6) (0 + k) = nI (96 + lf (G 1) k) ∧ 1 ≤ lf (G 1) k ∧ lf (G 1) k ≤ 26 := fun k hk => by
              rw [Nat.zero_add, show G2 (80 + 6) = G 86 from g86, ← hby k hk]
              exact z3 k hk
            rw [if_pos rfl, if_pos rfl]
            show bnP (fX10_partOf (some 80) (nI 0) (nI n) (nI 0) (wi (wc σ (up G 0 1 0) J') G2)) _ = _
            rw [m_partOf mk' z2 (by omega) hf 0 (by decide), bnP_1]
            show bnP (fX10_partOf (some 80) (nI 0) (nI n) (nI 1) (wi (wc σ (up G 0 1 0) J') G2)) _ = _
            rw [m_partOf mk' z2 (by omega) hf 1 (by decide), bnP_1, if_pos rfl, if_neg (by decide), m_actWith mk' (by rw [show G2 (80 + 1) = N from g81]; exact hw), bnP_1, show G2 (80 + 1) = N from g81]
            rfl) ⟨rfl, by rw [up_k (by decide), up_eq]⟩
      refine ⟨σ, _, _, 0, 0, hy, ⟨b, bs, ps, P, tx, E, (0, I.2), N, U, V, T, ?_, ?_, aw_in hA (Nat.zero_le _), hD⟩, by omega, by omega, by omega⟩
      · refine cr_m (G := up G 0 1 0) (J := J) (cr_in (I' := (0, I.2)) hC hA (fun k hk => up_k hk) (up_eq _ _ _ _) (fun k hk => absurd hk (Nat.not_lt_zero _)) (fun a q0 _ => up_a q0)) (aw_in hA (Nat.zero_le _)) ?_ (fun a ha => upJ_a ha)
        intro a ha
        rw [up_a (by omega), up_a (by omega)]
      · refine mr_in (I' := (0, I.2)) (mr_c (G := G) hM (G' := up G 0 1 0) (fun a h1 _ => up_a (by omega))) (fun k hk => ?_) (up_eq _ _ _ _) (fun k hk => absurd hk (Nat.not_lt_zero _)) (fun a ha => ?_)
        · rw [up_k (by omega), up_k (by omega)]
        · rw [up_a (by omega), up_a (by omega)]
end FND
