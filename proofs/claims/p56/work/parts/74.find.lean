/-! THE PURE LEVEL, 34: words of the buffer; FINDWORD -/
/-- is it a letter -/
def ltB (v : Int32) : Bool := inR v (nI 97) (nI 122)
def lf (f : Nat → Int32) (k : Nat) : Nat := (f k).toNatClampNeg - 96
/-- are the first n bytes a word -/
def iwB (f : Nat → Int32) (n : Nat) : Bool := (fuN (fun k => !ltB (f k)) n).isNone && (decide (1 ≤ n) && decide (n ≤ 8))
theorem ltB_t {v : Int32} (h : ltB v = true) : v = nI (96 + (v.toNatClampNeg - 96)) ∧ 1 ≤ v.toNatClampNeg - 96 ∧ v.toNatClampNeg - 96 ≤ 26 := by
  unfold ltB at h
  obtain ⟨a, rfl, h1, h2⟩ := inR_t (by decide) (by decide) h
  rw [nI_clamp (by omega)]
  exact ⟨congrArg nI (by omega), by omega, by omega⟩
theorem c_isLetter {σ : HpT} (v : Int32) : fX9_isLetter v σ = some (ltB v) := by
  unfold fX9_isLetter ltB inR
  by_cases h1 : v < 97
  · rw [if_pos h1, show decide (nI 97 ≤ v) = false from decide_eq_false (Int32.not_le.mpr h1), Bool.false_and]
  · rw [if_neg h1, show decide (nI 97 ≤ v) = true from decide_eq_true (Int32.not_lt.mp h1), Bool.true_and]
    by_cases h2 : 122 < v
    · rw [if_pos h2, show decide (v ≤ nI 122) = false from decide_eq_false (Int32.not_le.mpr h2)]
    · rw [if_neg h2, show decide (v ≤ nI 122) = true from decide_eq_true (Int32.not_lt.mp h2)]
theorem c_joined {σ : HpT} {P x : Nat} (hx : x < 256) (hp : P * 256 + x < 2 ^ 64) : fX9_joined (lN P) (nI x) σ = some (lN (P * 256 + x)) := by
  unfold fX9_joined
  rw [show Nat.toInt64 8 = (nI 8).toInt64 by decide, wb_shl P (by decide), nI_l (by omega), show 2 ^ 8 = 256 from rfl, g_or (k := 8) rfl hx hp]
section FND
variable {σ : HpT} {G G' : Nat → Nat → Int32} {J J' : Nat → Nat → Int64} {o b m d bs ps tx : Nat} {P : Nat → Option Nat} {E : tE} {I I' T : tI} {N : Nat → Int32} {U : tU} {V : tV}
/-! the buffer's first word -/
def i64W (f : Nat → Int32) (n : Nat) : Int64 := if iwB f n = true then lN (pkL (lf f) n) else 0
theorem iwB_t {f : Nat → Int32} {n : Nat} (h : iwB f n = true) : 1 ≤ n ∧ n ≤ 8 ∧ ∀ k, k < n → f k = nI (96 + lf f k) ∧ 1 ≤ lf f k ∧ lf f k ≤ 26 := by
  unfold iwB at h
  rw [Bool.and_eq_true, Bool.and_eq_true, decide_eq_true_eq, decide_eq_true_eq] at h
  refine ⟨h.2.1, h.2.2, fun k hk => ?_⟩
  cases e : fuN (fun k => !ltB (f k)) n with
  | none => exact ltB_t (bnot_f (fuN_none e k hk))
  | some j =>
    rw [e] at h
    cases h.1
theorem iw_wd {f : Nat → Int32} {n : Nat} (h : iwB f n = true) : wdR (nI (enL5 (lf f) n).1) (nI (enL5 (lf f) n).2) (i64W f n) := by
  obtain ⟨h1, h2, h3⟩ := iwB_t h
  refine ⟨n, lf f, h1, h2, fun k hk => (h3 k hk).2, rfl, rfl, ?_⟩
  unfold i64W
  rw [if_pos h]
  rfl
theorem c_inputWord (hC : CR σ G J b bs ps P tx E I N U V T) (G' : Nat → Nat → Int32) (J' : Nat → Nat → Int64) {n : Nat} (hn : n ≤ 600) : fX9_inputWord (some 0) (nI n) (wc σ G' J') = some (i64W (G' 1) n) := by
  unfold fX9_inputWord i64W
  rw [cr_o hC, bnP_1]
  by_cases q : n ≤ 8
  · rw [if_pos (show nI n ≤ 8 from nI_le (show n ≤ 8 from q) (by decide))]
    have step : ∀ k, k < n → (∀ i, i < k → ltB (G' 1 i) = true) → fX9_inputWord_l1 (some 0) (nI n) (wc σ G' J') (lN (pkL (lf (G' 1)) k), nI k) = (if (!ltB (G' 1 k)) = true then some (.inr (.inr 0)) else some (.inl (lN (pkL (lf (G' 1)) (k + 1)), nI (k + 1)))) := fun k hk hs => by
      unfold fX9_inputWord_l1
      dsimp only
      rw [if_neg (nI_ge hk (by omega)), cr_r0 hC, bnP_1, cr_a1 hC _ _ (by omega), bnP_1, c_isLetter, bnP_1]
      cases z : ltB (G' 1 k)
      · rfl
      · obtain ⟨z1, z2, z3⟩ := ltB_t z
        have z1 : G' 1 k = nI (96 + lf (G' 1) k) := z1
        have z3 : lf (G' 1) k ≤ 26 := z3
        have hl := pkL_lt (f := lf (G' 1)) k (fun i hi => (ltB_t (hs i hi)).2.2)
        have h8 : 256 ^ k ≤ 256 ^ 7 := Nat.pow_le_pow_right (by decide) (by omega)
        have h87 : (256 : Nat) ^ 7 = 72057594037927936 := rfl
        rw [if_pos rfl, bnP_1, cr_a1 hC _ _ (by omega), bnP_1, z1, c_joined (by omega) (by omega), bnP_1, nI_a1]
        rfl
    cases e1 : fuN (fun k => !ltB (G' 1 k)) n with
    | none =>
      have e2 : lpP (fX9_inputWord_l1 (some 0) (nI n) (wc σ G' J')) FUEL (0, 0) = some (.inl (lN (pkL (lf (G' 1)) n))) := by
        refine lpP_f n (fun k => (lN (pkL (lf (G' 1)) k), nI k)) rfl (by omega) (fun k hk => ?_) ?_
        · rw [step k hk (fun i hi => bnot_f (fuN_none e1 i (by omega))), fuN_none e1 k hk]
          rfl
        · unfold fX9_inputWord_l1
          exact if_pos (nI_le (Nat.le_refl _) (by omega))
      rw [e2, bnP_1]
      unfold iwB
      rw [e1]
      by_cases z : 1 ≤ n
      · rw [decide_eq_true z, decide_eq_true q]
        rfl
      · rw [show n = 0 by omega]
        rfl
    | some j =>
      obtain ⟨h3, h4, h5⟩ := fuN_some e1
      have e2 : lpP (fX9_inputWord_l1 (some 0) (nI n) (wc σ G' J')) FUEL (0, 0) = some (.inr 0) := by
        refine lpP_f j (fun k => (lN (pkL (lf (G' 1)) k), nI k)) rfl (by omega) (fun k hk => ?_) ?_
        · rw [step k (by omega) (fun i hi => bnot_f (h5 i (by omega))), h5 k hk]
          rfl
        · rw [step j h3 (fun i hi => bnot_f (h5 i (by omega))), h4]
          rfl
      rw [e2, bnP_1]
      unfold iwB
      rw [e1]
      rfl
  · rw [if_neg (show ¬ nI n ≤ 8 from nI_ge (show 8 < n by omega) (by omega))]
    unfold iwB
    rw [decide_eq_false q, Bool.and_false, Bool.and_false]
    rfl
theorem c_requireBytes (hC : CR σ G J b bs ps P tx E I N U V T) (hA : AW E I N U V T) (v : Int32) : fX9_requireBytes (some 0) v (wc σ G J) = some (if inR v (nI 0) (nI I.1) = true then .ok () else .error 1) := by
  have hb := hA.1.2.1
  unfold fX9_requireBytes inR
  rw [cr_o hC, bnP_1]
  by_cases h1 : v < 0
  · rw [if_pos h1, show decide (nI 0 ≤ v) = false from decide_eq_false (Int32.not_le.mpr h1)]
    rfl
  · rw [if_neg h1, cr_I hC, bnP_1, hC.2.2.1.1, show decide (nI 0 ≤ v) = true from decide_eq_true (Int32.not_lt.mp h1)]
    by_cases h2 : v ≤ nI I.1
    · rw [if_pos h2, decide_eq_true h2]
      rfl
    · rw [if_neg h2, decide_eq_false h2]
      rfl
theorem fuN_cong {p q : Nat → Bool} : ∀ {n : Nat}, (∀ k, k < n → p k = q k) → fuN p n = fuN q n
  | 0, _ => rfl
  | n + 1, h => by
    unfold fuN
    rw [fuN_cong (n := n) (fun k hk => h k (by omega)), h n (by omega)]
theorem iwB_cong {f g : Nat → Int32} {n : Nat} (h : ∀ k, k < n → f k = g k) : iwB f n = iwB g n ∧ ∀ k, k < n → lf f k = lf g k := by
  refine ⟨?_, fun k hk => by unfold lf; rw [h k hk]⟩
  unfold iwB
  rw [fuN_cong (p := fun k => !ltB (f k)) (q := fun k => !ltB (g k)) (fun k hk => by rw [h k hk])]
theorem enL5_cong {f g : Nat → Nat} {n : Nat} (h : ∀ k, k < n → f k = g k) : enL5 f n = enL5 g n := by
  have e : eL f n = eL g n := funext fun k => by
    unfold eL
    by_cases q : k < n
    · rw [if_pos q, if_pos q, h k q]
    · rw [if_neg q, if_neg q]
  refine Prod.ext ?_ ?_
  · rw [enL5_1, enL5_1, e]
  · rw [enL5_2, enL5_2, e]
end FND
