/-! THE PURE LEVEL, 22: words and their letters (rows of kit/laws/BITS pasted first) -/
theorem wb_tb (n : Nat) : (lN n).toBitVec = BitVec.ofNat 64 n := rfl
theorem wb_inj {a b : Int64} (h : a.toBitVec = b.toBitVec) : a = b := Int64.toBitVec_inj.mp h
theorem wb_tn {n : Nat} (h : n < 2 ^ 64) : (lN n).toBitVec.toNat = n := by rw [wb_tb, BitVec.toNat_ofNat, Nat.mod_eq_of_lt h]
theorem wb_c : ∀ k, k < 64 → ((nI k).toInt64 &&& 63) = lN k := by decide +kernel
theorem wb_cu : ∀ k, k < 64 → ((nI k).toInt64.toUInt64 &&& Int64.toUInt64 63) = UInt64.ofNat k := by decide +kernel
theorem wb_sm : ∀ k, k < 64 → (BitVec.ofNat 64 k).smod 64 = BitVec.ofNat 64 k := by decide +kernel
theorem wb_shr {n k : Nat} (hn : n < 2 ^ 64) (hk : k < 64) : ((lN n).toUInt64 >>> ((nI k).toInt64.toUInt64 &&& Int64.toUInt64 63)).toInt64 = lN (n / 2 ^ k) := by
  rw [wb_cu k hk]
  apply wb_inj
  apply BitVec.eq_of_toNat_eq
  show ((lN n).toUInt64 >>> UInt64.ofNat k).toNat = (BitVec.ofNat 64 _).toNat
  have h1 : (UInt64.ofNat k).toNat = k := by
    show (BitVec.ofNat 64 k).toNat = k
    rw [BitVec.toNat_ofNat, Nat.mod_eq_of_lt (by omega)]
  have h2 : (lN n).toUInt64.toNat = n := wb_tn hn
  rw [UInt64.toNat_shiftRight, h1, h2, Nat.mod_eq_of_lt hk, Nat.shiftRight_eq_div_pow, BitVec.toNat_ofNat, Nat.mod_eq_of_lt (Nat.lt_of_le_of_lt (Nat.div_le_self _ _) hn)]
theorem wb_shl (n : Nat) {k : Nat} (hk : k < 64) : lN n <<< ((nI k).toInt64 &&& 63) = lN (n * 2 ^ k) := by
  rw [wb_c k hk]
  apply wb_inj
  rw [Int64.toBitVec_shiftLeft, wb_tb, wb_tb, wb_tb, wb_sm k hk]
  apply BitVec.eq_of_toNat_eq
  rw [BitVec.shiftLeft_eq', BitVec.toNat_shiftLeft, BitVec.toNat_ofNat, BitVec.toNat_ofNat, BitVec.toNat_ofNat, Nat.mod_eq_of_lt (show k < 2 ^ 64 by omega), Nat.shiftLeft_eq, Nat.mul_mod, Nat.mod_mod, ← Nat.mul_mod]
theorem u_tn {n : Nat} (h : n < 2 ^ 64) : (UInt64.ofNat n).toNat = n := Nat.mod_eq_of_lt h
theorem g_or {k p a b : Nat} (hp : 2 ^ k = p) (ha : a < p) (h : b * p + a < 2 ^ 64) : lN (b * p) ||| lN a = lN (b * p + a) := by
  subst hp
  have h1 : b * 2 ^ k ||| a = b * 2 ^ k + a := by rw [← Nat.shiftLeft_eq, Nat.shiftLeft_add_eq_or_of_lt ha]
  have h3 : UInt64.ofNat (b * 2 ^ k) ||| UInt64.ofNat a = UInt64.ofNat (b * 2 ^ k + a) := UInt64.toNat_inj.mp (by rw [UInt64.toNat_or, u_tn (by omega), u_tn (by omega), u_tn h, h1])
  have h2 := congrArg UInt64.toInt64 h3
  exact h2
theorem lN_inj {a b : Nat} (ha : a < 2 ^ 64) (hb : b < 2 ^ 64) (h : lN a = lN b) : a = b := by
  have : (lN a).toBitVec.toNat = (lN b).toBitVec.toNat := by rw [h]
  rw [wb_tn ha, wb_tn hb] at this
  exact this
theorem pkL_lt {f : Nat → Nat} : ∀ n, (∀ k, k < n → f k ≤ 26) → pkL f n < 256 ^ n
  | 0, _ => by
    show (0 : Nat) < 1
    decide
  | n + 1, h => by
    have h1 := pkL_lt n (fun k hk => h k (by omega))
    have h2 := h n (by omega)
    show pkL f n * 256 + (96 + f n) < 256 ^ n * 256
    omega
theorem pkL_64 {f : Nat → Nat} {n : Nat} (hn : n ≤ 8) (h : ∀ k, k < n → f k ≤ 26) : pkL f n < 2 ^ 64 := by
  have h1 := pkL_lt n h
  have h2 : 256 ^ n ≤ 256 ^ 8 := Nat.pow_le_pow_right (by decide) hn
  exact Nat.lt_of_lt_of_le h1 h2
theorem pkL_div {f : Nat → Nat} {n : Nat} (h : ∀ k, k < n → f k ≤ 26) : ∀ j, j ≤ n → pkL f n / 256 ^ j = pkL f (n - j)
  | 0, _ => by
    rw [Nat.pow_zero, Nat.div_one, Nat.sub_zero]
  | j + 1, hj => by
    rw [Nat.pow_succ, ← Nat.div_div_eq_div_mul, pkL_div h j (by omega)]
    obtain ⟨i, hi⟩ : ∃ i, n - j = i + 1 := ⟨n - j - 1, by omega⟩
    rw [hi, show n - (j + 1) = i by omega]
    have := h i (by omega)
    show (pkL f i * 256 + (96 + f i)) / 256 = pkL f i
    omega
theorem pkL_pos {f : Nat → Nat} {n : Nat} (h : 0 < n) : 0 < pkL f n := by
  obtain ⟨i, rfl⟩ : ∃ i, n = i + 1 := ⟨n - 1, by omega⟩
  show 0 < pkL f i * 256 + (96 + f i)
  omega
theorem pkL_inj {f g : Nat → Nat} : ∀ {n m : Nat}, (∀ k, k < n → f k ≤ 26) → (∀ k, k < m → g k ≤ 26) → pkL f n = pkL g m → n = m ∧ ∀ k, k < n → f k = g k
  | 0, 0, _, _, _ => ⟨rfl, fun k hk => absurd hk (Nat.not_lt_zero _)⟩
  | 0, m + 1, _, _, e => by
    have := pkL_pos (f := g) (n := m + 1) (by omega)
    rw [← e] at this
    exact absurd this (Nat.lt_irrefl _)
  | n + 1, 0, _, _, e => by
    have := pkL_pos (f := f) (n := n + 1) (by omega)
    rw [e] at this
    exact absurd this (Nat.lt_irrefl _)
  | n + 1, m + 1, hf, hg, e => by
    have e : pkL f n * 256 + (96 + f n) = pkL g m * 256 + (96 + g m) := e
    have h1 := hf n (by omega)
    have h2 := hg m (by omega)
    obtain ⟨q1, q2⟩ := pkL_inj (n := n) (m := m) (fun k hk => hf k (by omega)) (fun k hk => hg k (by omega)) (by omega)
    subst q1
    refine ⟨rfl, fun k hk => ?_⟩
    by_cases q : k = n
    · rw [q]
      omega
    · exact q2 k (by omega)
theorem pw256 (j : Nat) : 2 ^ (8 * j) = 256 ^ j := by rw [Nat.pow_mul]
def dg (lo hi : Int32) (k : Nat) : Nat := (if k < 4 then lo.toNatClampNeg / 32 ^ k else hi.toNatClampNeg / 32 ^ (k - 4)) % 32
/-- a word's length, a letter of it -/
def lenQ (lo hi : Int32) : Nat := match fuN (fun k => decide (dg lo hi k = 0)) 8 with
  | none => 8
  | some k => k
def eL (f : Nat → Nat) (n k : Nat) : Nat := if k < n then f k else 0
theorem enL5_1 (f : Nat → Nat) (n : Nat) : (enL5 f n).1 = eL f n 0 + eL f n 1 * 32 + eL f n 2 * 1024 + eL f n 3 * 32768 := by
  show 0 + eL f n 0 * 32 ^ 0 + eL f n 1 * 32 ^ 1 + eL f n 2 * 32 ^ 2 + eL f n 3 * 32 ^ 3 = _
  omega
theorem enL5_2 (f : Nat → Nat) (n : Nat) : (enL5 f n).2 = eL f n 4 + eL f n 5 * 32 + eL f n 6 * 1024 + eL f n 7 * 32768 := by
  show 0 + eL f n 4 * 32 ^ 0 + eL f n 5 * 32 ^ 1 + eL f n 6 * 32 ^ 2 + eL f n 7 * 32 ^ 3 = _
  omega
theorem eL_le {f : Nat → Nat} {n : Nat} (h : ∀ k, k < n → 1 ≤ f k ∧ f k ≤ 26) (k : Nat) : eL f n k ≤ 26 := by
  unfold eL
  by_cases q : k < n
  · rw [if_pos q]
    exact (h k q).2
  · rw [if_neg q]
    omega
theorem wd_dg {f : Nat → Nat} {n : Nat} (h : ∀ k, k < n → 1 ≤ f k ∧ f k ≤ 26) : ∀ k, k < 8 → dg (nI (enL5 f n).1) (nI (enL5 f n).2) k = eL f n k := by
  intro k hk
  have b0 := eL_le h 0
  have b1 := eL_le h 1
  have b2 := eL_le h 2
  have b3 := eL_le h 3
  have b4 := eL_le h 4
  have b5 := eL_le h 5
  have b6 := eL_le h 6
  have b7 := eL_le h 7
  unfold dg
  rw [enL5_1, enL5_2, nI_clamp (by omega), nI_clamp (by omega)]
  have hk : k = 0 ∨ k = 1 ∨ k = 2 ∨ k = 3 ∨ k = 4 ∨ k = 5 ∨ k = 6 ∨ k = 7 := by omega
  rcases hk with rfl | rfl | rfl | rfl | rfl | rfl | rfl | rfl
  · rw [if_pos (by decide)]
    omega
  · rw [if_pos (by decide)]
    omega
  · rw [if_pos (by decide)]
    omega
  · rw [if_pos (by decide)]
    omega
  · rw [if_neg (by decide)]
    omega
  · rw [if_neg (by decide)]
    omega
  · rw [if_neg (by decide)]
    omega
  · rw [if_neg (by decide)]
    omega
theorem wd_len {f : Nat → Nat} {n : Nat} (hn : n ≤ 8) (h : ∀ k, k < n → 1 ≤ f k ∧ f k ≤ 26) : lenQ (nI (enL5 f n).1) (nI (enL5 f n).2) = n := by
  unfold lenQ
  cases e : fuN (fun k => decide (dg (nI (enL5 f n).1) (nI (enL5 f n).2) k = 0)) 8 with
  | none =>
    show 8 = n
    by_cases q : n = 8
    · exact q.symm
    · have := of_decide_eq_false (fuN_none e n (by omega))
      rw [wd_dg h n (by omega)] at this
      unfold eL at this
      rw [if_neg (Nat.lt_irrefl _)] at this
      exact absurd rfl this
  | some j =>
    show j = n
    obtain ⟨h3, h4, h5⟩ := fuN_some e
    have h4 := of_decide_eq_true h4
    rw [wd_dg h j h3] at h4
    unfold eL at h4
    by_cases q : j < n
    · rw [if_pos q] at h4
      have := (h j q).1
      omega
    · by_cases q2 : j = n
      · exact q2
      · have := of_decide_eq_false (h5 n (by omega))
        rw [wd_dg h n (by omega)] at this
        unfold eL at this
        rw [if_neg (Nat.lt_irrefl _)] at this
        exact absurd rfl this
theorem c_lettersInF {σ : HpT} {f : Nat → Nat} {n : Nat} (hn : n ≤ 8) (h : ∀ k, k < n → f k ≤ 26) : fX9_lettersIn (lN (pkL f n)) σ = some (nI n) := by
  have hP := pkL_64 hn h
  unfold fX9_lettersIn
  have e : lpP (fX9_lettersIn_l1 (lN (pkL f n)) σ) FUEL 0 = some (nI n) := by
    refine lpP_f n (fun k => nI k) rfl (by omega) (fun k hk => ?_) ?_
    · unfold fX9_lettersIn_l1
      rw [li_8, if_neg (nI_ge (by omega) (by omega)), pk_mul, wb_shr hP (by omega), pw256, pkL_div h k (by omega), if_neg, nI_a1]
      rw [lg_cmp_eq]
      intro q
      have := lN_inj (a := pkL f (n - k)) (b := 0) (pkL_64 (by omega) (fun j hj => h j (by omega))) (by decide) q
      have := pkL_pos (f := f) (n := n - k) (by omega)
      omega
    · unfold fX9_lettersIn_l1
      rw [li_8]
      by_cases q : n = 8
      · rw [if_pos (nI_le (by omega) (by omega))]
      · rw [if_neg (nI_ge (by omega) (by omega)), pk_mul, wb_shr hP (by omega), pw256, pkL_div h n (by omega), Nat.sub_self, if_pos ((lg_cmp_eq _ _).mpr (show lN (pkL f 0) = 0 from rfl))]
  rw [e, bnP_1]
theorem wd_clen {σ : HpT} {lo hi : Int32} {w : Int64} (h : wdR lo hi w) : fX9_lettersIn w σ = some (nI (lenQ lo hi)) := by
  obtain ⟨n, f, h1, h2, h3, rfl, rfl, rfl⟩ := h
  rw [wd_len h2 h3]
  exact c_lettersInF h2 (fun k hk => (h3 k hk).2)
theorem wd_ne0 {lo hi : Int32} {w : Int64} (h : wdR lo hi w) : ¬ w = 0 := by
  obtain ⟨n, f, h1, h2, h3, rfl, rfl, rfl⟩ := h
  intro q
  have := lN_inj (a := pkL f n) (b := 0) (pkL_64 h2 (fun k hk => (h3 k hk).2)) (by decide) q
  have := pkL_pos (f := f) (n := n) h1
  omega
