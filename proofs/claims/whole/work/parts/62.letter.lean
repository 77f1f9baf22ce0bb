/-! THE PURE LEVEL, 22: words and their letters (rows of kit/laws/BITS pasted first) -/
theorem wb_tb (n : Nat) : (lN n).toBitVec = BitVec.ofNat 64 n := rfl
theorem wb_inj {a b : Int64} (h : a.toBitVec = b.toBitVec) : a = b := Int64.toBitVec_inj.mp h
theorem wb_tn {n : Nat} (h : n < 2 ^ 64) : (lN n).toBitVec.toNat = n := by rw [wb_tb, BitVec.toNat_ofNat, Nat.mod_eq_of_lt h]
theorem wb_c : ∀ k, k < 64 → ((nI k).toInt64 &&& 63) = lN k := by decide +kernel
theorem wb_cu : ∀ k, k < 64 → ((nI k).toInt64.toUInt64 &&& Int64.toUInt64 63) = UInt64.ofNat k := by decide +kernel
theorem wb_sm : ∀ k, k < 64 → (BitVec.ofNat 64 k).smod 64 = BitVec.ofNat 64 k := by decide +kernel
theorem wb_shr {n k : Nat} (hn : n < 2 ^ 64) (hk : k < 64) : ((lN n).toUInt64 >>> ((nI k).toInt64.toUInt64 &&& Int64.toUInt64 63)).toInt64 = lN (n / 2 ^ k) := by
  rw [wb_cu k hk]
  apply wb_inj
  apply BitVec.eq_of_toNat_eq
  show ((lN n).toUInt64 >>> UInt64.ofNat k).toNat = (BitVec.ofNat 64 _).toNat
  have h1 : (UInt64.ofNat k).toNat = k := by
    show (BitVec.ofNat 64 k).toNat = k
    rw [BitVec.toNat_ofNat, Nat.mod_eq_of_lt (by omega)]
  have h2 : (lN n).toUInt64.toNat = n := wb_tn hn
  rw [UInt64.toNat_shiftRight, h1, h2, Nat.mod_eq_of_lt hk, Nat.shiftRight_eq_div_pow, BitVec.toNat_ofNat, Nat.mod_eq_of_lt (Nat.lt_of_le_of_lt (Nat.div_le_self _ _) hn)]
theorem wb_shl (n : Nat) {k : Nat} (hk : k < 64) : lN n <<< ((nI k).toInt64 &&& 63) = lN (n * 2 ^ k) := by
  rw [wb_c k hk]
  apply wb_inj
  rw [Int64.toBitVec_shiftLeft, wb_tb, wb_tb, wb_tb, wb_sm k hk]
  apply BitVec.eq_of_toNat_eq
  rw [BitVec.shiftLeft_eq', BitVec.toNat_shiftLeft, BitVec.toNat_ofNat, BitVec.toNat_ofNat, BitVec.toNat_ofNat, Nat.mod_eq_of_lt (show k < 2 ^ 64 by omega), Nat.shiftLeft_eq, Nat.mul_mod, Nat.mod_mod, ← Nat.mul_mod]
theorem u_tn {n : Nat} (h : n < 2 ^ 64) : (UInt64.ofNat n).toNat = n := Nat.mod_eq_of_lt h
theorem g_or {k p a b : Nat} (hp : 2 ^ k = p) (ha : a < p) (h : b * p + a < 2 ^ 64) : lN (b * p) ||| lN a = lN (b * p + a) := by
  subst hp
  have h1 : b * 2 ^ k ||| a = b * 2 ^ k + a := by rw [← Nat.shiftLeft_eq, Nat.shiftLeft_add_eq_or_of_lt ha]
  have h3 : UInt64.ofNat (b * 2 ^ k) ||| UInt64.ofNat a = UInt64.ofNat (b * 2 ^ k + a) := UInt64.toNat_inj.mp (by rw [UInt64.toNat_or, u_tn (by omega), u_tn (by omega), u_tn h, h1])
  have h2 := congrArg UInt64.toInt64 h3
  exact h2
theorem lN_inj {a b : Nat} (ha : a < 2 ^ 64) (hb : b < 2 ^ 64) (h : lN a = lN b) : a = b := by
  have : (lN a).toBitVec.toNat = (lN b).toBitVec.toNat := by rw [h]
  rw [wb_tn ha, wb_tn hb] at this
  exact this
theorem pkL_lt {f : Nat → Nat} : ∀ n, (∀ k, k < n → f k ≤ 26) → pkL f n < 256 ^ n
  | 0, _ => by
    show (0 : Nat) < 1
    decide
  | n + 1, h => by
    have h1 := pkL_lt n (fun k hk => h k (by omega))
    have h2 := h n (by omega)
    show pkL f n * 256 + (96 + f n) < 256 ^ n * 256
    omega
theorem pkL_64 {f : Nat → Nat} {n : Nat} (hn : n ≤ 8) (h : ∀ k, k < n → f k ≤ 26) : pkL f n < 2 ^ 64 := by
  have h1 := pkL_lt n h
  have h2 : 256 ^ n ≤ 256 ^ 8 := Nat.pow_le_pow_right (by decide) hn
  exact Nat.lt_of_lt_of_le h1 h2
theorem pkL_div {f : Nat → Nat} {n : Nat} (h : ∀ k, k < n → f k ≤ 26) : ∀ j, j ≤ n → pkL f n / 256 ^ j = pkL f (n - j)
  | 0, _ => by
    rw [Nat.pow_zero, Nat.div_one, Nat.sub_zero]
  | j + 1, hj => by
    rw [Nat.pow_succ, ← Nat.div_div_eq_div_mul, pkL_div h j (by omega)]
    obtain ⟨i, hi⟩ : ∃ i, n - j = i + 1 := ⟨n - j - 1, by omega⟩
    rw [hi, show n - (j + 1) = i by omega]
    have := h i (by omega)
    show (pkL f i * 256 + (96 + f i)) / 256 = pkL f i
    omega
theorem pkL_pos {f : Nat → Nat} {n : Nat} (h : 0 < n) : 0 < pkL f n := by
  obtain ⟨i, rfl⟩ : ∃ i, n = i + 1 := ⟨n - 1, by omega⟩
  show 0 < pkL f i * 256 + (96 + f i)
  omega
theorem pkL_inj {f g : Nat → Nat} : ∀ {n m : Nat}, (∀ k, k < n → f k ≤ 26) → (∀ k, k < m → g k ≤ 26) → pkL f n = pkL g m → n = m ∧ ∀ k, k < n → f k = g k
  | 0, 0, _, _, _ => ⟨rfl, fun k hk => absurd hk (Nat.not_lt_zero _)⟩
  | 0, m + 1, _, _, e => by
    have := pkL_pos (f := g) (n := m + 1) (by omega)
    rw [← e] at this
    exact absurd this (Nat.lt_irrefl _)
  | n + 1, 0, _, _, e => by
    have := pkL_pos (f := f) (n := n + 1) (by omega)
    rw [e] at this
    exact absurd this (Nat.lt_irrefl _)
  | n + 1, m + 1, hf, hg, e => by
    have e : pkL f n * 256 + (96 + f n) = pkL g m * 256 + (96 + g m) := e
    have h1 := hf n (by omega)
    have h2 := hg m (by omega)
    obtain ⟨q1, q2⟩ := pkL_inj (n := n) (m := m) (fun k hk => hf k (by omega)) (fun k hk => hg k (by omega)) (by omega)
    subst q1
    refine ⟨rfl, fun k hk => ?_⟩
    by_cases q : k = n
    · rw [q]
      omega
    · exact q2 k (by omega)
theorem pw256 (j : Nat) : 2 ^ (8 * j) = 256 ^ j := by rw [Nat.pow_mul]
theorem nI_255 (n : Nat) : nI n &&& 255 = nI (n % 256) := by
  rw [pk_and _ 8 (by decide)]
  show nI ((BitVec.ofNat 32 n).toNat % 2 ^ 8) = _
  rw [BitVec.toNat_ofNat]
  exact congrArg nI (Nat.mod_mod_of_dvd n (by decide))
def dg (lo hi : Int32) (k : Nat) : Nat := (if k < 4 then lo.toNatClampNeg / 32 ^ k else hi.toNatClampNeg / 32 ^ (k - 4)) % 32
/-- a word's length, a letter of it -/
def lenQ (lo hi : Int32) : Nat := match fuN (fun k => decide (dg lo hi k = 0)) 8 with
  | none => 8
  | some k => k
def ltQ (lo hi v : Int32) : Int32 := if inR v (nI 0) (nI 7) = true then (if dg lo hi v.toNatClampNeg = 0 then nO else nI (96 + dg lo hi v.toNatClampNeg)) else nO
theorem dg_lt (lo hi : Int32) (k : Nat) : dg lo hi k < 32 := Nat.mod_lt _ (by decide)
def eL (f : Nat → Nat) (n k : Nat) : Nat := if k < n then f k else 0
theorem enL5_1 (f : Nat → Nat) (n : Nat) : (enL5 f n).1 = eL f n 0 + eL f n 1 * 32 + eL f n 2 * 1024 + eL f n 3 * 32768 := by
  show 0 + eL f n 0 * 32 ^ 0 + eL f n 1 * 32 ^ 1 + eL f n 2 * 32 ^ 2 + eL f n 3 * 32 ^ 3 = _
  omega
theorem enL5_2 (f : Nat → Nat) (n : Nat) : (enL5 f n).2 = eL f n 4 + eL f n 5 * 32 + eL f n 6 * 1024 + eL f n 7 * 32768 := by
  show 0 + eL f n 4 * 32 ^ 0 + eL f n 5 * 32 ^ 1 + eL f n 6 * 32 ^ 2 + eL f n 7 * 32 ^ 3 = _
  omega
theorem eL_le {f : Nat → Nat} {n : Nat} (h : ∀ k, k < n → 1 ≤ f k ∧ f k ≤ 26) (k : Nat) : eL f n k ≤ 26 := by
  unfold eL
  by_cases q : k < n
  · rw [if_pos q]
    exact (h k q).2
  · rw [if_neg q]
    omega
theorem wd_dg {f : Nat → Nat} {n : Nat} (h : ∀ k, k < n → 1 ≤ f k ∧ f k ≤ 26) : ∀ k, k < 8 → dg (nI (enL5 f n).1) (nI (enL5 f n).2) k = eL f n k := by
  intro k hk
  have b0 := eL_le h 0
  have b1 := eL_le h 1
  have b2 := eL_le h 2
  have b3 := eL_le h 3
  have b4 := eL_le h 4
  have b5 := eL_le h 5
  have b6 := eL_le h 6
  have b7 := eL_le h 7
  unfold dg
  rw [enL5_1, enL5_2, nI_clamp (by omega), nI_clamp (by omega)]
  have hk : k = 0 ∨ k = 1 ∨ k = 2 ∨ k = 3 ∨ k = 4 ∨ k = 5 ∨ k = 6 ∨ k = 7 := by omega
  rcases hk with rfl | rfl | rfl | rfl | rfl | rfl | rfl | rfl
  · rw [if_pos (by decide)]
    omega
  · rw [if_pos (by decide)]
    omega
  · rw [if_pos (by decide)]
    omega
  · rw [if_pos (by decide)]
    omega
  · rw [if_neg (by decide)]
    omega
  · rw [if_neg (by decide)]
    omega
  · rw [if_neg (by decide)]
    omega
  · rw [if_neg (by decide)]
    omega
theorem wd_len {f : Nat → Nat} {n : Nat} (hn : n ≤ 8) (h : ∀ k, k < n → 1 ≤ f k ∧ f k ≤ 26) : lenQ (nI (enL5 f n).1) (nI (enL5 f n).2) = n := by
  unfold lenQ
  cases e : fuN (fun k => decide (dg (nI (enL5 f n).1) (nI (enL5 f n).2) k = 0)) 8 with
  | none =>
    show 8 = n
    by_cases q : n = 8
    · exact q.symm
    · have := of_decide_eq_false (fuN_none e n (by omega))
      rw [wd_dg h n (by omega)] at this
      unfold eL at this
      rw [if_neg (Nat.lt_irrefl _)] at this
      exact absurd rfl this
  | some j =>
    show j = n
    obtain ⟨h3, h4, h5⟩ := fuN_some e
    have h4 := of_decide_eq_true h4
    rw [wd_dg h j h3] at h4
    unfold eL at h4
    by_cases q : j < n
    · rw [if_pos q] at h4
      have := (h j q).1
      omega
    · by_cases q2 : j = n
      · exact q2
      · have := of_decide_eq_false (h5 n (by omega))
        rw [wd_dg h n (by omega)] at this
        unfold eL at this
        rw [if_neg (Nat.lt_irrefl _)] at this
        exact absurd rfl this
theorem wd_enb {f : Nat → Nat} {n : Nat} (h : ∀ k, k < n → 1 ≤ f k ∧ f k ≤ 26) : (enL5 f n).1 < 2 ^ 20 ∧ (enL5 f n).2 < 2 ^ 20 := by
  have b0 := eL_le h 0
  have b1 := eL_le h 1
  have b2 := eL_le h 2
  have b3 := eL_le h 3
  have b4 := eL_le h 4
  have b5 := eL_le h 5
  have b6 := eL_le h 6
  have b7 := eL_le h 7
  rw [enL5_1, enL5_2]
  omega
theorem c_lettersInF {σ : HpT} {f : Nat → Nat} {n : Nat} (hn : n ≤ 8) (h : ∀ k, k < n → f k ≤ 26) : fX9_lettersIn (lN (pkL f n)) σ = some (nI n) := by
  have hP := pkL_64 hn h
  unfold fX9_lettersIn
  have e : lpP (fX9_lettersIn_l1 (lN (pkL f n)) σ) FUEL 0 = some (nI n) := by
    refine lpP_f n (fun k => nI k) rfl (by omega) (fun k hk => ?_) ?_
    · unfold fX9_lettersIn_l1
      rw [li_8, if_neg (nI_ge (by omega) (by omega)), pk_mul, wb_shr hP (by omega), pw256, pkL_div h k (by omega), if_neg, nI_a1]
      rw [lg_cmp_eq]
      intro q
      have := lN_inj (a := pkL f (n - k)) (b := 0) (pkL_64 (by omega) (fun j hj => h j (by omega))) (by decide) q
      have := pkL_pos (f := f) (n := n - k) (by omega)
      omega
    · unfold fX9_lettersIn_l1
      rw [li_8]
      by_cases q : n = 8
      · rw [if_pos (nI_le (by omega) (by omega))]
      · rw [if_neg (nI_ge (by omega) (by omega)), pk_mul, wb_shr hP (by omega), pw256, pkL_div h n (by omega), Nat.sub_self, if_pos ((lg_cmp_eq _ _).mpr (show lN (pkL f 0) = 0 from rfl))]
  rw [e, bnP_1]
theorem c_letterOfF {σ : HpT} {f : Nat → Nat} {n : Nat} (hn : n ≤ 8) (h : ∀ k, k < n → f k ≤ 26) (v : Int32) : fX9_letterOf (lN (pkL f n)) v σ = some (if v < 0 then nO else if v < nI n then nI (96 + f v.toNatClampNeg) else nO) := by
  have hP := pkL_64 hn h
  unfold fX9_letterOf
  rw [c_lettersInF hn h, bnP_1]
  by_cases q : v < 0
  · rw [if_pos q, if_pos q]
    rfl
  · rw [if_neg q, if_neg q]
    obtain ⟨j, hj, rfl⟩ := nI_of q
    by_cases q2 : nI j < nI n
    · rw [if_pos q2, if_pos q2]
      rw [nI_ltI hj (by omega)] at q2
      have hf := h j q2
      rw [nI_clamp hj, nI_m1 (by omega), nI_sub (by omega), li_8, pk_mul, wb_shr hP (by omega), pw256, pkL_div h _ (by omega), show n - (n - 1 - j) = j + 1 by omega, lN_i, nI_255]
      show some (nI ((pkL f j * 256 + (96 + f j)) % 256)) = _
      exact congrArg (fun x => some (nI x)) (by omega)
    · rw [if_neg q2, if_neg q2]
      rfl
theorem m_letterOf {σ : HpT} {L H : Nat} (hL : L < 2 ^ 31) (hH : H < 2 ^ 31) (v : Int32) : fX10_letterOf (nI L) (nI H) v σ = some (ltQ (nI L) (nI H) v) := by
  unfold fX10_letterOf ltQ
  rw [m_in, bnP_1, li_0, li_7]
  cases e : inR v (nI 0) (nI 7)
  · rfl
  · obtain ⟨j, rfl, -, hj⟩ := inR_t (by decide) (by decide) e
    rw [if_pos rfl, if_pos rfl, nI_clamp (by omega)]
    have key : (if (4 : Int32) ≤ nI j then some (nI H >>> ((5 * (nI j - 4)) &&& 31)) else some (nI L >>> ((5 * nI j) &&& 31))) = some (nI (if j < 4 then L / 32 ^ j else H / 32 ^ (j - 4))) := by
      have hj : j = 0 ∨ j = 1 ∨ j = 2 ∨ j = 3 ∨ j = 4 ∨ j = 5 ∨ j = 6 ∨ j = 7 := by omega
      rcases hj with rfl | rfl | rfl | rfl | rfl | rfl | rfl | rfl
      · rw [if_neg (by decide), if_pos (by decide), pk_shrN hL _ 0 (by decide)]
      · rw [if_neg (by decide), if_pos (by decide), pk_shrN hL _ 5 (by decide)]
      · rw [if_neg (by decide), if_pos (by decide), pk_shrN hL _ 10 (by decide)]
      · rw [if_neg (by decide), if_pos (by decide), pk_shrN hL _ 15 (by decide)]
      · rw [if_pos (by decide), if_neg (by decide), pk_shrN hH _ 0 (by decide)]
      · rw [if_pos (by decide), if_neg (by decide), pk_shrN hH _ 5 (by decide)]
      · rw [if_pos (by decide), if_neg (by decide), pk_shrN hH _ 10 (by decide)]
      · rw [if_pos (by decide), if_neg (by decide), pk_shrN hH _ 15 (by decide)]
    have hb : (if j < 4 then L / 32 ^ j else H / 32 ^ (j - 4)) < 2 ^ 31 := by
      by_cases q : j < 4
      · rw [if_pos q]
        exact Nat.lt_of_le_of_lt (Nat.div_le_self _ _) hL
      · rw [if_neg q]
        exact Nat.lt_of_le_of_lt (Nat.div_le_self _ _) hH
    have hd : (if j < 4 then L / 32 ^ j else H / 32 ^ (j - 4)) % 32 = dg (nI L) (nI H) j := by
      unfold dg
      rw [nI_clamp hL, nI_clamp hH]
    have hlt := dg_lt (nI L) (nI H) j
    rw [key, bnP_1, pk_andN (by omega) 5 (by decide), show (2 : Nat) ^ 5 = 32 from rfl, hd]
    by_cases q : dg (nI L) (nI H) j = 0
    · rw [if_pos (by rw [q]), if_pos q]
      rfl
    · rw [if_neg (show ¬ nI (dg (nI L) (nI H) j) = nI 0 from nI_ne0 (by omega) (by omega)), if_neg q, li_97, nI_add, nI_m1 (by omega)]
      exact congrArg (fun x => some (nI x)) (by omega)
theorem m_lengthOf {σ : HpT} {L H : Nat} (hL : L < 2 ^ 31) (hH : H < 2 ^ 31) : fX10_lengthOf (nI L) (nI H) σ = some (nI (lenQ (nI L) (nI H))) := by
  unfold fX10_lengthOf
  have step : ∀ k, k < 8 → ¬ dg (nI L) (nI H) k = 0 → fX10_lengthOf_l1 (nI L) (nI H) σ (nI k) = some (.inl (nI (k + 1))) := fun k hk q => by
    have hlt := dg_lt (nI L) (nI H) k
    unfold fX10_lengthOf_l1 
    rw [m_letterOf hL hH, bnP_1]
    unfold ltQ
    rw [inR_nI (by omega) (by omega) (by omega), decide_eq_true (Nat.zero_le _), decide_eq_true (show k ≤ 7 by omega), Bool.and_self, if_pos rfl, nI_clamp (by omega), if_neg q, if_neg (show ¬ nI (96 + dg (nI L) (nI H) k) = -1 from nI_nO (by omega)), nI_a1]
  have fin : ∀ k, (k = 8 ∨ (k < 8 ∧ dg (nI L) (nI H) k = 0)) → fX10_lengthOf_l1 (nI L) (nI H) σ (nI k) = some (.inr (nI k)) := fun k q => by
    unfold fX10_lengthOf_l1 
    rw [m_letterOf hL hH, bnP_1]
    unfold ltQ
    rcases q with q | ⟨q1, q2⟩
    · rw [q, if_neg (show ¬ inR (nI 8) (nI 0) (nI 7) = true by decide), if_pos (by decide)]
    · rw [inR_nI (by omega) (by omega) (by omega), decide_eq_true (Nat.zero_le _), decide_eq_true (show k ≤ 7 by omega), Bool.and_self, if_pos rfl, nI_clamp (by omega), if_pos q2, if_pos (by decide)]
  have e : lpP (fX10_lengthOf_l1 (nI L) (nI H) σ) FUEL 0 = some (nI (lenQ (nI L) (nI H))) := by
    unfold lenQ
    cases e2 : fuN (fun k => decide (dg (nI L) (nI H) k = 0)) 8 with
    | none => exact lpP_f 8 (fun k => nI k) rfl (by omega) (fun k hk => step k hk (of_decide_eq_false (fuN_none e2 k hk))) (fin 8 (Or.inl rfl))
    | some j =>
      obtain ⟨h3, h4, h5⟩ := fuN_some e2
      exact lpP_f j (fun k => nI k) rfl (by omega) (fun k hk => step k (by omega) (of_decide_eq_false (h5 k hk))) (fin j (Or.inr ⟨h3, of_decide_eq_true h4⟩))
  rw [e, bnP_1]
/-- a word's two forms -/
theorem wd_lo {lo hi : Int32} {w : Int64} (h : wdR lo hi w) : ∃ L H, L < 2 ^ 20 ∧ H < 2 ^ 20 ∧ lo = nI L ∧ hi = nI H := by
  obtain ⟨n, f, h1, h2, h3, rfl, rfl, -⟩ := h
  exact ⟨_, _, (wd_enb h3).1, (wd_enb h3).2, rfl, rfl⟩
theorem wd_mlen {σ : HpT} {lo hi : Int32} {w : Int64} (h : wdR lo hi w) : fX10_lengthOf lo hi σ = some (nI (lenQ lo hi)) := by
  obtain ⟨L, H, h1, h2, rfl, rfl⟩ := wd_lo h
  exact m_lengthOf (by omega) (by omega)
theorem wd_mlet {σ : HpT} {lo hi : Int32} {w : Int64} (h : wdR lo hi w) (v : Int32) : fX10_letterOf lo hi v σ = some (ltQ lo hi v) := by
  obtain ⟨L, H, h1, h2, rfl, rfl⟩ := wd_lo h
  exact m_letterOf (by omega) (by omega) v
theorem wd_clen {σ : HpT} {lo hi : Int32} {w : Int64} (h : wdR lo hi w) : fX9_lettersIn w σ = some (nI (lenQ lo hi)) := by
  obtain ⟨n, f, h1, h2, h3, rfl, rfl, rfl⟩ := h
  rw [wd_len h2 h3]
  exact c_lettersInF h2 (fun k hk => (h3 k hk).2)
theorem wd_lenb {lo hi : Int32} {w : Int64} (h : wdR lo hi w) : 1 ≤ lenQ lo hi ∧ lenQ lo hi ≤ 8 := by
  obtain ⟨n, f, h1, h2, h3, rfl, rfl, rfl⟩ := h
  rw [wd_len h2 h3]
  exact ⟨h1, h2⟩
theorem wd_clet {σ : HpT} {lo hi : Int32} {w : Int64} (h : wdR lo hi w) (v : Int32) : fX9_letterOf w v σ = some (ltQ lo hi v) := by
  obtain ⟨n, f, h1, h2, h3, rfl, rfl, rfl⟩ := h
  show fX9_letterOf (lN (pkL f n)) v σ = _
  rw [c_letterOfF h2 (fun k hk => (h3 k hk).2)]
  unfold ltQ
  by_cases q : v < 0
  · rw [if_pos q]
    unfold inR
    rw [show decide (nI 0 ≤ v) = false from decide_eq_false (Int32.not_le.mpr q), Bool.false_and]
    rfl
  · obtain ⟨j, hj, rfl⟩ := nI_of q
    rw [if_neg q, inR_nI hj (by decide) (by decide), decide_eq_true (Nat.zero_le _), Bool.true_and, nI_clamp hj]
    by_cases q2 : j < 8
    · rw [decide_eq_true (show j ≤ 7 by omega), if_pos rfl, wd_dg h3 j q2]
      unfold eL
      by_cases q3 : j < n
      · have := (h3 j q3).1
        rw [if_pos (nI_lt q3 (by omega)), if_pos q3, if_neg (by omega)]
      · rw [if_neg (nI_nlt (by omega) hj), if_neg q3, if_pos rfl]
    · rw [if_neg (nI_nlt (by omega) hj), decide_eq_false (show ¬ j ≤ 7 by omega)]
      rfl
/-- one word or two -/
theorem wd_eq {lo hi lo' hi' : Int32} {w w' : Int64} (h : wdR lo hi w) (h' : wdR lo' hi' w') : w = w' ↔ lo = lo' ∧ hi = hi' := by
  obtain ⟨n, f, h1, h2, h3, rfl, rfl, rfl⟩ := h
  obtain ⟨n', f', g1, g2, g3, rfl, rfl, rfl⟩ := h'
  constructor
  · intro q
    have e := lN_inj (pkL_64 h2 (fun k hk => (h3 k hk).2)) (pkL_64 g2 (fun k hk => (g3 k hk).2)) q
    obtain ⟨e1, e2⟩ := pkL_inj (fun k hk => (h3 k hk).2) (fun k hk => (g3 k hk).2) e
    subst e1
    have e3 : eL f n = eL f' n := funext fun k => by
      unfold eL
      by_cases q : k < n
      · rw [if_pos q, if_pos q, e2 k q]
      · rw [if_neg q, if_neg q]
    rw [enL5_1, enL5_1, enL5_2, enL5_2, e3]
    exact ⟨rfl, rfl⟩
  · rintro ⟨q1, q2⟩
    have l1 := wd_len h2 h3
    rw [q1, q2, wd_len g2 g3] at l1
    subst l1
    have e2 : ∀ k, k < n' → f k = f' k := fun k hk => by
      have d1 := wd_dg h3 k (by omega)
      have d2 := wd_dg g3 k (by omega)
      rw [q1, q2, d2] at d1
      unfold eL at d1
      rw [if_pos hk, if_pos hk] at d1
      exact d1.symm
    have : ∀ m, m ≤ n' → pkL f m = pkL f' m := by
      intro m
      induction m with
      | zero => intro _; rfl
      | succ m ih =>
        intro hm
        show pkL f m * 256 + (96 + f m) = pkL f' m * 256 + (96 + f' m)
        rw [ih (by omega), e2 m (by omega)]
    rw [this n' (Nat.le_refl _)]
theorem wd_ne0 {lo hi : Int32} {w : Int64} (h : wdR lo hi w) : ¬ w = 0 := by
  obtain ⟨n, f, h1, h2, h3, rfl, rfl, rfl⟩ := h
  intro q
  have := lN_inj (a := pkL f n) (b := 0) (pkL_64 h2 (fun k hk => (h3 k hk).2)) (by decide) q
  have := pkL_pos (f := f) (n := n) h1
  omega
