/-! THE PURE LEVEL, 0: numbers, loops, contents -/
section PU
variable {α β γ : Type}
theorem bnP_1 {a : α} {f : α → Option γ} : bnP (some a) f = f a := rfl
theorem bnS_1 {a : α} {σ : HpT} {f : α → HpT → Option γ} : bnS (some (a, σ)) f = f a σ := rfl
theorem bnX_1 {a : α} {f : α → Option (Except Nat β)} : bnX (some (.ok a)) f = f a := rfl
theorem bnX_e {n : Nat} {f : α → Option (Except Nat β)} : bnX (some (.error n)) f = some (.error n) := rfl
theorem bnA_1 {a : α} {σ σ2 : HpT} {f : α → HpT → AT β} {y : Except Nat β} {i j i2 j2 : Nat} (h : f a σ = some (y, σ2, i2, j2)) : bnA (some (.ok a, σ, i, j)) f = some (y, σ2, i + i2, j + j2) := by
  unfold bnA
  dsimp only
  rw [h]
theorem bnA_e {n : Nat} {σ : HpT} {f : α → HpT → AT β} {i j : Nat} : bnA (some (.error n, σ, i, j)) f = some (.error n, σ, i, j) := rfl
theorem bnXA_1 {a : α} {σ : HpT} {f : α → AT β} : bnXA σ (some (.ok a)) f = f a := rfl
theorem bnXA_e {n : Nat} {σ : HpT} {f : α → AT β} : bnXA σ (some (.error n)) f = some (.error n, σ, 1, 6) := rfl
theorem bnO_1 {a : α} {σ σ2 : HpT} {f : α → HpT → AT β} {y : Except Nat β} {i j i2 j2 : Nat} (h : f a σ = some (y, σ2, i2, j2)) : bnO (some (.ok a, σ, i, j)) f = some (y, σ2, i + i2, j + j2) := by
  unfold bnO
  dsimp only
  rw [h]
/-- a loop by its states -/
theorem lpP_go {f : α → Option (α ⊕ β)} {r : β} : ∀ (n F : Nat) (s : Nat → α), n < F → (∀ k, k < n → f (s k) = some (.inl (s (k + 1)))) → f (s n) = some (.inr r) → lpP f F (s 0) = some r := by
  intro n
  induction n with
  | zero =>
    intro F s hF _ he
    cases F with
    | zero => exact absurd hF (Nat.lt_irrefl _)
    | succ F =>
      unfold lpP
      rw [he]
  | succ n ih =>
    intro F s hF hs he
    cases F with
    | zero => exact absurd hF (Nat.not_lt_zero _)
    | succ F =>
      unfold lpP
      rw [hs 0 (Nat.zero_lt_succ n)]
      exact ih F (fun k => s (k + 1)) (Nat.lt_of_succ_lt_succ hF) (fun k hk => hs (k + 1) (Nat.succ_lt_succ hk)) he
theorem lpP_f {f : α → Option (α ⊕ β)} {r : β} {a : α} (n : Nat) (s : Nat → α) (h0 : s 0 = a) (hn : n < 200000) (hs : ∀ k, k < n → f (s k) = some (.inl (s (k + 1)))) (he : f (s n) = some (.inr r)) : lpP f FUEL a = some r := h0 ▸ lpP_go n FUEL s hn hs he
theorem lpS_go {f : α → HpT → Option ((α ⊕ β) × HpT)} {r : β} {σr : HpT} : ∀ (n F : Nat) (s : Nat → α) (t : Nat → HpT), n < F → (∀ k, k < n → f (s k) (t k) = some (.inl (s (k + 1)), t (k + 1))) → f (s n) (t n) = some (.inr r, σr) → lpS f F (s 0) (t 0) = some (r, σr) := by
  intro n
  induction n with
  | zero =>
    intro F s t hF _ he
    cases F with
    | zero => exact absurd hF (Nat.lt_irrefl _)
    | succ F =>
      unfold lpS
      rw [he]
  | succ n ih =>
    intro F s t hF hs he
    cases F with
    | zero => exact absurd hF (Nat.not_lt_zero _)
    | succ F =>
      unfold lpS
      rw [hs 0 (Nat.zero_lt_succ n)]
      exact ih F (fun k => s (k + 1)) (fun k => t (k + 1)) (Nat.lt_of_succ_lt_succ hF) (fun k hk => hs (k + 1) (Nat.succ_lt_succ hk)) he
theorem lpS_f {f : α → HpT → Option ((α ⊕ β) × HpT)} {r : β} {σr : HpT} {a : α} {σ : HpT} (n : Nat) (s : Nat → α) (t : Nat → HpT) (h0 : s 0 = a) (ht : t 0 = σ) (hn : n < 200000) (hs : ∀ k, k < n → f (s k) (t k) = some (.inl (s (k + 1)), t (k + 1))) (he : f (s n) (t n) = some (.inr r, σr)) : lpS f FUEL a σ = some (r, σr) := h0 ▸ ht ▸ lpS_go n FUEL s t hn hs he
/-- a loop by an invariant: the states are not told -/
theorem lpS_i {f : α → HpT → Option ((α ⊕ β) × HpT)} (I : Nat → α → HpT → Prop) (P : β → HpT → Prop) : ∀ (n F : Nat) (a : α) (σ : HpT), n < F → I n a σ → (∀ k a σ, I (k + 1) a σ → (∃ a' σ', f a σ = some (.inl a', σ') ∧ I k a' σ') ∨ ∃ r σ', f a σ = some (.inr r, σ') ∧ P r σ') → (∀ a σ, I 0 a σ → ∃ r σ', f a σ = some (.inr r, σ') ∧ P r σ') → ∃ r σ', lpS f F a σ = some (r, σ') ∧ P r σ' := by
  intro n
  induction n with
  | zero =>
    intro F a σ hF hI _ he
    cases F with
    | zero => exact absurd hF (Nat.lt_irrefl _)
    | succ F =>
      obtain ⟨r, σ', e, p⟩ := he a σ hI
      refine ⟨r, σ', ?_, p⟩
      unfold lpS
      rw [e]
  | succ n ih =>
    intro F a σ hF hI hs he
    cases F with
    | zero => exact absurd hF (Nat.not_lt_zero _)
    | succ F =>
      rcases hs n a σ hI with ⟨a', σ', e, hI'⟩ | ⟨r, σ', e, p⟩
      · obtain ⟨r, σ2, e2, p⟩ := ih F a' σ' (Nat.lt_of_succ_lt_succ hF) hI' hs he
        refine ⟨r, σ2, ?_, p⟩
        unfold lpS
        rw [e]
        exact e2
      · refine ⟨r, σ', ?_, p⟩
        unfold lpS
        rw [e]
end PU
/-! numbers -/
theorem inb_nI {n z : Nat} (h : n < z) (hz : z < 2 ^ 31) : inbB (nI n) z = true := by
  unfold inbB
  rw [nI_toInt (by omega)]
  simp
  omega
theorem nI_lt0 {n : Nat} (h : n < 2 ^ 31) : ¬ nI n < 0 := nI_pos h
theorem nI_m1 {n : Nat} (h : 0 < n) : nI n - 1 = nI (n - 1) := by
  obtain ⟨k, rfl⟩ : ∃ k, n = k + 1 := ⟨n - 1, by omega⟩
  exact nI_pred k
/-- an entry that is a small number -/
abbrev nv (N : Nat → Int32) (k : Nat) : Nat := (N k).toNatClampNeg
def isN (N : Nat → Int32) (k B : Nat) : Prop := N k = nI (nv N k) ∧ nv N k < B
theorem isN_of {N : Nat → Int32} {k B n : Nat} (h : N k = nI n) (hn : n < B) (hB : B ≤ 2 ^ 31) : isN N k B ∧ nv N k = n := by
  have e : nv N k = n := by
    show (N k).toNatClampNeg = n
    rw [h]
    exact nI_clamp (by omega)
  exact ⟨⟨by rw [e]; exact h, by rw [e]; exact hn⟩, e⟩
/-- sums and counts -/
def sumI (f : Nat → Int32) : Nat → Int32
  | 0 => 0
  | n + 1 => sumI f n + f n
theorem sumI_cong {f g : Nat → Int32} : ∀ {n : Nat}, (∀ k, k < n → f k = g k) → sumI f n = sumI g n
  | 0, _ => rfl
  | n + 1, h => by
    show sumI f n + f n = sumI g n + g n
    rw [sumI_cong (fun k hk => h k (by omega)), h n (by omega)]
theorem sumI_add (f g : Nat → Int32) : ∀ n, sumI (fun k => f k + g k) n = sumI f n + sumI g n
  | 0 => rfl
  | n + 1 => by
    show sumI (fun k => f k + g k) n + (f n + g n) = (sumI f n + f n) + (sumI g n + g n)
    rw [sumI_add f g n, Int32.add_assoc, Int32.add_assoc]
    congr 1
    rw [← Int32.add_assoc, ← Int32.add_assoc, Int32.add_comm (f n)]
theorem sumI_shift (f : Nat → Int32) : ∀ n m, sumI f (n + m) = sumI f n + sumI (fun k => f (n + k)) m
  | n, 0 => (Int32.add_zero _).symm
  | n, m + 1 => by
    show sumI f (n + m) + f (n + m) = sumI f n + (sumI (fun k => f (n + k)) m + f (n + m))
    rw [sumI_shift f n m, Int32.add_assoc]
def cntN (p : Nat → Bool) : Nat → Nat
  | 0 => 0
  | n + 1 => cntN p n + (if p n = true then 1 else 0)
theorem cntN_le (p : Nat → Bool) : ∀ n, cntN p n ≤ n
  | 0 => Nat.le_refl _
  | n + 1 => by
    have := cntN_le p n
    show cntN p n + (if p n = true then 1 else 0) ≤ n + 1
    split <;> omega
theorem cntN_cong {p q : Nat → Bool} : ∀ {n : Nat}, (∀ k, k < n → p k = q k) → cntN p n = cntN q n
  | 0, _ => rfl
  | n + 1, h => by
    show cntN p n + (if p n = true then 1 else 0) = cntN q n + (if q n = true then 1 else 0)
    rw [cntN_cong (fun k hk => h k (by omega)), h n (by omega)]
theorem bI_nI (b : Bool) : bI b = nI (if b = true then 1 else 0) := by cases b <;> rfl
theorem sumI_cnt (p : Nat → Bool) : ∀ n, sumI (fun k => bI (p k)) n = nI (cntN p n)
  | 0 => rfl
  | n + 1 => by
    show sumI (fun k => bI (p k)) n + bI (p n) = nI (cntN p n + (if p n = true then 1 else 0))
    rw [sumI_cnt p n, bI_nI, nI_add]
/-- the ints of all cells, at a heap whose rest stands still -/
def up (G : Nat → Nat → Int32) (a k : Nat) (x : Int32) : Nat → Nat → Int32 := fun b j => if b = a ∧ j = k then x else G b j
theorem up_eq (G : Nat → Nat → Int32) (a k : Nat) (x : Int32) : up G a k x a k = x := if_pos ⟨rfl, rfl⟩
theorem up_k {G : Nat → Nat → Int32} {a k j : Nat} {x : Int32} (h : j ≠ k) : up G a k x a j = G a j := if_neg fun q => h q.2
theorem up_a {G : Nat → Nat → Int32} {a b k : Nat} {x : Int32} (h : b ≠ a) : up G a k x b = G b := funext fun _ => if_neg fun q => h q.1
def wi (σ : HpT) (G : Nat → Nat → Int32) : HpT := (σ.1, σ.2.1, σ.2.2.1, G, σ.2.2.2.2.1, σ.2.2.2.2.2.1, σ.2.2.2.2.2.2)
def wj (σ : HpT) (J : Nat → Nat → Int64) : HpT := (σ.1, σ.2.1, σ.2.2.1, σ.2.2.2.1, J, σ.2.2.2.2.2.1, σ.2.2.2.2.2.2)
theorem wi_self (σ : HpT) : wi σ σ.2.2.2.1 = σ := rfl
theorem wi_wi (σ : HpT) (G G' : Nat → Nat → Int32) : wi (wi σ G) G' = wi σ G' := rfl
theorem wI_wi (σ : HpT) (G : Nat → Nat → Int32) (a k : Nat) (x : Int32) : wI (wi σ G) a k x = wi σ (up G a k x) := rfl
theorem hK_wi (σ : HpT) (G : Nat → Nat → Int32) (a : Nat) : hK (wi σ G) a = hK σ a := rfl
theorem hZ_wi (σ : HpT) (G : Nat → Nat → Int32) (a : Nat) : hZ (wi σ G) a = hZ σ a := rfl
theorem hN_wi (σ : HpT) (G : Nat → Nat → Int32) : hN (wi σ G) = hN σ := rfl
theorem hI_wi {σ : HpT} {G : Nat → Nat → Int32} {a : Nat} (k : Nat) (h : a < hN σ) : hI (wi σ G) a k = G a k := if_pos h
section EVA
variable {σ : HpT} {G : Nat → Nat → Int32} {a κ k n z : Nat} {x : Int32}
theorem isK_e (hk : hK σ a = κ) : isK (wi σ G) (some a) κ = some () := if_pos hk
theorem gI_e (hk : hK σ a = κ) (ha : a < hN σ) : gI (wi σ G) (some a) κ k = some (G a k) := by
  show (if hK (wi σ G) a = κ then some (hI (wi σ G) a k) else none) = _
  rw [if_pos (by exact hk), hI_wi k ha]
theorem gR_e {r : Option Nat} (hk : hK σ a = κ) (hr : hR σ a k = r) : gR (wi σ G) (some a) κ k = some r := by
  show (if hK (wi σ G) a = κ then some (hR (wi σ G) a k) else none) = _
  rw [if_pos (by exact hk)]
  exact congrArg some hr
theorem pI_e (hk : hK σ a = κ) (ha : a < hN σ) : pI (wi σ G) (some a) κ k x = some (wi σ (up G a k x)) := by
  show (if hK (wi σ G) a = κ ∧ a < hN (wi σ G) then some (wI (wi σ G) a k x) else none) = _
  rw [if_pos ⟨hk, ha⟩]
  rfl
theorem aI_e (hk : hK σ a = κ) (ha : a < hN σ) (hz : hZ σ a = z) (hn : n < z) (hz2 : z < 2 ^ 31) : aI (wi σ G) (some a) κ (nI n) = some (G a n) := by
  show (if hK (wi σ G) a = κ ∧ inbB (nI n) (hZ (wi σ G) a) = true then some (hI (wi σ G) a (nI n).toNatClampNeg) else none) = _
  rw [if_pos ⟨hk, by rw [hZ_wi, hz]; exact inb_nI hn hz2⟩, nI_clamp (by omega), hI_wi _ ha]
theorem sI_e (hk : hK σ a = 20) (ha : a < hN σ) (hz : hZ σ a = z) (hn : n < z) (hz2 : z < 2 ^ 31) : sI (wi σ G) (some a) (nI n) x = some (wi σ (up G a n x)) := by
  show (if (hK (wi σ G) a = 20 ∧ inbB (nI n) (hZ (wi σ G) a) = true) ∧ a < hN (wi σ G) then some (wI (wi σ G) a (nI n).toNatClampNeg x) else none) = _
  rw [if_pos ⟨⟨hk, by rw [hZ_wi, hz]; exact inb_nI hn hz2⟩, ha⟩, nI_clamp (by omega)]
  rfl
theorem sB_e (hk : hK σ a = 22) (ha : a < hN σ) (hz : hZ σ a = z) (hn : n < z) (hz2 : z < 2 ^ 31) : sB (wi σ G) (some a) (nI n) x = some (wi σ (up G a n x.toInt8.toInt32)) := by
  show (if (hK (wi σ G) a = 22 ∧ inbB (nI n) (hZ (wi σ G) a) = true) ∧ a < hN (wi σ G) then some (wI (wi σ G) a (nI n).toNatClampNeg x.toInt8.toInt32) else none) = _
  rw [if_pos ⟨⟨hk, by rw [hZ_wi, hz]; exact inb_nI hn hz2⟩, ha⟩, nI_clamp (by omega)]
  rfl
theorem sZ_e (hk : hK σ a = 23) (ha : a < hN σ) (hz : hZ σ a = z) (hn : n < z) (hz2 : z < 2 ^ 31) : sZ (wi σ G) (some a) (nI n) x = some (wi σ (up G a n (vp_nar .boolean x))) := by
  show (if (hK (wi σ G) a = 23 ∧ inbB (nI n) (hZ (wi σ G) a) = true) ∧ a < hN (wi σ G) then some (wI (wi σ G) a (nI n).toNatClampNeg (vp_nar .boolean x)) else none) = _
  rw [if_pos ⟨⟨hk, by rw [hZ_wi, hz]; exact inb_nI hn hz2⟩, ha⟩, nI_clamp (by omega)]
  rfl
end EVA
