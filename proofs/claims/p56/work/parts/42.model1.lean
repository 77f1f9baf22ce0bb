/-! THE PURE LEVEL, 1: the reference's cells, its small methods -/
theorem li_0 : (0 : Int32) = nI 0 := rfl
theorem li_1 : (1 : Int32) = nI 1 := rfl
theorem li_2 : (2 : Int32) = nI 2 := rfl
theorem li_4 : (4 : Int32) = nI 4 := rfl
theorem li_5 : (5 : Int32) = nI 5 := rfl
theorem li_7 : (7 : Int32) = nI 7 := rfl
theorem li_8 : (8 : Int32) = nI 8 := rfl
theorem li_11 : (11 : Int32) = nI 11 := rfl
theorem li_12 : (12 : Int32) = nI 12 := rfl
theorem li_20 : (20 : Int32) = nI 20 := rfl
def nO : Int32 := -1
theorem nO_ne {n : Nat} (h : n < 2 ^ 31) : ¬ nO = nI n := fun e => by
  have h2 := congrArg Int32.toInt e
  rw [nI_toInt h] at h2
  have : nO.toInt = -1 := rfl
  omega
theorem nI_nO {n : Nat} (h : n < 2 ^ 31) : ¬ nI n = nO := fun e => nO_ne h e.symm
theorem nO_lt {n : Nat} (h : n < 2 ^ 31) : nO < nI n := by
  rw [Int32.lt_iff_toInt_lt, nI_toInt h]
  have : nO.toInt = -1 := rfl
  omega
theorem nI_pO {n : Nat} (h : 0 < n) : nI n + nO = nI (n - 1) := by
  obtain ⟨k, rfl⟩ : ∃ k, n = k + 1 := ⟨n - 1, by omega⟩
  exact pk_m1 k
section M1
variable {σ : HpT} {G : Nat → Nat → Int32} {m : Nat}
/-! rows of the row -/
/-- low ≤ v ≤ high -/
def inR (v lo hi : Int32) : Bool := decide (lo ≤ v) && decide (v ≤ hi)
end M1
