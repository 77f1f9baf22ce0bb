/-! THE PURE LEVEL, 115: the law's objects are made -/
def prB (σ : HpT) : AT (Option Nat × Option Nat × Option Nat) := bnA (nwA 10 σ) (fun x15 s17 => bnO (fX10_init x15 s17) (fun x22 s24 => bnA (nwR 21 1 s24) (fun x29 s31 => bnA (nwR 24 1 s31) (fun x36 s38 => some (.ok (x15, x29, x36), s38, 0, 0)))))
def pr9 : AT (Option Nat) := bnA (nwA 9 σE) (fun x1 s3 => bnO (fX9_init x1 s3) (fun _ s10 => some (.ok x1, s10, 0, 0)))
def dBK (σ : HpT) (b : Nat) : Decidable (BK σ b) := by
  unfold BK SK LK
  exact inferInstance
def dCK (σ : HpT) (b : Nat) : Decidable (CK σ b) := by
  unfold CK LK
  exact inferInstance
def dMK (σ : HpT) (b : Nat) : Decidable (MK σ b) := by
  unfold MK
  exact inferInstance
def dDK (σ : HpT) : Decidable (DK σ) := by
  unfold DK
  exact inferInstance
def proF (S : HpT) : Bool := decide (hN S = 91) && (@decide (CK S 79) (dCK S 79) && (@decide (BK S 2) (dBK S 2) && (@decide (BK S 35) (dBK S 35) && (@decide (MK S 80) (dMK S 80) && (@decide (DK S) (dDK S) && (decide (hR S 0 5 = some 2 ∧ hR S 0 6 = some 35) && (decide (hR S 71 0 = none ∧ hR S 71 1 = none ∧ hR S 71 2 = none ∧ hR S 71 3 = none ∧ hR S 71 4 = none ∧ hR S 71 5 = none ∧ hR S 71 6 = none ∧ hR S 71 7 = none) && (decide (hR S 72 0 = none ∧ hR S 72 1 = none) && (decide (S.2.2.2.1 0 4 = 0 ∧ S.2.2.2.1 0 2 = 0 ∧ S.2.2.2.1 0 3 = nO) && (decide (S.2.2.2.1 0 1 = nI 0 ∧ S.2.2.2.1 0 10 = nI 0 ∧ S.2.2.2.1 0 9 = nI 0) && (decide (S.2.2.2.1 73 0 = 0 ∧ S.2.2.2.1 73 1 = 0) && (decide (S.2.2.2.1 78 3 = nI 0 ∧ S.2.2.2.1 78 1 = 0) && (decide (S.2.2.2.1 80 6 = 0 ∧ S.2.2.2.1 80 10 = 0 ∧ S.2.2.2.1 80 11 = nO) && (decide (S.2.2.2.1 80 9 = nI 0 ∧ S.2.2.2.1 80 7 = nI 0 ∧ S.2.2.2.1 80 23 = nI 0) && (decide (S.2.2.2.1 85 0 = 0 ∧ S.2.2.2.1 85 1 = 0) && decide (hZ S 79 = 16))))))))))))))))
theorem pro_1 : (match pr9 with
    | some (.ok x1, S, i, j) => (match prB S with
      | some (.ok x, S2, i2, j2) => decide (x1 = some 0) && (decide (x = (some 80, some 89, some 90)) && (decide (hN S = 80) && (decide (i ≤ 1000) && (decide (j ≤ 100000) && (decide (i2 ≤ 1000) && (decide (j2 ≤ 200000) && proF S2))))))
      | _ => false)
    | _ => false) = true := by decide +kernel
