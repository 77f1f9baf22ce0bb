/-! THE PURE LEVEL, 75: the builder of the class -/
section RAW
variable {S : HpT} {a κ k : Nat} {x : Int32}
theorem isK_S (hk : hK S a = κ) : isK S (some a) κ = some () := if_pos hk
theorem gI_S (hk : hK S a = κ) : gI S (some a) κ k = some (hI S a k) := if_pos hk
theorem gR_S {r : Option Nat} (hk : hK S a = κ) (hr : hR S a k = r) : gR S (some a) κ k = some r := by
  show (if hK S a = κ then some (hR S a k) else none) = _
  rw [if_pos hk, hr]
theorem aL_S (hk : hK S a = κ) : aL S (some a) κ = some (nI (hZ S a)) := if_pos hk
end RAW
section TOPS
variable {α β : Type} {S0 S : HpT} {t0 tx i j : Nat} {T T1 T2 : tI}
theorem shr0 {n : Nat} (h : n < 2 ^ 31) : nI n >>> ((0 : Int32) &&& 31) = nI n := by
  rw [pk_shrN h _ 0 (by decide), Nat.pow_zero, Nat.div_one]
end TOPS
