/-! THE PURE LEVEL, 75: the builder of the class -/
section RAW
variable {S : HpT} {a κ k : Nat} {x : Int32}
theorem isK_S (hk : hK S a = κ) : isK S (some a) κ = some () := if_pos hk
theorem gI_S (hk : hK S a = κ) : gI S (some a) κ k = some (hI S a k) := if_pos hk
theorem gR_S {r : Option Nat} (hk : hK S a = κ) (hr : hR S a k = r) : gR S (some a) κ k = some r := by
  show (if hK S a = κ then some (hR S a k) else none) = _
  rw [if_pos hk, hr]
theorem pI_S (hk : hK S a = κ) (ha : a < hN S) : pI S (some a) κ k x = some (wI S a k x) := if_pos ⟨hk, ha⟩
theorem pR_S {r : Option Nat} (hk : hK S a = κ) (ha : a < hN S) : pR S (some a) κ k r = some (wR S a k r) := if_pos ⟨hk, ha⟩
theorem aL_S (hk : hK S a = κ) : aL S (some a) κ = some (nI (hZ S a)) := if_pos hk
end RAW
/-- the builder holds T; the rest is as in S0 -/
def TXS (S0 : HpT) (t0 : Nat) (T : tI) (S : HpT) (tx i j : Nat) : Prop :=
  (hK S 77 = 6 ∧ hR S 77 0 = some 78 ∧ hK S 78 = 11 ∧ hR S 78 0 = some tx ∧ 91 ≤ hN S0 ∧ hN S0 + 40100 < BIG) ∧
  (hK S tx = 22 ∧ tx < hN S ∧ (tx = t0 ∨ hN S0 ≤ tx) ∧ 16 ≤ hZ S tx ∧ hZ S tx ≤ 40002 ∧ tx ≠ 78) ∧
  (hI S 78 3 = nI T.1 ∧ hI S 78 1 = 0 ∧ T.1 ≤ hZ S tx ∧ (∀ k, k < T.1 → hI S tx k = T.2 k) ∧ T.1 ≤ 20000 ∧ TY T) ∧
  (hN S0 ≤ hN S ∧ ∀ a, a < hN S0 → hK S a = hK S0 a ∧ hZ S a = hZ S0 a ∧ (a ≠ 78 → ∀ k, hR S a k = hR S0 a k) ∧ (a ≠ 78 → a ≠ t0 → S.2.2.2.1 a = S0.2.2.2.1 a) ∧ S.2.2.2.2.1 a = S0.2.2.2.2.1 a) ∧
  (hZ S0 t0 ≤ hZ S tx ∧ hN S + hZ S0 t0 ≤ hN S0 + hZ S tx ∧ i + hZ S0 t0 ≤ hZ S tx ∧ j + 2 * hZ S0 t0 ≤ 2 * hZ S tx)
section TOPS
variable {α β : Type} {S0 S : HpT} {t0 tx i j : Nat} {T T1 T2 : tI}
theorem shr0 {n : Nat} (h : n < 2 ^ 31) : nI n >>> ((0 : Int32) &&& 31) = nI n := by
  rw [pk_shrN h _ 0 (by decide), Nat.pow_zero, Nat.div_one]
end TOPS
