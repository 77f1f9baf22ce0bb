/-! THE PURE LEVEL, 11: a question of the law -/
section LQ
variable {σ : HpT} {G : Nat → Nat → Int32} {J : Nat → Nat → Int64} {o b m d : Nat}
theorem upJ_self (J : Nat → Nat → Int64) (a k : Nat) : upJ J a k (J a k) = J := funext fun b => funext fun j => by
  unfold upJ
  by_cases h : b = a ∧ j = k
  · rw [if_pos h, h.1, h.2]
  · rw [if_neg h]
end LQ
