/-! THE PURE LEVEL, 94: the reference reads an act's line, a leaf's line, a line -/
def lnLine (f : Nat → Int32) (e p : Nat) (N : tN) : PRes := if kw f e p 2 = true then lnAct f e p N else if kw f e p 6 = true then lnStrike f e p N else if kw f e p 7 = true then lnOut f e p N else if kw f e p 8 = true then lnInsert f e p N else if kw f e p 9 = true then lnSeal f e p N else if kw f e p 10 = true then lnCancel f e p N else if kw f e p 11 = true then lnCopy f e p N else if kw f e p 12 = true then lnShake f e p N else lnLeaf f e p N
section MA2
variable {σ : HpT} {G : Nat → Nat → Int32} {f : Nat → Int32} {e p n : Nat} {N0 N N' M R : tN} {kd lo hi x y : Int32} {cur d cur' d' a l W : Nat}
theorem kd_b {k : Nat} (q : kdS f e p = some k) : k < 3 := by
  unfold kdS at q
  split at q
  · cases q
    decide
  · split at q
    · cases q
      decide
    · split at q
      · cases q
        decide
      · cases q
end MA2
