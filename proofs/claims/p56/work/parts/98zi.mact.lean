/-! THE PURE LEVEL, 93: the reference reads an act's line -/
def kdS (f : Nat → Int32) (e p : Nat) : Option Nat := if kw f e p 3 = true then some 0 else if kw f e p 4 = true then some 1 else if kw f e p 5 = true then some 2 else none
def lnAct (f : Nat → Int32) (e p : Nat) (N : tN) : PRes := if isOb N = true then .error (3, tkS f e p) else if nAc N = 10 then .error (4, tkS f e p) else match kdS f e (tkX f e p) with
  | none => .error (1, tkS f e (tkX f e p))
  | some k => bdS f e (nAc N) (e + 1) (bgN N (nI k)) (tkX f e (tkX f e p)) 0 0
section MAC
variable {σ : HpT} {G : Nat → Nat → Int32} {f : Nat → Int32} {e p n : Nat} {N0 N N' M R : tN} {kd lo hi x y : Int32} {cur d cur' d' a l W : Nat}
end MAC
