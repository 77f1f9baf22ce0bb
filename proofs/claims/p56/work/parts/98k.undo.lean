/-! THE PURE LEVEL, 69: UNDO -/
def swP (P : Nat → Option Nat) (r : Nat) : Nat → Option Nat := fun i => P (if i = 0 then r else if i = r then 0 else i)
section UND
variable {σ σ' : HpT} {G : Nat → Nat → Int32} {J : Nat → Nat → Int64} {b bs ps tx x r n : Nat} {P : Nat → Option Nat} {E : tE} {I T : tI} {N : Nat → Int32} {U : tU} {V : tV}
end UND
