/-! THE PURE LEVEL, 38: a change of the Book in use, both sides -/
def inI (cl : Bool) (I : tI) : tI := if cl = true then (0, I.2) else I
def inG (cl : Bool) (G : Nat → Nat → Int32) (a k : Nat) : Nat → Nat → Int32 := if cl = true then up G a k 0 else G
section CHG
variable {σ σ' : HpT} {G G' : Nat → Nat → Int32} {J J' : Nat → Nat → Int64} {b bs ps ps' tx : Nat} {P : Nat → Option Nat} {E : tE} {I I' T : tI} {N N' : Nat → Int32} {U U' : tU} {V : tV}
theorem cr_cl (cl : Bool) (hC : CR σ G J b bs ps P tx E I N U V T) (hA : AW E I N U V T) : CR σ (inG cl G 0 1) J b bs ps P tx E (inI cl I) N U V T := by
  unfold inG inI
  cases cl
  · rw [if_neg (by decide), if_neg (by decide)]
    exact hC
  · rw [if_pos rfl, if_pos rfl]
    exact cr_in (I' := (0, I.2)) hC hA (fun k hk => up_k hk) (up_eq _ _ _ _) (fun k hk => absurd hk (Nat.not_lt_zero k)) (fun a h0 _ => up_a h0)
end CHG
