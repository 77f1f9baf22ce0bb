/-! THE PURE LEVEL, 73: KNOWNSHARE, MEANWORDS -/
theorem rr_nan (f : FP.Core.Fmt) (s : Bool) (A B : Nat) (e : Int) : FP.Core.roundRatio f s A B e ≠ .nan := by
  unfold FP.Core.roundRatio FP.Core.roundAt FP.Core.settle FP.Core.bound
  split
  · intro h
    cases h
  · split
    · split
      · intro h
        cases h
      · intro h
        cases h
    · split
      · intro h
        cases h
      · intro h
        cases h
theorem quo_nan {f : FP.Core.Fmt} {i j : Int} {x y : FP.Core.Datum} (hx : FP.Core.Whole i x) (hy : FP.Core.Whole j y) (hj : j ≠ 0) : FP.Core.quotient f x y ≠ .nan := by
  cases x with
  | nan => exact hx.elim
  | inf s => exact hx.elim
  | fin s c q =>
    cases y with
    | nan => exact hy.elim
    | inf s => exact hy.elim
    | fin t d r =>
      show (if d = 0 then (if c = 0 then FP.Core.Datum.nan else .inf (s != t)) else FP.Core.roundRatio f (s != t) c d (q - r)) ≠ _
      rw [if_neg (fun e => hj ((FP.Core.whole_zero hy).mp e))]
      exact rr_nan _ _ _ _ _
theorem chF_ok {a : UInt32} (h : FP.Core.decode FP.Core.b32 (a).toNat ≠ .nan) : chF a = some () := by
  unfold chF
  refine if_pos ?_
  rw [UInt32.le_iff_toNat_le, UInt32.toNat_and]
  show a.toNat &&& (2 ^ 31 - 1) ≤ 2139095040
  rw [Nat.and_two_pow_sub_one_eq_mod]
  refine Classical.byContradiction fun hlt => h ?_
  have e1 : a.toNat / FP.Core.b32.tails % FP.Core.b32.exps = FP.Core.b32.exps - 1 := by
    show a.toNat / 8388608 % 256 = 255
    omega
  have e2 : ¬ a.toNat % FP.Core.b32.tails = 0 := by
    show ¬ a.toNat % 8388608 = 0
    omega
  unfold FP.Core.decode FP.Core.fieldE FP.Core.fieldT
  rw [if_pos e1, if_neg e2]
theorem chD_ok {a : UInt64} (h : FP.Core.decode FP.Core.b64 (a).toNat ≠ .nan) : chD a = some () := by
  unfold chD
  refine if_pos ?_
  rw [UInt64.le_iff_toNat_le, UInt64.toNat_and]
  show a.toNat &&& (2 ^ 63 - 1) ≤ 9218868437227405312
  rw [Nat.and_two_pow_sub_one_eq_mod]
  refine Classical.byContradiction fun hlt => h ?_
  have e1 : a.toNat / FP.Core.b64.tails % FP.Core.b64.exps = FP.Core.b64.exps - 1 := by
    show a.toNat / 4503599627370496 % 2048 = 2047
    omega
  have e2 : ¬ a.toNat % FP.Core.b64.tails = 0 := by
    show ¬ a.toNat % 4503599627370496 = 0
    omega
  unfold FP.Core.decode FP.Core.fieldE FP.Core.fieldT
  rw [if_pos e1, if_neg e2]
theorem f2d_ok {a : UInt32} (h : FP.Core.decode FP.Core.b32 (a).toNat ≠ .nan) : FP.Core.decode FP.Core.b64 (FP.f2d a).toNat ≠ .nan := by
  have e : FP.f2d a = FP.Core.f2d a := by
    unfold FP.f2d
    rw [if_neg (fun e => h ((FP.Core.fIsNaN_iff a).mp e))]
  show FP.Core.val64 (FP.f2d a) ≠ _
  rw [e, FP.Core.val64_f2d]
  cases z : FP.Core.val32 a with
  | nan => exact absurd z h
  | inf s =>
    intro q
    cases q
  | fin s c q => exact rr_nan _ _ _ _ _
theorem nI_abs {n : Nat} (h : n < 2 ^ 31) : (nI n).toInt.natAbs = n ∧ ((nI n).toInt ≠ 0 ↔ n ≠ 0) := by
  rw [nI_toInt h]
  omega
theorem fdiv_ok {a b : Nat} (ha : a ≤ 2 ^ 24) (hb : b ≤ 2 ^ 24) (h : b ≠ 0) : FP.Core.decode FP.Core.b32 (FP.fdiv (FP.i2f (nI a)) (FP.i2f (nI b))).toNat ≠ .nan := by
  have na := nI_abs (n := a) (by omega)
  have nb := nI_abs (n := b) (by omega)
  have wa : FP.Core.FInt (nI a).toInt (FP.Core.i2f (nI a)) := FP.Core.i2f_int (by rw [na.1]; exact ha)
  have wb : FP.Core.FInt (nI b).toInt (FP.Core.i2f (nI b)) := FP.Core.i2f_int (by rw [nb.1]; exact hb)
  show FP.Core.val32 (FP.Core.fdiv (FP.Core.i2f (nI a)) (FP.Core.i2f (nI b))) ≠ _
  rw [FP.Core.val32_fdiv]
  exact quo_nan wa wb (nb.2.mpr h)
theorem ddiv_ok {a : Int32} {b : Nat} (hb : b < 2 ^ 31) (h : b ≠ 0) : FP.Core.decode FP.Core.b64 (FP.ddiv (FP.i2d a) (FP.i2d (nI b))).toNat ≠ .nan := by
  have nb := nI_abs (n := b) hb
  show FP.Core.val64 (FP.Core.ddiv (FP.Core.i2d a) (FP.Core.i2d (nI b))) ≠ _
  rw [FP.Core.val64_ddiv]
  exact quo_nan (FP.Core.i2d_int a) (FP.Core.i2d_int (nI b)) (nb.2.mpr h)
theorem cmp_ok {x : UInt64} (h : FP.Core.decode FP.Core.b64 (x).toNat ≠ .nan) : Op.cmpValue (FP.dcmp x x) .l = 0 := by
  rw [show FP.dcmp x x = FP.Core.dcmp x x from rfl, FP.Core.dcmp_self h]
  rfl
theorem f0_ok : FP.Core.decode FP.Core.b32 (FP.fconst0).toNat ≠ .nan := by
  show FP.Core.val32 FP.Core.fconst0 ≠ _
  rw [FP.Core.val32_fconst0]
  intro h
  cases h
theorem d0_ok : FP.Core.decode FP.Core.b64 (FP.dconst0).toNat ≠ .nan := by
  show FP.Core.val64 FP.Core.dconst0 ≠ _
  rw [FP.Core.val64_dconst0]
  intro h
  cases h
