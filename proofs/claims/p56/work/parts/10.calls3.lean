/-! THE ROWS OF CALLS, MAKINGS, THROWS -/
section CMB
variable {α β γ : Type}
def bnP (o : Option α) (f : α → Option γ) : Option γ := match o with
  | none => none
  | some a => f a
def bnS (o : Option (α × HpT)) (f : α → HpT → Option γ) : Option γ := match o with
  | none => none
  | some (a, σ) => f a σ
def bnX (o : Option (Except Nat α)) (f : α → Option (Except Nat β)) : Option (Except Nat β) := match o with
  | none => none
  | some (.error e) => some (.error e)
  | some (.ok a) => f a
abbrev AT (α : Type) : Type := Option (Except Nat α × HpT × Nat × Nat)
def bnXA (σ : HpT) (o : Option (Except Nat α)) (f : α → AT β) : AT β := match o with
  | none => none
  | some (.error e) => some (.error e, σ, 1, 6)
  | some (.ok a) => f a
def bnA (o : AT α) (f : α → HpT → AT β) : AT β := match o with
  | none => none
  | some (.error e, σ, a, b) => some (.error e, σ, a, b)
  | some (.ok v, σ, a, b) => match f v σ with
    | none => none
    | some (o2, σ2, a2, b2) => some (o2, σ2, a + a2, b + b2)
theorem bnP_s {o : Option α} {f : α → Option γ} {y : γ} (h : bnP o f = some y) : ∃ a, o = some a ∧ f a = some y := by
  cases o with
  | none => cases h
  | some a => exact ⟨a, rfl, h⟩
theorem bnS_s {o : Option (α × HpT)} {f : α → HpT → Option γ} {y : γ} (h : bnS o f = some y) : ∃ a σ, o = some (a, σ) ∧ f a σ = some y := by
  cases o with
  | none => cases h
  | some a => exact ⟨a.1, a.2, rfl, h⟩
theorem bnX_s {o : Option (Except Nat α)} {f : α → Option (Except Nat β)} {y : Except Nat β} (h : bnX o f = some y) : (∃ e, o = some (.error e) ∧ y = .error e) ∨ ∃ a, o = some (.ok a) ∧ f a = some y := by
  cases o with
  | none => cases h
  | some a =>
    cases a with
    | error e => exact Or.inl ⟨e, rfl, (Option.some.inj h).symm⟩
    | ok a => exact Or.inr ⟨a, rfl, h⟩
theorem bnXA_s {σ : HpT} {o : Option (Except Nat α)} {f : α → AT β} {y : Except Nat β} {σ' : HpT} {a b : Nat} (h : bnXA σ o f = some (y, σ', a, b)) : (∃ e, o = some (.error e) ∧ y = .error e ∧ σ' = σ ∧ a = 1 ∧ b = 6) ∨ ∃ v, o = some (.ok v) ∧ f v = some (y, σ', a, b) := by
  cases o with
  | none => cases h
  | some x =>
    cases x with
    | error e =>
      have h := Option.some.inj h
      cases h
      exact Or.inl ⟨e, rfl, rfl, rfl, rfl, rfl⟩
    | ok v => exact Or.inr ⟨v, rfl, h⟩
theorem bnA_s {o : AT α} {f : α → HpT → AT β} {y : Except Nat β} {σ' : HpT} {a b : Nat} (h : bnA o f = some (y, σ', a, b)) : (∃ e, o = some (.error e, σ', a, b) ∧ y = .error e) ∨ ∃ v σ1 a1 b1 a2 b2, o = some (.ok v, σ1, a1, b1) ∧ f v σ1 = some (y, σ', a2, b2) ∧ a = a1 + a2 ∧ b = b1 + b2 := by
  cases o with
  | none => cases h
  | some x =>
    obtain ⟨x, σ1, a1, b1⟩ := x
    cases x with
    | error e =>
      have h := Option.some.inj h
      cases h
      exact Or.inl ⟨e, rfl, rfl⟩
    | ok v =>
      unfold bnA at h
      dsimp only at h
      cases e : f v σ1 with
      | none => rw [e] at h; cases h
      | some z =>
        obtain ⟨o2, σ2, a2, b2⟩ := z
        rw [e] at h
        have h := Option.some.inj h
        cases h
        exact Or.inr ⟨v, σ1, a1, b1, a2, b2, rfl, e, rfl, rfl⟩
/-! loops: a step goes on with new values, or ends -/
def lpP (f : α → Option (α ⊕ β)) : Nat → α → Option β
  | 0, _ => none
  | n + 1, a => match f a with
    | none => none
    | some (.inl a') => lpP f n a'
    | some (.inr b) => some b
def lpS (f : α → HpT → Option ((α ⊕ β) × HpT)) : Nat → α → HpT → Option (β × HpT)
  | 0, _, _ => none
  | n + 1, a, σ => match f a σ with
    | none => none
    | some (.inl a', σ') => lpS f n a' σ'
    | some (.inr b, σ') => some (b, σ')
def lpX (f : α → Option (Except Nat (α ⊕ β))) : Nat → α → Option (Except Nat β)
  | 0, _ => none
  | n + 1, a => match f a with
    | none => none
    | some (.error e) => some (.error e)
    | some (.ok (.inl a')) => lpX f n a'
    | some (.ok (.inr b)) => some (.ok b)
def lpA (f : α → HpT → AT (α ⊕ β)) : Nat → α → HpT → AT β
  | 0, _, _ => none
  | n + 1, a, σ => match f a σ with
    | none => none
    | some (.error e, σ', i, j) => some (.error e, σ', i, j)
    | some (.ok (.inl a'), σ', i, j) => match lpA f n a' σ' with
      | none => none
      | some (o2, σ2, i2, j2) => some (o2, σ2, i + i2, j + j2)
    | some (.ok (.inr b), σ', i, j) => some (.ok b, σ', i, j)
def FUEL : Nat := 200000
theorem lpP_w {f : α → Option (α ⊕ β)} {I : α → Prop} {r : β} (hb : ∀ a x, f a = some x → (∀ a', x = .inl a' → I a') → (∀ b, x = .inr b → b = r) → I a) : ∀ (n : Nat) (a : α), lpP f n a = some r → I a := by
  intro n
  induction n with
  | zero => intro a h; cases h
  | succ n ih =>
    intro a h
    unfold lpP at h
    cases e : f a with
    | none => rw [e] at h; cases h
    | some x =>
      rw [e] at h
      refine hb a x e (fun a' hx => ?_) (fun b hx => ?_)
      · subst hx; exact ih a' h
      · subst hx; exact Option.some.inj h
theorem lpS_w {f : α → HpT → Option ((α ⊕ β) × HpT)} {I : α → HpT → Prop} {r : β} {σr : HpT} (hb : ∀ a σ x σ', f a σ = some (x, σ') → (∀ a', x = .inl a' → I a' σ') → (∀ b, x = .inr b → b = r ∧ σ' = σr) → I a σ) : ∀ (n : Nat) (a : α) (σ : HpT), lpS f n a σ = some (r, σr) → I a σ := by
  intro n
  induction n with
  | zero => intro a σ h; cases h
  | succ n ih =>
    intro a σ h
    unfold lpS at h
    cases e : f a σ with
    | none => rw [e] at h; cases h
    | some x =>
      obtain ⟨x, σ'⟩ := x
      rw [e] at h
      refine hb a σ x σ' e (fun a' hx => ?_) (fun b hx => ?_)
      · subst hx; exact ih a' σ' h
      · subst hx
        have h := Option.some.inj h
        cases h
        exact ⟨rfl, rfl⟩
theorem lpX_w {f : α → Option (Except Nat (α ⊕ β))} {I : α → Prop} {r : Except Nat β} (hb : ∀ a x, f a = some x → (∀ a', x = .ok (.inl a') → I a') → (∀ b, x = .ok (.inr b) → r = .ok b) → (∀ e, x = .error e → r = .error e) → I a) : ∀ (n : Nat) (a : α), lpX f n a = some r → I a := by
  intro n
  induction n with
  | zero => intro a h; cases h
  | succ n ih =>
    intro a h
    unfold lpX at h
    cases e : f a with
    | none => rw [e] at h; cases h
    | some x =>
      rw [e] at h
      refine hb a x e (fun a' hx => ?_) (fun b hx => ?_) (fun b hx => ?_)
      · subst hx; exact ih a' h
      · subst hx; exact (Option.some.inj h).symm
      · subst hx; exact (Option.some.inj h).symm
theorem lpA_w {f : α → HpT → AT (α ⊕ β)} {I : α → HpT → Nat → Nat → Prop} {r : Except Nat β} {σr : HpT} {A B : Nat}
    (hb : ∀ a σ i j x σ' i1 j1, f a σ = some (x, σ', i1, j1) → (∀ a', x = .ok (.inl a') → I a' σ' (i + i1) (j + j1)) → (∀ a', x = .ok (.inl a') → i + i1 ≤ A ∧ j + j1 ≤ B) → (∀ b, x = .ok (.inr b) → r = .ok b ∧ σr = σ' ∧ i + i1 = A ∧ j + j1 = B) → (∀ e, x = .error e → r = .error e ∧ σr = σ' ∧ i + i1 = A ∧ j + j1 = B) → I a σ i j) :
    ∀ (n : Nat) (a : α) (σ : HpT) (i j k l : Nat), lpA f n a σ = some (r, σr, k, l) → i + k = A → j + l = B → I a σ i j := by
  intro n
  induction n with
  | zero => intro a σ i j k l h; cases h
  | succ n ih =>
    intro a σ i j k l h hi hj
    unfold lpA at h
    cases e : f a σ with
    | none => rw [e] at h; cases h
    | some x =>
      obtain ⟨x, σ', i1, j1⟩ := x
      rw [e] at h
      refine hb a σ i j x σ' i1 j1 e (fun a' hx => ?_) (fun a' hx => ?_) (fun b hx => ?_) (fun b hx => ?_)
      · subst hx
        dsimp only at h
        cases e2 : lpA f n a' σ' with
        | none => rw [e2] at h; cases h
        | some z =>
          obtain ⟨o2, σ2, i2, j2⟩ := z
          rw [e2] at h
          have h := Option.some.inj h
          cases h
          exact ih a' σ' (i + i1) (j + j1) i2 j2 e2 (by omega) (by omega)
      · subst hx
        dsimp only at h
        cases e2 : lpA f n a' σ' with
        | none => rw [e2] at h; cases h
        | some z =>
          obtain ⟨o2, σ2, i2, j2⟩ := z
          rw [e2] at h
          have h := Option.some.inj h
          cases h
          exact ⟨by omega, by omega⟩
      · subst hx
        have h := Option.some.inj h
        cases h
        exact ⟨rfl, rfl, hi, hj⟩
      · subst hx
        have h := Option.some.inj h
        cases h
        exact ⟨rfl, rfl, hi, hj⟩
end CMB
/-- what a read-only call that may throw costs -/
def xc {α : Type} : Except Nat α → Nat
  | .ok _ => 0
  | .error _ => 1
def xs {α : Type} : Except Nat α → Nat
  | .ok _ => 0
  | .error _ => 6
/-- makings -/
def nwA (κ : Nat) (σ : HpT) : AT (Option Nat) := if hN σ < BIG then some (.ok (some (hN σ)), wN σ κ 0, 1, nF κ) else none
def nwR (κ : Nat) (n : Int32) (σ : HpT) : AT (Option Nat) := if hN σ < BIG ∧ 0 ≤ n.toInt ∧ n.toInt ≤ 1000000 then some (.ok (some (hN σ)), wN σ κ n.toNatClampNeg, 1, n.toNatClampNeg) else none
/-- System.arraycopy of ints, bytes; of longs -/
def cpI (κ : Nat) (σ : HpT) (r : Option Nat) (sp : Int32) (r2 : Option Nat) (dp n : Int32) : Option HpT := match r, r2 with
  | some a, some b => if hK σ a = κ ∧ hK σ b = κ ∧ a < hN σ ∧ b < hN σ ∧ 0 ≤ sp.toInt ∧ 0 ≤ dp.toInt ∧ 0 ≤ n.toInt ∧ sp.toNatClampNeg + n.toNatClampNeg ≤ hZ σ a ∧ dp.toNatClampNeg + n.toNatClampNeg ≤ hZ σ b then some (wIr σ b (va_cpy (hI σ a) (hI σ b) sp.toNatClampNeg dp.toNatClampNeg n.toNatClampNeg)) else none
  | _, _ => none
def cpJ (σ : HpT) (r : Option Nat) (sp : Int32) (r2 : Option Nat) (dp n : Int32) : Option HpT := match r, r2 with
  | some a, some b => if hK σ a = 21 ∧ hK σ b = 21 ∧ a < hN σ ∧ b < hN σ ∧ 0 ≤ sp.toInt ∧ 0 ≤ dp.toInt ∧ 0 ≤ n.toInt ∧ sp.toNatClampNeg + n.toNatClampNeg ≤ hZ σ a ∧ dp.toNatClampNeg + n.toNatClampNeg ≤ hZ σ b then some (wJr σ b (va_cpy (hJ σ a) (hJ σ b) sp.toNatClampNeg dp.toNatClampNeg n.toNatClampNeg)) else none
  | _, _ => none
/-- a divisor that isn't 0; a boolean -/
def nz (x : Int32) : Option Unit := if x = 0 then none else some ()
theorem nz_s {x : Int32} {u : Unit} (h : nz x = some u) : ¬ x = 0 := by
  unfold nz at h
  split at h
  · cases h
  · assumption
def toB (x : Int32) : Option Bool := if x = 0 then some false else if x = 1 then some true else none
theorem toB_s {x : Int32} {b : Bool} (h : toB x = some b) : x = bI b := by
  unfold toB at h
  split at h
  · rename_i e; cases h; exact e
  · split at h
    · rename_i e; cases h; exact e
    · cases h
theorem nar_bI (b : Bool) : narrow .boolean (.int (bI b)) = .int (bI b) := by cases b <;> rfl
def chF (x : UInt32) : Option Unit := if x &&& 0x7fffffff ≤ 0x7f800000 then some () else none
def chD (x : UInt64) : Option Unit := if x &&& 0x7fffffffffffffff ≤ 0x7ff0000000000000 then some () else none
theorem chF_s {x : UInt32} {u : Unit} (h : chF x = some u) : vf_n32 x := by
  unfold chF at h
  split at h
  · assumption
  · cases h
theorem chD_s {x : UInt64} {u : Unit} (h : chD x = some u) : vf_n64 x := by
  unfold chD at h
  split at h
  · assumption
  · cases h
section GN
variable {Δ : AmbT} {Γ : CtxT} {own : String} {cc : ByteArray} {nL fr lo Kc Ks kc ks pc : Nat} {L : List (Nat × Value)} {st stk : List Value} {σ σ1 : HpT}
variable {y : MethodName} {cc1 : ByteArray} {nL1 : Nat} {ret1 ret : Option FieldType} {n fr1 lo1 idx κ k1c k1s : Nat} {as : List Value} {r : Option Nat} {v : Option Value} {x : Nat} {q : vw_C}
theorem g_callV (B : Bd Δ Γ own cc nL fr lo Kc Ks) (hC : IsK σ r κ ∧ Ct Γ.2.1 y cc1 nL1 ret1 fr1 lo1 (va_rf r :: as) σ (.ok v) σ1 k1c k1s) (h12 : κ < 15) (hq : gcl[κ]? = some q) (hy : q.1 = y.cls) (hM : MI y cc1 nL1 ret1 n) (hl0 : LV own idx y) (hR : fr1 + 1 ≤ fr ∧ 8 + (nL1 + 11) + lo1 ≤ lo) (hn : as.length = n) (hstk : stk = as.reverse ++ (va_rf r :: st)) (h4 : st.length ≤ 4) (d : decode cc pc = .ok (.invokevirtual idx, 3)) (hc : kc + k1c ≤ Kc) (hs : ks + k1s ≤ Ks) (kk : GW Δ Γ (kc + k1c) (ks + k1s) (pc + 3) L (v.toList ++ st) σ1) : GW Δ Γ kc ks pc L stk σ :=
  fun φ H locs ls hp hst hL hl => of_run B hp (by rw [hstk] at hst; exact (SC.app hst).2.t) hL hl (runV B hC.1 h12 hq hy hC.2 hM hl0 hR hn hstk h4 d hc hs hp hst hl) kk
theorem g_callVx (B : Bd Δ Γ own cc nL fr lo Kc Ks) (hC : IsK σ r κ ∧ Ct Γ.2.1 y cc1 nL1 ret1 fr1 lo1 (va_rf r :: as) σ (.error x) σ1 k1c k1s) (h12 : κ < 15) (hq : gcl[κ]? = some q) (hy : q.1 = y.cls) (hM : MI y cc1 nL1 ret1 n) (hl0 : LV own idx y) (hR : fr1 + 1 ≤ fr ∧ 8 + (nL1 + 11) + lo1 ≤ lo) (hn : as.length = n) (hstk : stk = as.reverse ++ (va_rf r :: st)) (h4 : st.length ≤ 4) (d : decode cc pc = .ok (.invokevirtual idx, 3)) (hc : kc + k1c ≤ Kc) (hs : ks + k1s ≤ Ks) (E : En Δ Γ (.error x) σ1 Kc Ks ret) : GW Δ Γ kc ks pc L stk σ :=
  fun φ H locs ls hp hst hL hl => of_runX B hp (runV B hC.1 h12 hq hy hC.2 hM hl0 hR hn hstk h4 d hc hs hp hst hl) E hc hs
theorem g_callS (B : Bd Δ Γ own cc nL fr lo Kc Ks) (hC : Ct Γ.2.1 y cc1 nL1 ret1 fr1 lo1 as σ (.ok v) σ1 k1c k1s) (hM : MI y cc1 nL1 ret1 n) (hl0 : LSt own idx y) (hR : fr1 + 1 ≤ fr ∧ 8 + (nL1 + 11) + lo1 ≤ lo) (hn : as.length = n) (hstk : stk = as.reverse ++ st) (h4 : st.length ≤ 4) (d : decode cc pc = .ok (.invokestatic idx, 3)) (hc : kc + k1c ≤ Kc) (hs : ks + k1s ≤ Ks) (kk : GW Δ Γ (kc + k1c) (ks + k1s) (pc + 3) L (v.toList ++ st) σ1) : GW Δ Γ kc ks pc L stk σ :=
  fun φ H locs ls hp hst hL hl => of_run B hp (by rw [hstk] at hst; exact (SC.app hst).2) hL hl (runS B hC hM hl0 hR hn hstk h4 d hc hs hp hst hl) kk
theorem g_callSx (B : Bd Δ Γ own cc nL fr lo Kc Ks) (hC : Ct Γ.2.1 y cc1 nL1 ret1 fr1 lo1 as σ (.error x) σ1 k1c k1s) (hM : MI y cc1 nL1 ret1 n) (hl0 : LSt own idx y) (hR : fr1 + 1 ≤ fr ∧ 8 + (nL1 + 11) + lo1 ≤ lo) (hn : as.length = n) (hstk : stk = as.reverse ++ st) (h4 : st.length ≤ 4) (d : decode cc pc = .ok (.invokestatic idx, 3)) (hc : kc + k1c ≤ Kc) (hs : ks + k1s ≤ Ks) (E : En Δ Γ (.error x) σ1 Kc Ks ret) : GW Δ Γ kc ks pc L stk σ :=
  fun φ H locs ls hp hst hL hl => of_runX B hp (runS B hC hM hl0 hR hn hstk h4 d hc hs hp hst hl) E hc hs
theorem g_callNS {host : String} (B : Bd Δ Γ own cc nL fr lo Kc Ks) (hC : Ct Γ.2.1 y cc1 nL1 ret1 fr1 lo1 as σ (.ok v) σ1 k1c k1s) (hM : MI y cc1 nL1 ret1 n) (hl0 : LNS own host idx y) (hR : fr1 + 1 ≤ fr ∧ 8 + (nL1 + 11) + lo1 ≤ lo) (hn : as.length = n) (hstk : stk = as.reverse ++ st) (h4 : st.length ≤ 4) (d : decode cc pc = .ok (.invokestatic idx, 3)) (hc : kc + k1c ≤ Kc) (hs : ks + k1s ≤ Ks) (kk : GW Δ Γ (kc + k1c) (ks + k1s) (pc + 3) L (v.toList ++ st) σ1) : GW Δ Γ kc ks pc L stk σ :=
  fun φ H locs ls hp hst hL hl => of_run B hp (by rw [hstk] at hst; exact (SC.app hst).2) hL hl (runNS B hC hM hl0 hR hn hstk h4 d hc hs hp hst hl) kk
theorem g_callI (B : Bd Δ Γ own cc nL fr lo Kc Ks) (hC : IsK σ r κ ∧ Ct Γ.2.1 y cc1 nL1 none fr1 lo1 (va_rf r :: as) σ (.ok v) σ1 k1c k1s) (hM : MI y cc1 nL1 none n) (hl0 : LI own idx y) (hR : fr1 + 1 ≤ fr ∧ 8 + (nL1 + 11) + lo1 ≤ lo) (hn : as.length = n) (hstk : stk = as.reverse ++ (va_rf r :: st)) (h4 : st.length ≤ 4) (d : decode cc pc = .ok (.invokespecial idx, 3)) (hc : kc + k1c ≤ Kc) (hs : ks + k1s ≤ Ks) (kk : GW Δ Γ (kc + k1c) (ks + k1s) (pc + 3) L (v.toList ++ st) σ1) : GW Δ Γ kc ks pc L stk σ := by
  obtain ⟨⟨a, rfl, -⟩, hC⟩ := hC
  exact fun φ H locs ls hp hst hL hl => of_run B hp (by rw [hstk] at hst; exact (SC.app hst).2.t) hL hl (runI B hC hM hl0 hR hn hstk h4 d hc hs hp hst hl) kk
theorem g_callNI {host : String} (B : Bd Δ Γ own cc nL fr lo Kc Ks) (hC : IsK σ r κ ∧ Ct Γ.2.1 y cc1 nL1 none fr1 lo1 (va_rf r :: as) σ (.ok v) σ1 k1c k1s) (hM : MI y cc1 nL1 none n) (hl0 : LNI own host idx y) (hR : fr1 + 1 ≤ fr ∧ 8 + (nL1 + 11) + lo1 ≤ lo) (hn : as.length = n) (hstk : stk = as.reverse ++ (va_rf r :: st)) (h4 : st.length ≤ 4) (d : decode cc pc = .ok (.invokespecial idx, 3)) (hc : kc + k1c ≤ Kc) (hs : ks + k1s ≤ Ks) (kk : GW Δ Γ (kc + k1c) (ks + k1s) (pc + 3) L (v.toList ++ st) σ1) : GW Δ Γ kc ks pc L stk σ := by
  obtain ⟨⟨a, rfl, -⟩, hC⟩ := hC
  exact fun φ H locs ls hp hst hL hl => of_run B hp (by rw [hstk] at hst; exact (SC.app hst).2.t) hL hl (runNI B hC hM hl0 hR hn hstk h4 d hc hs hp hst hl) kk
/-- Object's own constructor -/
theorem g_objInit (B : Bd Δ Γ own cc nL fr lo Kc Ks) {a : Nat} (hl0 : Cond.methodLink own idx Lib.objectInit ∈ ALLw) (hi : Cond.instanceMethod Lib.objectInit ∈ ALLw) (hcd : Cond.code Lib.objectInit ⟨#[0xb1]⟩ 1 none ∈ ALLw) (hR : 1 ≤ fr ∧ 20 ≤ lo) (h4 : st.length ≤ 4) (d : decode cc pc = .ok (.invokespecial idx, 3)) (kk : GW Δ Γ kc ks (pc + 3) L st σ) : GW Δ Γ kc ks pc L (va_rf (some a) :: st) σ := fun φ H locs ls hp hst hL hl => by
  have hcat := cat_le φ st 4 h4
  refine W.objInit B.1 B.2.1 B.2.2.2.1 (B.2.2.2.2.1 _ hl0) (B.2.2.2.2.1 _ hi) (B.2.2.2.2.1 _ hcd) rfl hl.1 rfl d (by rw [B.2.2.2.2.2.2.2.2.1]; exact hR.1) (by rw [B.2.2.2.2.2.2.2.2.2.1]; show 2 * 0 + _ + 12 ≤ lo; omega) ?_
  exact kk φ H locs ls hp hst.t hL hl
/-- where the walk stands behind a making -/
theorem Rp.made {s : State} {φ : Nat → Nat} {H H1 : Heap} {locs : List Loc} {z p : Nat} {e : va_E} (hp : Rp Δ s φ σ H locs) (hb : hN σ < BIG) (hκ : κ ≠ 99) (hP : va_P Δ.1 gcl (wsOf Δ.2.1 φ σ ++ [(p, e)]) H1) (hD : va_D (AA Δ) (wsOf Δ.2.1 φ σ ++ [(p, e)])) (hS : va_S (AA Δ) s.heap H1 locs) (he : ent Δ.2.1 (va_up φ (hN σ) p) (wN σ κ z) (hN σ) = e) : Rp Δ s (va_up φ (hN σ) p) (wN σ κ z) H1 locs ∧ ∀ j, CLn σ j → va_up φ (hN σ) p j = φ j := by
  obtain ⟨h1, h2, h3, h4, h5, h6, h7⟩ := hp
  have hj : ∀ j, CLn σ j → va_up φ (hN σ) p j = φ j := fun j hj => va_up_ne _ _ (by rcases hj with q | q <;> omega)
  have hw : wsOf Δ.2.1 φ σ ++ [(p, e)] = wsOf Δ.2.1 (va_up φ (hN σ) p) (wN σ κ z) := by
    refine ws_push (hN_wN σ κ z) (fun j hj2 => ⟨hj j (Or.inl hj2), ent_same ?_ ?_ (fun k => ?_) (fun k => ?_) (fun k => ?_) (fun k => ?_)⟩) (va_up_self _ _ _) he
    · rw [hK_wN, if_neg (by omega)]
    · rw [hZ_wN, if_neg (by omega)]
    · rw [hI_wN, if_neg (by omega)]
    · rw [hJ_wN, if_neg (by omega)]
    · rw [hR_wN, if_neg (by omega)]
      cases e9 : hR σ j k with
      | none => rfl
      | some j9 => exact congrArg some (hj j9 (h5.2.1 j k j9 hj2 e9))
    · rw [hD_wN, if_neg (by omega)]
  rw [hw] at hP hD
  refine ⟨⟨hP, hD, hS, fun j hj9 => (hj j (Or.inr hj9)).trans (h4 j hj9), ⟨?_, fun i k j hi h => ?_, fun i k h => ?_⟩, fun j hj9 => ?_, by have := h7.1; rw [hN_wN]; omega, h7.2⟩, hj⟩
  · rw [hN_wN]; omega
  · rw [hR_wN] at h
    split at h
    · cases h
    · have hi2 : i < hN σ := by rw [hN_wN] at hi; omega
      rcases h5.2.1 i k j hi2 h with q | q
      · exact Or.inl (by rw [hN_wN]; omega)
      · exact Or.inr q
  · rw [hI_wN]
    split
    · rfl
    · rename_i hne
      rw [hK_wN, if_neg hne] at h
      exact h5.2.2 i k h
  · have : CLn σ j := by
      rcases hj9 with q | q
      · exact Or.inl (Nat.lt_of_lt_of_le q h7.1)
      · exact Or.inr q
    exact (hj j this).trans (h6 j hj9)
theorem SC.up {z : Nat} (h : SC σ st) : SC (wN σ κ z) st := fun v hv => (h v hv).mono (by rw [hN_wN]; omega)
theorem LC.up {z : Nat} (h : ∀ q ∈ L, CL σ q.2) : ∀ q ∈ L, CL (wN σ κ z) q.2 := fun v hv => (h v hv).mono (by rw [hN_wN]; omega)
/-- a class that can be made -/
def NW (own : String) (idx κ : Nat) : Prop := ∃ (C : String) (T : u_T) (N : Nat) (ty0 : Nat → FieldType), gcl[κ]? = some (C, T, N) ∧ N = nF κ ∧ (∀ w ∈ u_ws C T N, w ∈ ALLw) ∧ (∀ j, j < N → parseFieldDescriptor (T j).2.2.1 = some (ty0 j)) ∧ Cond.classLink own idx C ∈ ALLw ∧ Cond.instantiable C N ∈ ALLw ∧ Cond.initialized C ∈ ALLw ∧ κ < 20 ∧
  ∀ j, j < N → defaultValue (ty0 j) = (if fT κ j = 0 then .int 0 else if fT κ j = 1 then .long 0 else .null)
theorem g_new (B : Bd Δ Γ own cc nL fr lo Kc Ks) {r0 : Option Nat} (hN9 : NW own idx κ) (d : decode cc pc = .ok (.new idx, 3)) (h : nwA κ σ = some (.ok r0, σ1, k1c, k1s)) (hc : kc + k1c ≤ Kc) (hs : ks + k1s ≤ Ks) (kk : GW Δ Γ (kc + k1c) (ks + k1s) (pc + 3) L (va_rf r0 :: st) σ1) : GW Δ Γ kc ks pc L st σ := fun φ H locs ls hp hst hL hl => by
  obtain ⟨C, T, N, ty0, f1, f2, f3, f4, f5, f6, f7, f8, f9⟩ := hN9
  unfold nwA at h
  split at h
  · rename_i hb
    have h := Option.some.inj h
    cases h
    refine va_new B.1 B.2.1 B.2.2.2.2.1 f3 ty0 f4 B.2.2.2.1 (B.2.2.2.2.1 _ f5) (B.2.2.2.2.1 _ f6) (B.2.2.2.2.1 _ f7) B.2.2.2.2.2.1 hp.1 hp.2.1 hp.2.2.1 (fun z hz => Nat.le_trans B.2.2.2.2.2.2.1 hz) f1 (fs := flds φ (wN σ κ 0) (hN σ) κ) (fun j hj => ?_) (by rw [B.2.2.2.2.2.2.2.2.2.2.1]; exact hc) (by rw [B.2.2.2.2.2.2.2.2.2.2.2.1, f2]; exact hs) d (fun p H1 hP hD hS => ?_)
    · rw [f9 j hj]
      unfold vp_V
      rw [List.getD_eq_getElem?_getD, fl_at (by omega)]
      unfold fv
      rw [hI_wN, if_pos rfl, hJ_wN, if_pos rfl, hR_wN, if_pos rfl]
      rfl
    · have hk : hK (wN σ κ 0) (hN σ) = κ := by rw [hK_wN, if_pos rfl]
      have he : ent Δ.2.1 (va_up φ (hN σ) p) (wN σ κ 0) (hN σ) = .inr (κ, flds φ (wN σ κ 0) (hN σ) κ) := by
        rw [entC hk f8]
        refine congrArg (fun l => Sum.inr (κ, l)) ?_
        unfold flds
        apply List.map_congr_left
        intro k _
        unfold fv
        rw [hR_wN, if_pos rfl]
        rfl
      obtain ⟨h8, h9⟩ := hp.made hb (by omega) hP hD hS he
      have kk := kk (va_up φ (hN σ) p) H1 locs ls h8 (SC.c (v := .ref (hN σ)) (Or.inl (by rw [hN_wN]; omega)) (SC.up hst)) (LC.up hL) (by rw [← enL_map h9 L hL]; exact hl)
      rw [List.map_cons, ← en_map h9 st hst] at kk
      have e : en (va_up φ (hN σ) p) (va_rf (some (hN σ))) = .ref p := congrArg Value.ref (va_up_self _ _ _)
      rw [e] at kk
      rw [f2]
      exact kk
  · cases h
end GN
