/-! TRY AND CATCH (the law's helpers), the script, combinators of the law's walk -/
def NCs (U : State) : Prop := va_Nc (exN 1) (exN 0) U ∧ va_Nc (exN 2) (exN 0) U ∧ va_Nc (exN 2) (exN 1) U ∧ va_Nc (exN 0) (exN 1) U
theorem NCs.moved {u U : State} (hv : u.vm.Alike U.vm) (h : NCs u) : NCs U := ⟨h.1.moved hv, h.2.1.moved hv, h.2.2.1.moved hv, h.2.2.2.moved hv⟩
def PreN (Δ : AmbT) (as : List Value) (U : State) : Prop := Pre Δ as U ∧ NCs U
theorem blindN {Δ : AmbT} {av as : List Value} : FrameBlind (va_Pc av (PreN Δ as)) := fun a U g mk q =>
  ⟨q.1, (blind (Δ := Δ) (av := av) (as := as) a U g mk ⟨q.1, q.2.1⟩).2, NCs.moved (u := U) (U := U.calling g mk a) (Vm.Alike.refl U.vm) q.2.2⟩
/-- the contract of a method with a table of its own -/
def CtW (l : Launch) (y : MethodName) (cc : ByteArray) (nL : Nat) (ret : Option FieldType) (hh : List (Nat × Nat × Nat × Nat)) (fr lo : Nat) (as : List Value) (σ : HpT) (o : Except Nat (Option Value)) (σ' : HpT) (Kc Ks : Nat) : Prop :=
  l.stackTraces = false → ∀ (D : va_G) (aC : Nat → ClassId) (φ0 : Nat → Nat) (N0 : Nat) (φ : Nat → Nat),
    vx_Met l y (Cond.codeWith y cc nL ret hh :: ALLw) ({ frames := fr, locals := lo, cells := Kc, slots := Ks } : Room) (va_Pc (as.map (en φ)) (PreN (D, aC, φ0, N0, φ, σ) as)) (Qr (D, aC, φ0, N0, φ, σ) o σ') (Qx (D, aC, φ0, N0, φ, σ) o σ') Kc Ks (AA (D, aC, φ0, N0, φ, σ))
def EnW (Δ : AmbT) (Γ : CtxT) (o : Except Nat (Option Value)) (σ' : HpT) (Kc Ks : Nat) (ret : Option FieldType) (hh : List (Nat × Nat × Nat × Nat)) : Prop :=
  Γ.2.2.2.2.2.2.2.2.2.2 = vx_MQ Γ.2.2.2.2.2.2.2.1 (Qr Δ o σ') (Qx Δ o σ') Γ.2.2.2.2.2.2.1 Γ.2.2.2.2.1 Kc Ks (AA Δ) ∧ Γ.2.2.2.2.2.2.2.2.1.sig.returnType = ret ∧ Γ.2.2.2.2.2.2.2.2.2.1.exceptionTable.toList = tableOf hh ∧ NCs Γ.2.2.2.2.1
theorem ctW_start {l : Launch} {y : MethodName} {cc : ByteArray} {nL : Nat} {ret : Option FieldType} {own : String} {hh : List (Nat × Nat × Nat × Nat)} {fr lo : Nat} {as : List Value} {σ σ' : HpT} {o : Except Nat (Option Value)} {Kc Ks : Nat} (hy : plainName y.cls = true) (hc : y.cls = own) {L : List (Nat × Value)} (hn : (lg_sl as).length ≤ nL) (hL : lv_args 0 as = L)
    (body : ∀ (Δ : AmbT) (Γ : CtxT), Bd Δ Γ own cc nL fr lo Kc Ks → EnW Δ Γ o σ' Kc Ks ret hh → GW Δ Γ 0 0 0 L [] σ) : CtW l y cc nL ret hh fr lo as σ o σ' Kc Ks := by
  intro hl D aC φ0 N0 φ
  refine vx_ofWH (cc := cc) (maxL := nL) (ret := ret) (hh := hh) hy rfl ?_
  intro p e s m args below meth c s₁ B hml hv
  obtain ⟨rfl, ⟨hP, hD, hK, hN0, hφ, hw, hE, hs⟩, hNC⟩ := hv
  have hts := atoms_spec (ws := Cond.codeWith y cc nL ret hh :: ALLw) B.pre
  have hown : s.vm.findClass own = some m.cls := hc ▸ findClass_of_methodNamed B.named
  have htb := vx_table (x := y) B (hts _ List.mem_cons_self)
  have k := body (D, aC, φ0, N0, φ, σ) (p, l, e, ({ frames := fr, locals := lo, cells := Kc, slots := Ks } : Room), s, m, (as.map (en φ)).toArray, below, meth, c, vx_MQ below (Qr (D, aC, φ0, N0, φ, σ) o σ') (Qx (D, aC, φ0, N0, φ, σ) o σ') (as.map (en φ)).toArray s Kc Ks (AA (D, aC, φ0, N0, φ, σ))) ⟨B.exec, B.bytes, hml, hown, fun w h => hts w (List.mem_cons_of_mem _ h), hK, hN0, hE, rfl, rfl, rfl, rfl, B.notSynchronized, hl⟩ ⟨rfl, B.returns, htb, hNC⟩
  have h1 := lv_entry (as.map (en φ)) (n := nL) (by rw [en_sl]; exact hn)
  rw [lg_entry_eq]
  rw [en_args, hL, ← hml] at h1
  rw [← hml]
  exact k φ s.heap [] _ ⟨hP, hD, va_S.rf, hφ, hw, fun _ _ => rfl, Nat.le_refl _⟩ (fun _ h => absurd h List.not_mem_nil) (hL ▸ LC_args as 0 hs) h1
def MIW (y : MethodName) (cc : ByteArray) (nL : Nat) (ret : Option FieldType) (hh : List (Nat × Nat × Nat × Nat)) (n : Nat) : Prop :=
  plainName y.cls = true ∧ Cond.codeWith y cc nL ret hh ∈ ALLw ∧ Cond.initialized y.cls ∈ ALLw ∧ (y.cls ≠ "java/lang/invoke/MethodHandle" ∧ y.cls ≠ "java/lang/invoke/VarHandle") ∧ (parseMethodDescriptor y.desc).map (fun d => d.parameters.length) = some n
section TCR
variable {Δ : AmbT} {Γ : CtxT} {own : String} {cc : ByteArray} {nL fr lo Kc Ks kc ks pc : Nat} {L : List (Nat × Value)} {st stk : List Value} {σ σ1 : HpT}
variable {y : MethodName} {cc1 : ByteArray} {nL1 : Nat} {ret1 ret : Option FieldType} {n fr1 lo1 idx κ k1c k1s : Nat} {as : List Value} {r : Option Nat} {x : Nat} {q : vw_C} {w : Value} {hh : List (Nat × Nat × Nat × Nat)}
theorem g_iretW (B : Bd Δ Γ own cc nL fr lo Kc Ks) {v : Int32} (E : EnW Δ Γ (.ok (some (.int v))) σ Kc Ks (some .int) hh) (hc : kc ≤ Kc) (hs : ks ≤ Ks) (d : decode cc pc = .ok (.ireturn, 1)) : GW Δ Γ kc ks pc L [.int v] σ := by
  intro φ H locs ls hp hst hL hl
  obtain ⟨p, l, e, R, s, m, args, below, meth, c, Q⟩ := Γ
  obtain ⟨hQ, hr, -, -⟩ := E
  dsimp only at hQ hr ⊢
  rw [hQ]
  refine W.widen hc hs (vx_ret ?_)
  have hlocks : meth.locks = false := B.2.2.2.2.2.2.2.2.2.2.2.2.1
  exact W.iret B.1 B.2.1 hr (fun t ht _ => ⟨⟨φ, _, rfl, rfl, by rw [ht]; exact hp.pst, fun w e => by cases e; trivial⟩, hp.va_F ht⟩) hp.2.2.1.2.2 d
/-- the handler's first row keeps the exception in a local -/
def StOK (Γ : CtxT) (nL hp len : Nat) : Prop := ∀ (H : Heap) (locs : List Loc) (kc ks : Nat) (ls : Array Slot) (q : Nat), lv_has ls nL [] →
  (∀ ls' : Array Slot, lv_has ls' nL [] → W Γ.1 Γ.2.1 Γ.2.2.1 Γ.2.2.2.1 Γ.2.2.2.2.1 Γ.2.2.2.2.2.1 Γ.2.2.2.2.2.2.1 Γ.2.2.2.2.2.2.2.1 Γ.2.2.2.2.2.2.2.2.1 Γ.2.2.2.2.2.2.2.2.2.1 H locs kc ks Γ.2.2.2.2.2.2.2.2.2.2 (F0 Γ.2.2.2.2.2.1 (hp + len) ls' [])) →
  W Γ.1 Γ.2.1 Γ.2.2.1 Γ.2.2.2.1 Γ.2.2.2.2.1 Γ.2.2.2.2.2.1 Γ.2.2.2.2.2.2.1 Γ.2.2.2.2.2.2.2.1 Γ.2.2.2.2.2.2.2.2.1 Γ.2.2.2.2.2.2.2.2.2.1 H locs kc ks Γ.2.2.2.2.2.2.2.2.2.2 (F0 Γ.2.2.2.2.2.1 hp ls [.ref q])
theorem lv_none {ls : Array Slot} {nL : Nat} {l : List (Nat × Value)} (h : lv_has ls nL l) : lv_has ls nL [] := ⟨h.1, h.2.1, fun _ q => absurd q List.not_mem_nil⟩
theorem st_n (B : Bd Δ Γ own cc nL fr lo Kc Ks) {hp i : Nat} {k : Fin 4} (d : decode cc hp = .ok (.astore_n k, 1)) (hi : (k : Nat) = i) (hn : i < nL) : StOK Γ nL hp 1 := fun H locs kc ks ls q hl kk =>
  lv_astore_n B.1 B.2.1 d hi hl hn rfl (fun ls' h => kk ls' (lv_none h))
theorem st_1 (B : Bd Δ Γ own cc nL fr lo Kc Ks) {hp i : Nat} (d : decode cc hp = .ok (.astore i, 2)) (hn : i < nL) : StOK Γ nL hp 2 := fun H locs kc ks ls q hl kk =>
  lv_astore B.1 B.2.1 d hl hn rfl (fun ls' h => kk ls' (lv_none h))
/-- what the table must say for exception x thrown at pc to be caught by the row xe -/
def CA (Γ : CtxT) (own : String) (hh : List (Nat × Nat × Nat × Nat)) (pc x : Nat) (xe : ExceptionTableEntry) : Prop :=
  ∃ pre suf : List ExceptionTableEntry, tableOf hh = pre ++ xe :: suf ∧ (∀ z ∈ pre, covers z pc = false ∨ (z.catchType ≠ 0 ∧ ∃ nm : String, Cond.classLink own z.catchType nm ∈ ALLw ∧ va_Nc (exN x) nm Γ.2.2.2.2.1)) ∧ covers xe pc = true ∧ xe.catchType ≠ 0 ∧ Cond.classLink own xe.catchType (exN x) ∈ ALLw ∧ Cond.castable (exN x) (exN x) ∈ ALLn
theorem ca_p0 {P : ExceptionTableEntry → Prop} : ∀ z ∈ ([] : List ExceptionTableEntry), P z := fun _ h => absurd h List.not_mem_nil
theorem ca_p1 {P : ExceptionTableEntry → Prop} {z : ExceptionTableEntry} {l : List ExceptionTableEntry} (h : P z) (k : ∀ z ∈ l, P z) : ∀ z' ∈ z :: l, P z' := List.forall_mem_cons.mpr ⟨h, k⟩
theorem of_runC (B : Bd Δ Γ own cc nL fr lo Kc Ks) {st0 : List Value} {n : Nat} {φ : Nat → Nat} {H : Heap} {locs : List Loc} {ls : Array Slot} {a0 : Array Value} {xe : ExceptionTableEntry} {len : Nat} (hp : Rp Δ Γ.2.2.2.2.1 φ σ H locs) (hl : lv_has ls Γ.2.2.2.2.2.2.2.2.2.1.maxLocals (enL φ L))
    (hr : vx_Run Γ.1 Γ.2.1 Γ.2.2.1 Γ.2.2.2.1 Γ.2.2.2.2.1 Γ.2.2.2.2.2.1 Γ.2.2.2.2.2.2.1 Γ.2.2.2.2.2.2.2.1 Γ.2.2.2.2.2.2.2.2.1 Γ.2.2.2.2.2.2.2.2.2.1 H locs kc ks k1c k1s (F0 Γ.2.2.2.2.2.1 pc ls st0) (st.map (en φ)) (Qr (Δ.1, Δ.2.1, Δ.2.2.1, Δ.2.2.2.1, φ, σ) (.error n) σ1 a0) (Qx (Δ.1, Δ.2.1, Δ.2.2.1, Δ.2.2.2.1, φ, σ) (.error n) σ1) (AA Δ))
    (hT : Γ.2.2.2.2.2.2.2.2.2.1.exceptionTable.toList = tableOf hh) (hC : CA Γ own hh pc n xe) (hS : StOK Γ nL xe.handlerPc len) (kk : GW Δ Γ (kc + k1c) (ks + k1s) (xe.handlerPc + len) [] [] σ1) : W Γ.1 Γ.2.1 Γ.2.2.1 Γ.2.2.2.1 Γ.2.2.2.2.1 Γ.2.2.2.2.2.1 Γ.2.2.2.2.2.2.1 Γ.2.2.2.2.2.2.2.1 Γ.2.2.2.2.2.2.2.2.1 Γ.2.2.2.2.2.2.2.2.2.1 H locs kc ks Γ.2.2.2.2.2.2.2.2.2.2 (F0 Γ.2.2.2.2.2.1 pc ls st0) := by
  intro T hT9 X
  rcases hr T hT9 X with ⟨v1, st₀, t, T', L9, h0, X', hL9, e1, e2, ⟨⟨φ', v2, hv, -⟩, -⟩, -⟩ | ⟨q, st₀, t, T', L9, E9, ce, h0, X', hL9, e1, e2, ⟨⟨φ', n2, hv, hE9, hPs⟩, hF⟩, hce, hcv, hcl, stp⟩
  · cases hv
  · cases hv
    subst hE9
    have hB := hp.behind hPs h0 e1 B.2.2.2.2.2.2.1 hL9 hF
    obtain ⟨pre, suf, c1, c2, c3, c4, c5, c6⟩ := hC
    have hl9 : lv_has ls nL [] := B.2.2.1 ▸ lv_none hl
    have k : vx_W Γ.1 Γ.2.1 Γ.2.2.1 Γ.2.2.2.1 Γ.2.2.2.2.1 Γ.2.2.2.2.2.1 Γ.2.2.2.2.2.2.1 Γ.2.2.2.2.2.2.2.1 Γ.2.2.2.2.2.2.2.2.1 Γ.2.2.2.2.2.2.2.2.2.1 T'.heap (locs ++ L9) (kc + k1c) (ks + k1s) Γ.2.2.2.2.2.2.2.2.2.2 (F0 Γ.2.2.2.2.2.1 pc ls (st.map (en φ))) q :=
      vx_catch (E := exN n) (ce := ce) (name := exN n) B.2.2.2.1 pre xe suf (hT.trans c1) (fun z hz => (c2 z hz).imp id (fun h => ⟨h.1, h.2.choose, B.2.2.2.2.1 _ h.2.choose_spec.1, h.2.choose_spec.2⟩)) c3 c4 (B.2.2.2.2.1 _ c5) (va_Nw.use rfl (B.2.2.2.2.2.2.2.1.2.2.2.2.2.2.2.2.2.2 _ c6)) (by rw [e1]; exact hce) hcv hcl
        (hS T'.heap (locs ++ L9) _ _ ls q hl9 (fun ls' h => kk φ' T'.heap (locs ++ L9) ls' hB (fun _ h => absurd h List.not_mem_nil) (fun _ h => absurd h List.not_mem_nil) (B.2.2.1.symm ▸ h)))
    obtain ⟨t2, a1, b1⟩ := k T' rfl X'
    exact ⟨t2, stp.trans a1, b1⟩
theorem g_callVk (B : Bd Δ Γ own cc nL fr lo Kc Ks) {o : Except Nat (Option Value)} {σ' : HpT} (E : EnW Δ Γ o σ' Kc Ks ret hh) {xe : ExceptionTableEntry} {len : Nat} (hA : CA Γ own hh pc x xe) (hS : StOK Γ nL xe.handlerPc len) (hC : IsK σ r κ ∧ Ct Γ.2.1 y cc1 nL1 ret1 fr1 lo1 (va_rf r :: as) σ (.error x) σ1 k1c k1s) (h12 : κ < 12) (hq : gcl[κ]? = some q) (hy : q.1 = y.cls) (hM : MI y cc1 nL1 ret1 n) (hl0 : LV own idx y) (hR : fr1 + 1 ≤ fr ∧ 8 + (nL1 + 11) + lo1 ≤ lo) (hn : as.length = n) (hstk : stk = as.reverse ++ (va_rf r :: st)) (h4 : st.length ≤ 4) (d : decode cc pc = .ok (.invokevirtual idx, 3)) (hc : kc + k1c ≤ Kc) (hs : ks + k1s ≤ Ks) (kk : GW Δ Γ (kc + k1c) (ks + k1s) (xe.handlerPc + len) [] [] σ1) : GW Δ Γ kc ks pc L stk σ :=
  fun φ H locs ls hp hst hL hl => of_runC B hp hl (runV B hC.1 h12 hq hy hC.2 hM hl0 hR hn hstk h4 d hc hs hp hst hl) E.2.2.1 hA hS kk
/-- a helper called by the law -/
theorem g_callSWs (B : Bd Δ Γ own cc nL fr lo Kc Ks) (hN : NCs Γ.2.2.2.2.1) (hC : CtW Γ.2.1 y cc1 nL1 ret1 hh fr1 lo1 as σ (.ok (some w)) σ1 k1c k1s) (hM : MIW y cc1 nL1 ret1 hh n) (hl0 : LSt own idx y) (hR : fr1 + 1 ≤ fr ∧ 8 + (nL1 + 11) + lo1 ≤ lo) (hn : as.length = n) (hstk : stk = as.reverse ++ st) (h4 : st.length ≤ 4) (d : decode cc pc = .ok (.invokestatic idx, 3)) (hc : kc + k1c ≤ Kc) (hs : ks + k1s ≤ Ks) (kk : GW Δ Γ (kc + k1c) (ks + k1s) (pc + 3) L (w :: st) σ1) : GW Δ Γ kc ks pc L stk σ := fun φ H locs ls hp hst hL hl => by
  refine of_run (v := some w) (a0 := (as.map (en φ)).toArray) B hp (by rw [hstk] at hst; exact (SC.app hst).2) hL hl ?_ kk
  rw [hstk] at hst
  have hcat := cat_le φ st 4 h4
  have hts := B.2.2.2.2.1
  exact vx_runSX (nL := nL) (As := as.map (en φ)) (Ts := ALLw) (hh := hh) (bytes := cc1) (maxL := nL1) (ret := ret1) ⟨B.1, B.2.1, B.2.2.1, B.2.2.2.1, B.2.2.2.2.1⟩ (hC B.2.2.2.2.2.2.2.2.2.2.2.2.2 Δ.1 Δ.2.1 Δ.2.2.1 Δ.2.2.2.1 φ)
    ⟨⟨rfl, rfl, by rw [B.2.2.2.2.2.2.2.2.1]; exact hR.1, by rw [B.2.2.2.2.2.2.2.2.2.1]; exact hR.2, fun w hw a' U hW => (List.mem_cons.mp hw).elim (fun e => by rw [e]; exact pay hM.2.1 hts a' U hW) (fun e => pay e hts a' U hW), List.mem_cons_self⟩, hts _ hM.2.1, hts _ hM.2.2.1, hM.2.2.2.1, fun sig e => by have h2 := hM.2.2.2.2; rw [e] at h2; exact (Option.some.inj h2).symm, hts _ hl0.1, hts _ hl0.2⟩
    ⟨blindN, fun U hU hW => ⟨rfl, pre_of hp B.2.2.2.2.2.1 B.2.2.2.2.2.2.1 B.2.2.2.2.2.2.2.1 (SC.rev (SC.app hst).1) hU hW, hN.moved hW.alike⟩⟩ rfl (by rw [List.length_map]; exact hn) (by rw [← B.2.2.1]; exact hl.1) (by rw [hstk, List.map_append, List.map_reverse]) (by show 2 * 0 + _ ≤ 8; omega) d ⟨by rw [B.2.2.2.2.2.2.2.2.2.2.1]; exact hc, by rw [B.2.2.2.2.2.2.2.2.2.2.2.1]; exact hs⟩
/-- the script: a constant of the law's own, at BIG + 203 -/
def Scr (Δ : AmbT) (Γ : CtxT) (Lx : Nat) (xs : Nat → Int32) : Prop := va_X (Δ.2.2.1 (BIG + 203)) Lx xs Γ.2.2.2.2.1 Γ.2.2.2.2.1.heap ∧ Δ.2.2.1 (BIG + 203) < Δ.2.2.2.1 ∧ Δ.2.2.2.1 ≤ Γ.2.2.2.2.1.heap.size
def sld (Lx : Nat) (xs : Nat → Int32) (i : Int32) : Option Int32 := if inbB i Lx = true then some (xs i.toNatClampNeg) else none
theorem g_slen (B : Bd Δ Γ own cc nL fr lo Kc Ks) {Lx : Nat} {xs : Nat → Int32} (hX : Scr Δ Γ Lx xs) (d : decode cc pc = .ok (.arraylength, 1)) (kk : GW Δ Γ kc ks (pc + 1) L (.int (Int32.ofNat Lx) :: st) σ) : GW Δ Γ kc ks pc L (va_rf (some (BIG + 203)) :: st) σ := fun φ H locs ls hp hst hL hl => by
  have e : en φ (va_rf (some (BIG + 203))) = .ref (Δ.2.2.1 (BIG + 203)) := congrArg Value.ref (hp.2.2.2.1 _ (Nat.le_add_right _ _))
  rw [List.map_cons, e]
  exact va_slen (A := AA Δ) B.1 B.2.1 hX.1 (Nat.lt_of_lt_of_le hX.2.1 hX.2.2) (fun q => Nat.not_lt.mpr q hX.2.1) hp.2.2.1 d (kk φ H locs ls hp (SC.c (v := .int _) True.intro hst.t) hL hl)
theorem g_sld (B : Bd Δ Γ own cc nL fr lo Kc Ks) {Lx : Nat} {xs : Nat → Int32} {i v : Int32} (hX : Scr Δ Γ Lx xs) (d : decode cc pc = .ok (.iaload, 1)) (h : sld Lx xs i = some v) (kk : GW Δ Γ kc ks (pc + 1) L (.int v :: st) σ) : GW Δ Γ kc ks pc L (.int i :: va_rf (some (BIG + 203)) :: st) σ := fun φ H locs ls hp hst hL hl => by
  unfold sld at h
  split at h
  · rename_i hi
    have h := Option.some.inj h
    subst h
    have e : en φ (va_rf (some (BIG + 203))) = .ref (Δ.2.2.1 (BIG + 203)) := congrArg Value.ref (hp.2.2.2.1 _ (Nat.le_add_right _ _))
    rw [List.map_cons, List.map_cons, e]
    exact va_sld (A := AA Δ) B.1 B.2.1 hX.1 (Nat.lt_of_lt_of_le hX.2.1 hX.2.2) (fun q => Nat.not_lt.mpr q hX.2.1) hp.2.2.1 (inbB_in hi) d (kk φ H locs ls hp (SC.c (v := .int _) True.intro hst.t.t) hL hl)
  · cases h
end TCR
section TCB
variable {α β : Type}
/-- a call whose exceptions are caught -/
def bnC (o : AT α) (f : α → HpT → AT β) (g : Nat → HpT → AT β) : AT β := match o with
  | none => none
  | some (.ok v, σ1, a1, b1) => (match f v σ1 with
    | none => none
    | some (y, σ2, a2, b2) => some (y, σ2, a1 + a2, b1 + b2))
  | some (.error n, σ1, a1, b1) => (match g n σ1 with
    | none => none
    | some (y, σ2, a2, b2) => some (y, σ2, a1 + a2, b1 + b2))
def xA (σ : HpT) (o : Option (Except Nat α)) : AT α := match o with
  | none => none
  | some e => some (e, σ, xc e, xs e)
theorem xA_s {σ σ1 : HpT} {o : Option (Except Nat α)} {e : Except Nat α} {a b : Nat} (h : xA σ o = some (e, σ1, a, b)) : o = some e ∧ σ = σ1 ∧ a = xc e ∧ b = xs e := by
  unfold xA at h
  cases o with
  | none => cases h
  | some e9 =>
    have h := Option.some.inj h
    cases h
    exact ⟨rfl, rfl, rfl, rfl⟩
theorem bnC_s {o : AT α} {f : α → HpT → AT β} {g : Nat → HpT → AT β} {y : Except Nat β} {σ' : HpT} {a b : Nat} (h : bnC o f g = some (y, σ', a, b)) :
    (∃ v σ1 a1 b1 a2 b2, o = some (.ok v, σ1, a1, b1) ∧ f v σ1 = some (y, σ', a2, b2) ∧ a = a1 + a2 ∧ b = b1 + b2) ∨ (∃ n σ1 a1 b1 a2 b2, o = some (.error n, σ1, a1, b1) ∧ g n σ1 = some (y, σ', a2, b2) ∧ a = a1 + a2 ∧ b = b1 + b2) := by
  unfold bnC at h
  cases o with
  | none => cases h
  | some z =>
    obtain ⟨e, σ1, a1, b1⟩ := z
    cases e with
    | ok v =>
      dsimp only at h
      cases e2 : f v σ1 with
      | none => rw [e2] at h; cases h
      | some z2 =>
        obtain ⟨y2, σ2, a2, b2⟩ := z2
        rw [e2] at h
        have h := Option.some.inj h
        cases h
        exact Or.inl ⟨v, σ1, a1, b1, a2, b2, rfl, e2, rfl, rfl⟩
    | error n =>
      dsimp only at h
      cases e2 : g n σ1 with
      | none => rw [e2] at h; cases h
      | some z2 =>
        obtain ⟨y2, σ2, a2, b2⟩ := z2
        rw [e2] at h
        have h := Option.some.inj h
        cases h
        exact Or.inr ⟨n, σ1, a1, b1, a2, b2, rfl, e2, rfl, rfl⟩
end TCB
