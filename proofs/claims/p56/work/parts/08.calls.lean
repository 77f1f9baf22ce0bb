/-! CONTRACTS over the clean heap, calls, makings, ends -/
def exN : Nat → String
  | 0 => "java/lang/IllegalStateException"
  | 1 => "java/lang/IndexOutOfBoundsException"
  | _ => "java/lang/IllegalArgumentException"
/-- behind a method: the heap is σ', its cells lie by φ', where cells were they are -/
def Pst (Δ : AmbT) (φ' : Nat → Nat) (σ' : HpT) (H : Heap) : Prop :=
  (∀ j, CLn Δ.2.2.2.2.2 j → φ' j = Δ.2.2.2.2.1 j) ∧ hLe Δ.2.2.2.2.2 σ' ∧ va_P Δ.1 gcl (wsOf Δ.2.1 φ' σ') H ∧ va_D (AA Δ) (wsOf Δ.2.1 φ' σ') ∧ (∀ j, BIG ≤ j → φ' j = Δ.2.2.1 j) ∧ WFh σ'
def Qr (Δ : AmbT) (o : Except Nat (Option Value)) (σ' : HpT) : Array Value → State → Outcome → State → Prop := fun _ st oc t =>
  (∃ (φ' : Nat → Nat) (v : Option Value), o = .ok v ∧ oc = .returned (v.map (en φ')) ∧ Pst Δ φ' σ' t.heap ∧ ∀ w, v = some w → CL σ' w) ∧ va_F (AA Δ) st t
def Qx (Δ : AmbT) (o : Except Nat (Option Value)) (σ' : HpT) : String → State → State → Prop := fun E st t =>
  (∃ (φ' : Nat → Nat) (n : Nat), o = .error n ∧ E = exN n ∧ Pst Δ φ' σ' t.heap) ∧ va_F (AA Δ) st t
def Pre (Δ : AmbT) (as : List Value) (U : State) : Prop :=
  va_P Δ.1 gcl (wsOf Δ.2.1 Δ.2.2.2.2.1 Δ.2.2.2.2.2) U.heap ∧ va_D (AA Δ) (wsOf Δ.2.1 Δ.2.2.2.2.1 Δ.2.2.2.2.2) ∧ va_K Δ.1 gcl (tysOf Δ.2.1) U ∧ Δ.2.2.2.1 ≤ U.heap.size ∧ (∀ j, BIG ≤ j → Δ.2.2.2.2.1 j = Δ.2.2.1 j) ∧ WFh Δ.2.2.2.2.2 ∧ Ev Δ U U.heap ∧ SC Δ.2.2.2.2.2 as
/-- THE CONTRACT: called with these values in this heap, the method ends so, and leaves that heap -/
def Ct (l : Launch) (y : MethodName) (cc : ByteArray) (nL : Nat) (ret : Option FieldType) (fr lo : Nat) (as : List Value) (σ : HpT) (o : Except Nat (Option Value)) (σ' : HpT) (Kc Ks : Nat) : Prop :=
  l.stackTraces = false → ∀ (D : va_G) (aC : Nat → ClassId) (φ0 : Nat → Nat) (N0 : Nat) (φ : Nat → Nat),
    vx_Met l y (Cond.code y cc nL ret :: ALLw) ({ frames := fr, locals := lo, cells := Kc, slots := Ks } : Room) (va_Pc (as.map (en φ)) (Pre (D, aC, φ0, N0, φ, σ) as)) (Qr (D, aC, φ0, N0, φ, σ) o σ') (Qx (D, aC, φ0, N0, φ, σ) o σ') Kc Ks (AA (D, aC, φ0, N0, φ, σ))
def En (Δ : AmbT) (Γ : CtxT) (o : Except Nat (Option Value)) (σ' : HpT) (Kc Ks : Nat) (ret : Option FieldType) : Prop :=
  Γ.2.2.2.2.2.2.2.2.2.2 = vx_MQ Γ.2.2.2.2.2.2.2.1 (Qr Δ o σ') (Qx Δ o σ') Γ.2.2.2.2.2.2.1 Γ.2.2.2.2.1 Kc Ks (AA Δ) ∧ Γ.2.2.2.2.2.2.2.2.1.sig.returnType = ret ∧ ∀ x ∈ Γ.2.2.2.2.2.2.2.2.2.1.exceptionTable.toList, False
theorem en_args (φ : Nat → Nat) : ∀ (vs : List Value) (k : Nat), lv_args k (vs.map (en φ)) = enL φ (lv_args k vs) := by
  intro vs
  induction vs with
  | nil => intro k; rfl
  | cons v vs ih =>
    intro k
    cases v <;> simp [lv_args, en, enL, ih, Value.category]
theorem en_sl (φ : Nat → Nat) (vs : List Value) : (lg_sl (vs.map (en φ))).length = (lg_sl vs).length := by
  unfold lg_sl
  rw [List.length_flatMap, List.length_flatMap, List.map_map]
  congr 1
  apply List.map_congr_left
  intro v _
  simp only [Function.comp]
  rw [en_cat]
  split <;> rfl
theorem LC_args {σ : HpT} : ∀ (vs : List Value) (k : Nat), SC σ vs → ∀ q ∈ lv_args k vs, CL σ q.2 := by
  intro vs
  induction vs with
  | nil => intro k _ q hq; exact absurd hq List.not_mem_nil
  | cons v vs ih =>
    intro k h q hq
    have h1 := h v List.mem_cons_self
    have h2 : SC σ vs := SC.t h
    cases v <;> (simp only [lv_args, Value.category, List.mem_cons] at hq; rcases hq with e | e <;> first | (rw [e]; exact h1) | exact ih _ h2 q e)
theorem ct_start {l : Launch} {y : MethodName} {cc : ByteArray} {nL : Nat} {ret : Option FieldType} {own : String} {fr lo : Nat} {as : List Value} {σ σ' : HpT} {o : Except Nat (Option Value)} {Kc Ks : Nat} (hy : plainName y.cls = true) (hc : y.cls = own) {L : List (Nat × Value)} (hn : (lg_sl as).length ≤ nL) (hL : lv_args 0 as = L)
    (body : ∀ (Δ : AmbT) (Γ : CtxT), Bd Δ Γ own cc nL fr lo Kc Ks → En Δ Γ o σ' Kc Ks ret → Γ.2.2.2.2.2.2.2.2.1.name = y.name → GW Δ Γ 0 0 0 L [] σ) : Ct l y cc nL ret fr lo as σ o σ' Kc Ks := by
  intro hl D aC φ0 N0 φ
  refine vx_ofW (cc := cc) (maxL := nL) (ret := ret) hy rfl ?_
  intro p e s m args below meth c s₁ B hml hex hv
  obtain ⟨rfl, hP, hD, hK, hN0, hφ, hw, hE, hs⟩ := hv
  have hts := atoms_spec (ws := Cond.code y cc nL ret :: ALLw) B.pre
  have hown : s.vm.findClass own = some m.cls := hc ▸ findClass_of_methodNamed B.named
  have hin : meth.name = y.name := (name_of_methodNamed B.named B.method).1
  have k := body (D, aC, φ0, N0, φ, σ) (p, l, e, ({ frames := fr, locals := lo, cells := Kc, slots := Ks } : Room), s, m, (as.map (en φ)).toArray, below, meth, c, vx_MQ below (Qr (D, aC, φ0, N0, φ, σ) o σ') (Qx (D, aC, φ0, N0, φ, σ) o σ') (as.map (en φ)).toArray s Kc Ks (AA (D, aC, φ0, N0, φ, σ))) ⟨B.exec, B.bytes, hml, hown, fun w h => hts w (List.mem_cons_of_mem _ h), hK, hN0, hE, rfl, rfl, rfl, rfl, B.notSynchronized, hl⟩ ⟨rfl, B.returns, hex⟩ hin
  have h1 := lv_entry (as.map (en φ)) (n := nL) (by rw [en_sl]; exact hn)
  rw [lg_entry_eq]
  rw [en_args, hL, ← hml] at h1
  rw [← hml]
  exact k φ s.heap [] _ ⟨hP, hD, va_S.rf, hφ, hw, fun _ _ => rfl, hLe.rf _⟩ (fun _ h => absurd h List.not_mem_nil) (hL ▸ LC_args as 0 hs) h1
section GE
variable {Δ : AmbT} {Γ : CtxT} {own : String} {cc : ByteArray} {nL fr lo Kc Ks kc ks pc : Nat} {L : List (Nat × Value)} {st : List Value} {σ : HpT}
theorem Rp.pst {s : State} {φ : Nat → Nat} {H : Heap} {locs : List Loc} (h : Rp Δ s φ σ H locs) : Pst Δ φ σ H := ⟨h.2.2.2.2.2.1, h.2.2.2.2.2.2, h.1, h.2.1, h.2.2.2.1, h.2.2.2.2.1⟩
theorem Rp.va_F {s t : State} {φ : Nat → Nat} {H : Heap} {locs : List Loc} (h : Rp Δ s φ σ H locs) (ht : t.heap = H) : va_F (AA Δ) s t := h.2.2.1.F ht
theorem g_iret (B : Bd Δ Γ own cc nL fr lo Kc Ks) {v : Int32} (E : En Δ Γ (.ok (some (.int v))) σ Kc Ks (some .int)) (hc : kc ≤ Kc) (hs : ks ≤ Ks) (d : decode cc pc = .ok (.ireturn, 1)) : GW Δ Γ kc ks pc L [.int v] σ := by
  intro φ H locs ls hp hst hL hl
  obtain ⟨p, l, e, R, s, m, args, below, meth, c, Q⟩ := Γ
  obtain ⟨hQ, hr, -⟩ := E
  dsimp only at hQ hr ⊢
  rw [hQ]
  refine W.widen hc hs (vx_ret ?_)
  have hlocks : meth.locks = false := B.2.2.2.2.2.2.2.2.2.2.2.2.1
  exact W.iret B.1 B.2.1 hr (fun t ht _ => ⟨⟨φ, _, rfl, rfl, by rw [ht]; exact hp.pst, fun w e => by cases e; trivial⟩, hp.va_F ht⟩) hp.2.2.1.2.2 d
theorem g_zret (B : Bd Δ Γ own cc nL fr lo Kc Ks) {v : Int32} {ty : FieldType} (E : En Δ Γ (.ok (some (.int v))) σ Kc Ks (some ty)) (hn : narrow ty (.int v) = .int v) (hc : kc ≤ Kc) (hs : ks ≤ Ks) (d : decode cc pc = .ok (.ireturn, 1)) : GW Δ Γ kc ks pc L [.int v] σ := by
  intro φ H locs ls hp hst hL hl
  obtain ⟨p, l, e, R, s, m, args, below, meth, c, Q⟩ := Γ
  obtain ⟨hQ, hr, -⟩ := E
  dsimp only at hQ hr ⊢
  rw [hQ]
  refine W.widen hc hs (vx_ret ?_)
  have hlocks : meth.locks = false := B.2.2.2.2.2.2.2.2.2.2.2.2.1
  exact W.zret B.1 B.2.1 hr hn (fun t ht _ => ⟨⟨φ, _, rfl, rfl, by rw [ht]; exact hp.pst, fun w e => by cases e; trivial⟩, hp.va_F ht⟩) hp.2.2.1.2.2 d
theorem g_lret (B : Bd Δ Γ own cc nL fr lo Kc Ks) {v : Int64} (E : En Δ Γ (.ok (some (.long v))) σ Kc Ks (some .long)) (hc : kc ≤ Kc) (hs : ks ≤ Ks) (d : decode cc pc = .ok (.lreturn, 1)) : GW Δ Γ kc ks pc L [.long v] σ := by
  intro φ H locs ls hp hst hL hl
  obtain ⟨p, l, e, R, s, m, args, below, meth, c, Q⟩ := Γ
  obtain ⟨hQ, hr, -⟩ := E
  dsimp only at hQ hr ⊢
  rw [hQ]
  refine W.widen hc hs (vx_ret ?_)
  have hlocks : meth.locks = false := B.2.2.2.2.2.2.2.2.2.2.2.2.1
  exact W.lret B.1 B.2.1 hr (fun t ht _ => ⟨⟨φ, _, rfl, rfl, by rw [ht]; exact hp.pst, fun w e => by cases e; trivial⟩, hp.va_F ht⟩) hp.2.2.1.2.2 d
theorem g_fret (B : Bd Δ Γ own cc nL fr lo Kc Ks) {v : UInt32} (E : En Δ Γ (.ok (some (.float v))) σ Kc Ks (some .float)) (hc : kc ≤ Kc) (hs : ks ≤ Ks) (d : decode cc pc = .ok (.freturn, 1)) : GW Δ Γ kc ks pc L [.float v] σ := by
  intro φ H locs ls hp hst hL hl
  obtain ⟨p, l, e, R, s, m, args, below, meth, c, Q⟩ := Γ
  obtain ⟨hQ, hr, -⟩ := E
  dsimp only at hQ hr ⊢
  rw [hQ]
  refine W.widen hc hs (vx_ret ?_)
  have hlocks : meth.locks = false := B.2.2.2.2.2.2.2.2.2.2.2.2.1
  exact W.fret B.1 B.2.1 hr (fun t ht _ => ⟨⟨φ, _, rfl, rfl, by rw [ht]; exact hp.pst, fun w e => by cases e; trivial⟩, hp.va_F ht⟩) hp.2.2.1.2.2 d
theorem g_dret (B : Bd Δ Γ own cc nL fr lo Kc Ks) {v : UInt64} (E : En Δ Γ (.ok (some (.double v))) σ Kc Ks (some .double)) (hc : kc ≤ Kc) (hs : ks ≤ Ks) (d : decode cc pc = .ok (.dreturn, 1)) : GW Δ Γ kc ks pc L [.double v] σ := by
  intro φ H locs ls hp hst hL hl
  obtain ⟨p, l, e, R, s, m, args, below, meth, c, Q⟩ := Γ
  obtain ⟨hQ, hr, -⟩ := E
  dsimp only at hQ hr ⊢
  rw [hQ]
  refine W.widen hc hs (vx_ret ?_)
  have hlocks : meth.locks = false := B.2.2.2.2.2.2.2.2.2.2.2.2.1
  exact W.dret B.1 B.2.1 hr (fun t ht _ => ⟨⟨φ, _, rfl, rfl, by rw [ht]; exact hp.pst, fun w e => by cases e; trivial⟩, hp.va_F ht⟩) hp.2.2.1.2.2 d
theorem g_vret (B : Bd Δ Γ own cc nL fr lo Kc Ks) (E : En Δ Γ (.ok none) σ Kc Ks none) (hc : kc ≤ Kc) (hs : ks ≤ Ks) (d : decode cc pc = .ok (.return_, 1)) : GW Δ Γ kc ks pc L [] σ := by
  intro φ H locs ls hp hst hL hl
  obtain ⟨p, l, e, R, s, m, args, below, meth, c, Q⟩ := Γ
  obtain ⟨hQ, hr, -⟩ := E
  dsimp only at hQ hr ⊢
  rw [hQ]
  refine W.widen hc hs (vx_ret ?_)
  have hlocks : meth.locks = false := B.2.2.2.2.2.2.2.2.2.2.2.2.1
  exact W.vret B.1 B.2.1 hr (fun t ht _ => ⟨⟨φ, _, rfl, rfl, by rw [ht]; exact hp.pst, fun w e => by cases e⟩, hp.va_F ht⟩) hp.2.2.1.2.2 d
theorem g_aret (B : Bd Δ Γ own cc nL fr lo Kc Ks) {v : Option Nat} {ty : FieldType} (E : En Δ Γ (.ok (some (va_rf v))) σ Kc Ks (some ty)) (hty : (∃ n, ty = .object n) ∨ ∃ t, ty = .array t) (hc : kc ≤ Kc) (hs : ks ≤ Ks) (d : decode cc pc = .ok (.areturn, 1)) : GW Δ Γ kc ks pc L [va_rf v] σ := by
  intro φ H locs ls hp hst hL hl
  obtain ⟨p, l, e, R, s, m, args, below, meth, c, Q⟩ := Γ
  obtain ⟨hQ, hr, -⟩ := E
  dsimp only at hQ hr ⊢
  rw [hQ]
  refine W.widen hc hs (vx_ret ?_)
  have hlocks : meth.locks = false := B.2.2.2.2.2.2.2.2.2.2.2.2.1
  exact W.aret B.1 B.2.1 hr hty (by cases v; exact Or.inl rfl; exact Or.inr ⟨_, rfl⟩) (fun t ht _ => ⟨⟨φ, _, rfl, rfl, by rw [ht]; exact hp.pst, fun w e => by cases e; exact hst.h⟩, hp.va_F ht⟩) hp.2.2.1.2.2 d
/-! calls -/
theorem pay {w : Cond} {s : State} {args : Array Value} (hm : w ∈ ALLw) (h : ∀ w ∈ ALLw, w.before args s = true) (a' : Array Value) (U : State) (hW : s.WarmedH U.vm) : w.before a' U = true := word_at hW (good_of_word (ALLw_good hm)) (h w hm)
/-- what is known of a method's name and code -/
def MI (y : MethodName) (cc : ByteArray) (nL : Nat) (ret : Option FieldType) (n : Nat) : Prop :=
  plainName y.cls = true ∧ Cond.code y cc nL ret ∈ ALLw ∧ Cond.initialized y.cls ∈ ALLw ∧ (y.cls ≠ "java/lang/invoke/MethodHandle" ∧ y.cls ≠ "java/lang/invoke/VarHandle") ∧ (parseMethodDescriptor y.desc).map (fun d => d.parameters.length) = some n
theorem MI.n {y : MethodName} {cc : ByteArray} {nL : Nat} {ret : Option FieldType} {n : Nat} (h : MI y cc nL ret n) : ∀ sig, parseMethodDescriptor y.desc = some sig → n = sig.parameters.length := fun sig e => by
  have h2 := h.2.2.2.2
  rw [e] at h2
  exact (Option.some.inj h2).symm
theorem blind {Δ : AmbT} {av as : List Value} : FrameBlind (va_Pc av (Pre Δ as)) := fun a U g mk q => by
  obtain ⟨h0, h1, h2, h3, h4, h5, h6, h7, h8⟩ := q
  exact ⟨h0, h1, h2, va_K.moved (u := U) (U := U.calling g mk a) (Vm.Alike.refl U.vm) h3, h4, h5, h6, Ev.moved (u := U) (U := U.calling g mk a) (State.WarmedH.refl U) h7, h8⟩
/-- what is given speaks of the script alone -/
theorem Ev.at {Δ : AmbT} {s : State} {H : Heap} {φ : Nat → Nat} {σ : HpT} (e : σ.2.2.2.2.2.2 = Δ.2.2.2.2.2.2.2.2.2.2.2) (h : Ev Δ s H) : Ev (Δ.1, Δ.2.1, Δ.2.2.1, Δ.2.2.2.1, φ, σ) s H := by
  obtain ⟨h1, h2, h3, h4, h5, h6, h7, h8, h9, h10, h11, k1, k2⟩ := h
  refine ⟨h1, h2, h3, h4, h5, h6, h7, h8, h9, h10, h11, ?_, k2⟩
  show va_T .int (Δ.2.2.1 (BIG + 204)) σ.2.2.2.2.2.2.1 (fun i => .int (σ.2.2.2.2.2.2.2 i)) _ s H
  rw [e]
  exact k1
/-- the callee's start, out of where the caller's walk stands -/
theorem pre_of {s U : State} {φ : Nat → Nat} {H : Heap} {locs : List Loc} {as : List Value} (hp : Rp Δ s φ σ H locs) (hK : va_K Δ.1 gcl (tysOf Δ.2.1) s) (hN : Δ.2.2.2.1 ≤ s.heap.size) (hE : Ev Δ s s.heap) (hs : SC σ as) (hU : U.heap = H) (hW : s.WarmedH U.vm) : Pre (Δ.1, Δ.2.1, Δ.2.2.1, Δ.2.2.2.1, φ, σ) as U := by
  refine ⟨by rw [hU]; exact hp.1, hp.2.1, va_K.moved hW.alike hK, by rw [hU]; exact Nat.le_trans hN hp.2.2.1.1, hp.2.2.2.1, hp.2.2.2.2.1, ?_, hs⟩
  rw [hU]
  exact Ev.moved (Δ := (Δ.1, Δ.2.1, Δ.2.2.1, Δ.2.2.2.1, φ, σ)) hW (Ev.kept (Δ := (Δ.1, Δ.2.1, Δ.2.2.1, Δ.2.2.2.1, φ, σ)) (fun q h1 h2 => hp.2.2.1.2.1 q h1 h2) (Ev.at hp.2.2.2.2.2.2.2 hE))
theorem en_map {φ φ' : Nat → Nat} {σ : HpT} (h : ∀ j, CLn σ j → φ' j = φ j) : ∀ (st : List Value), SC σ st → st.map (en φ) = st.map (en φ') := by
  intro st hs
  apply List.map_congr_left
  intro v hv
  exact (en_of h (hs v hv)).symm
theorem enL_map {φ φ' : Nat → Nat} {σ : HpT} (h : ∀ j, CLn σ j → φ' j = φ j) (L : List (Nat × Value)) (hs : ∀ q ∈ L, CL σ q.2) : enL φ L = enL φ' L := by
  unfold enL
  apply List.map_congr_left
  intro q hq
  rw [en_of h (hs q hq)]
/-- where the walk stands behind a call -/
theorem Rp.behind {s t : State} {st₀ : State} {T' : State} {φ φ' : Nat → Nat} {σ1 : HpT} {H : Heap} {locs L9 : List Loc} (hp : Rp Δ s φ σ H locs) (hPs : Pst (Δ.1, Δ.2.1, Δ.2.2.1, Δ.2.2.2.1, φ, σ) φ' σ1 t.heap) (h0 : st₀.heap = H) (e1 : T'.heap = t.heap) (hN0 : Δ.2.2.2.1 ≤ s.heap.size) (hL : ∀ q ∈ L9, AA Δ q.base) (hF : _root_.Jvm.Pilot.@@N@@.va_F (AA Δ) st₀ t) : Rp Δ s φ' σ1 T'.heap (locs ++ L9) := by
  obtain ⟨k1, k2, k3, k4, k5, k6⟩ := hPs
  obtain ⟨h1, h2, h3, h4, h5, h6, h7⟩ := hp
  obtain ⟨-, -, g3⟩ := vx_keep (A1 := AA Δ) h0 e1 h3 (fun q _ h => h) (fun _ h => h) hL hF
  refine ⟨by rw [e1]; exact k3, k4, g3, k5, k6, fun j hj => ?_, h7.tr k2⟩
  have hj2 : CLn σ j := by
    rcases hj with q | q
    · exact Or.inl (Nat.lt_of_lt_of_le q h7.1)
    · exact Or.inr q
  exact (k1 j hj2).trans (h6 j hj)
end GE
