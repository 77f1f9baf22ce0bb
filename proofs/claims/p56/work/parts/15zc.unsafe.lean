/-! Unsafe.getLong over a row of longs -/
def glS (r : NativeRow) : Bool := r.name == "getLong" && r.cls == "jdk/internal/misc/Unsafe" && r.desc == "(Ljava/lang/Object;J)J"
theorem fa_l {A B : List NativeRow} {x : NativeRow} (h : A.find? glS = some x) : (A ++ B).find? glS = some x := by rw [List.find?_append, h]; rfl
theorem fa_r {A B : List NativeRow} {x : NativeRow} (h : (A.find? glS).isNone = true) (k : B.find? glS = some x) : (A ++ B).find? glS = some x := by rw [List.find?_append, Option.isNone_iff_eq_none.mp h, k]; rfl
abbrev glR : NativeRow := Native.jdk_internal_misc_Unsafe.memory.getRow "Long" "J" .long "" .plain
set_option maxRecDepth 1000000 in
set_option maxHeartbeats 4000000 in
theorem gl_find : NativeRow.find? Jvm.natives "jdk/internal/misc/Unsafe" "getLong" "(Ljava/lang/Object;J)J" = some glR := by
  show List.find? glS Jvm.natives = some glR
  unfold Jvm.natives
  iterate 29 refine fa_l ?_
  refine fa_r (by decide +kernel) ?_
  rfl
theorem gl_row (p : Program) : NativeRow.find? p.tables.natives "jdk/internal/misc/Unsafe" "getLong" "(Ljava/lang/Object;J)J" = some glR := by
  cases p <;> exact gl_find
def glN : MethodName := ⟨"jdk/internal/misc/Unsafe", "getLong", "(Ljava/lang/Object;J)J"⟩
theorem gl_desc : parseMethodDescriptor glN.desc = some { parameters := [.object "java/lang/Object", .long], returnType := some .long } := by decide +kernel
section GLW
variable {E : CtlPost} {e : Env} {dd : Bool} {acts : List Action} {s : State}
theorem gl_get {a : Nat} {A : Cell} {k : Class} {comp : ClassId} {i : Nat} {off x : Int64} {Q : Value → Jvm.Pre} (hA : s.heap[a]? = some A) (hvm : A.vm = .none) (hk : s.vm.classes[A.cls]? = some k) (hkind : k.kind = .array comp .long) (hneg : ¬ off < 0) (hoff : off.toNatClampNeg = 16 + 8 * i) (hx : A.slots[i]? = some (.long x)) (hQ : ∀ d' acts', Q (.long x) d' acts' s) : Sem.wp (UnsafeMem.get .long (.ref a) off .plain) Q E e dd acts s := by
  have hm : (8 * i) % 8 = 0 := Nat.mul_mod_right 8 i
  have hd : (8 * i) / 8 = i := Nat.mul_div_cancel_left i (by decide)
  simp [UnsafeMem.get, UnsafeMem.locate, hneg, hoff, hA, Cell.info, hvm, hk, hkind, UnsafeMem.arrayBase, UnsafeMem.scaleOf, UnsafeMem.isRefType, hm, hd, UnsafeMem.handedOut, hx]
  exact hQ _ _
end GLW
def gL (σ : HpT) (r : Option Nat) (off : Int64) : Option Int64 := match r with
  | none => none
  | some a => if (hK σ a = 21 ∧ a < hN σ) ∧ ¬ off < 0 ∧ off.toNatClampNeg = 16 + 8 * ((off.toNatClampNeg - 16) / 8) ∧ (off.toNatClampNeg - 16) / 8 < hZ σ a then some (hJ σ a ((off.toNatClampNeg - 16) / 8)) else none
def GLW (own : String) (idx : Nat) : Prop := Cond.methodLink own idx glN ∈ ALLw ∧ Cond.instanceMethod glN ∈ ALLw ∧ Cond.selects glN.cls glN glN ∈ ALLw ∧ Cond.native glN ∈ ALLw
section GLR
variable {Δ : AmbT} {Γ : CtxT} {own : String} {cc : ByteArray} {nL fr lo Kc Ks kc ks pc : Nat} {L : List (Nat × Value)} {st : List Value} {σ : HpT} {idx : Nat}
theorem g_getLong9 (B : Bd Δ Γ own cc nL fr lo Kc Ks) {rU r : Option Nat} {off v : Int64} (hk : IsK σ rU 16) (hw : GLW own idx) (hR : 1 ≤ fr ∧ 40 ≤ lo) (h4 : st.length ≤ 4) (d : decode cc pc = .ok (.invokevirtual idx, 3)) (h : gL σ r off = some v) (kk : GW Δ Γ kc ks (pc + 3) L (.long v :: st) σ) : GW Δ Γ kc ks pc L (.long off :: va_rf r :: va_rf rU :: st) σ := fun φ H locs ls hp hst hL hl => by
  obtain ⟨aU, rfl, hkU⟩ := hk
  have eU := big_U hp hkU
  subst eU
  cases r with
  | none => cases h
  | some a =>
    unfold gL at h
    dsimp only at h
    split at h
    · rename_i hh
      obtain ⟨⟨hk21, ha⟩, hneg, hoff, hin⟩ := hh
      have h := Option.some.inj h
      subst h
      generalize (off.toNatClampNeg - 16) / 8 = i at hoff hin kk
      have hts := B.2.2.2.2.1
      have hcat := cat_le φ st 4 h4
      have e := ws_at (aC := Δ.2.1) (φ := φ) ha
      rw [entA hk21 (by decide)] at e
      have hcell : H[φ a]? = some (vp_cell (Δ.2.1 1) (hZ σ a, .inr (.inl (hJ σ a)))) := hp.1 a _ e
      obtain ⟨mk, kN, mN, hnN, hmN, hkN, N⟩ := NativeOf.of_instance (hts _ hw.2.2.2) (hts _ hw.2.1) gl_desc
      obtain ⟨mk', mN', hnN', hmN', hstM, habM⟩ := Cond.instanceMethod_spec (hts _ hw.2.1)
      cases hnN.symm.trans hnN'
      cases hmN.symm.trans hmN'
      obtain ⟨c2, r2, m2, q1, q2, q3, q4, kP, hkP, hkPi⟩ := Cond.selects_spec (hts _ hw.2.2.1)
      obtain ⟨cellU, u1, u2, u3, -⟩ := ((ev2_of B).2.2.2.2.1).kept hp.2.2.1.2.1
      cases u3.symm.trans q1
      cases (State.methodFound?_of_named hnN (by decide)).symm.trans q2
      cases hnN.symm.trans q3
      intro T hT X
      have hselP : selectMethod Γ.2.2.1.platform Γ.2.2.2.2.1.vm cellU.cls mk = .method mk := by rw [Launch.admits_selectMethod X.admits]; exact q4
      have hφ := hp.2.2.2.1 (BIG + 205) (Nat.le_add_right _ _)
      have hdg : decode Γ.2.2.2.2.2.2.2.2.2.1.code pc = .ok (.invokevirtual idx, 3) := by rw [B.2.1]; exact d
      obtain ⟨vm₁, X₁, step⟩ := X.invokevirtual B.1 B.2.2.2.1 (hts _ hw.1) hnN hmN hstM hkP hkPi (by decide) (a := φ (BIG + 205)) (cell := cellU) (by rw [hT, hφ]; exact u1) (fun z h => by rw [h] at u2; cases u2) hselP hmN habM hkP hkPi (g := F0 Γ.2.2.2.2.2.1 pc ls (.long off :: .ref (φ a) :: .ref (φ (BIG + 205)) :: st.map (en φ))) rfl (argsL := [.ref (φ a), .long off]) (rest := st.map (en φ)) (by rw [N.sig]; rfl) rfl hdg
      obtain ⟨t, a1, b1⟩ := kk φ H locs ls hp (SC.c (v := .long _) True.intro hst.t.t.t) hL hl (T.setVm vm₁) hT X₁
      refine ⟨t, step _ fun acts => ?_, b1⟩
      obtain ⟨kN', N'⟩ := N.alike X₁.warmed.alike
      obtain ⟨g₀, hfr⟩ := X₁.frames_eq
      have hAr := State.isArrayOf_alike X₁.warmed.alike ((B.2.2.2.2.2.1.2 1 (Δ.2.1 1, .long) rfl).1 0 (fun _ => .null))
      obtain ⟨-, kA, hkA, comp, hkind⟩ := hAr
      refine Steps.nativeEnds (row := glR) (v := some (.long (hJ σ a i))) (T := id) (g := F0 Γ.2.2.2.2.2.1 pc ls (st.map (en φ))) X₁.here acts N'.cls N'.meth N'.boot N'.native N'.noCode N'.noLock (by rw [N'.className, N'.name, N'.desc]; exact gl_row _) ?_ (fun _ => rfl) rfl (fun fs => X₁.here.code) ?_ hdg a1
      · rw [N'.className, N'.name]
        refine X₁.notFull (g := F0 Γ.2.2.2.2.2.1 pc ls (st.map (en φ))) hl.1 (by rw [B.2.2.2.2.2.2.2.2.1]; exact hR.1) ?_
        rw [B.2.2.2.2.2.2.2.2.2.1]
        have h6 : nativeFrameWords glN.cls glN.name (operandWords [Value.ref (φ (BIG + 205)), Value.ref (φ a), Value.long off]) = 6 := by
          rw [show operandWords [Value.ref (φ (BIG + 205)), Value.ref (φ a), Value.long off] = 4 from rfl]
          decide +kernel
        show 2 * 0 + _ + (nativeFrameWords glN.cls glN.name (operandWords [Value.ref (φ (BIG + 205)), Value.ref (φ a), Value.long off]) + 11) ≤ lo
        rw [h6]
        show 2 * 0 + ((st.map (en φ)).map fun v => v.category).sum + (6 + 11) ≤ lo
        omega
      · intro Q hq
        have hseen : seenByNative mN ([Value.ref (φ (BIG + 205)), Value.ref (φ a), Value.long off] : List Value).toArray = #[Value.ref (φ (BIG + 205)), Value.ref (φ a), Value.long off] := by
          simp [seenByNative, N'.static, N'.sig, narrow]
        have hU : ∀ fr9, ((T.setVm vm₁).setTop (F0 Γ.2.2.2.2.2.1 pc ls (st.map (en φ)))).pushFrame fr9 = (T.setVm vm₁).setFrames (fr9 :: .java (F0 Γ.2.2.2.2.2.1 pc ls (st.map (en φ))) :: Γ.2.2.2.2.2.2.2.1) := by
          intro fr9
          rw [State.pushFrame, State.frames_setTop _ hfr, State.setTop_of_frames _ hfr, State.setFrames_setFrames]
        rw [hU] at hq ⊢
        rw [hseen] at hq ⊢
        show wp (do let v ← UnsafeMem.get .long (.ref (φ a)) off .plain; mark "nat.jdk_internal_misc_Unsafe.get"; Pure.pure (some v)) Q _ _ false [] _
        simp only [wp_bind']
        refine gl_get (A := vp_cell (Δ.2.1 1) (hZ σ a, .inr (.inl (hJ σ a)))) (i := i) (x := hJ σ a i) (by rw [← hcell, ← hT]; rfl) rfl hkA hkind hneg hoff ?_ (fun d' acts' => ?_)
        · exact arrV_read _ _ hin
        · simp
          exact hq _ _
    · cases h
end GLR
