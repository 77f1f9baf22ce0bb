/-! a method of a class with native rows, herself in bytecode -/
section FREE1
variable {l : Launch}
theorem vx_ofWF {y : MethodName} {ws ws' : List Cond} {rm : Room} {Pc : Array Value → State → Prop} {Qc : Array Value → State → Outcome → State → Prop} {XC : String → State → State → Prop} {mc ms : Nat} {free : Addr → Prop} {cc : ByteArray} {maxL : Nat} {ret : Option FieldType}
    (hy : plainFor y = true) (hw : ws = Cond.code y cc maxL ret :: ws')
    (body : ∀ p e s m args below meth c s₁, BodyLoose p l y (headSpec ws rm) cc maxL ret e s m args below meth c s₁ → c.maxLocals = maxL → (∀ x ∈ c.exceptionTable.toList, False) → Pc args s →
      W p l e (headSpec ws rm).room s m args below meth c s.heap [] 0 0 (vx_MQ below Qc XC args s mc ms free) (entryFrame m args maxL)) : vx_Met l y ws rm Pc Qc XC mc ms free := by
  refine MetFree.of_bodySF (code := cc) (maxLocals := maxL) (ret := ret) hy ?_ ?_
  · intro args s m h hn
    obtain ⟨meth, c, h1, h2, h3, h4, h5, h6, -, -⟩ := Cond.code_spec hn (atoms_spec (ws := ws) h _ (by rw [hw]; exact List.mem_cons_self))
    exact ⟨meth, c, h1, h2, h3, h4, h5, h6⟩
  · intro p e s m args below meth c s₁ B hml hP _
    have hh0 : s₁.heap = s.heap := by rw [B.state]; rfl
    have ht : ∀ x ∈ c.exceptionTable.toList, False := by
      obtain ⟨meth9, c9, h1, h2, -, -, -, -, h7, -⟩ := Cond.code_spec B.named (atoms_spec (ws := ws) B.pre _ (by rw [hw]; exact List.mem_cons_self))
      cases Option.some.inj (h1.symm.trans B.method)
      cases Option.some.inj (h2.symm.trans (Stand.of_body B).code)
      intro x hx
      rw [Array.isEmpty_iff.mp h7] at hx
      cases hx
    obtain ⟨t, a1, o, b1, b2, b3⟩ := body p e s m args below meth c s₁ B hml ht hP s₁ hh0 (Stand.of_body B)
    exact ⟨t, o, a1, b1, b2, b3⟩
end FREE1
theorem ct_startF {l : Launch} {y : MethodName} {cc : ByteArray} {nL : Nat} {ret : Option FieldType} {own : String} {fr lo : Nat} {as : List Value} {σ σ' : HpT} {o : Except Nat (Option Value)} {Kc Ks : Nat} (hy : plainFor y = true) (hc : y.cls = own) {L : List (Nat × Value)} (hn : (lg_sl as).length ≤ nL) (hL : lv_args 0 as = L)
    (body : ∀ (Δ : AmbT) (Γ : CtxT), Bd Δ Γ own cc nL fr lo Kc Ks → En Δ Γ o σ' Kc Ks ret → Γ.2.2.2.2.2.2.2.2.1.name = y.name → GW Δ Γ 0 0 0 L [] σ) : Ct l y cc nL ret fr lo as σ o σ' Kc Ks := by
  intro hl D aC φ0 N0 φ
  refine vx_ofWF (cc := cc) (maxL := nL) (ret := ret) hy rfl ?_
  intro p e s m args below meth c s₁ B hml hex hv
  obtain ⟨rfl, hP, hD, hK, hN0, hφ, hw, hE, hs⟩ := hv
  have hts := atoms_spec (ws := Cond.code y cc nL ret :: ALLw) B.pre
  have hown : s.vm.findClass own = some m.cls := hc ▸ findClass_of_methodNamed B.named
  have hin : meth.name = y.name := (name_of_methodNamed B.named B.method).1
  have k := body (D, aC, φ0, N0, φ, σ) (p, l, e, ({ frames := fr, locals := lo, cells := Kc, slots := Ks } : Room), s, m, (as.map (en φ)).toArray, below, meth, c, vx_MQ below (Qr (D, aC, φ0, N0, φ, σ) o σ') (Qx (D, aC, φ0, N0, φ, σ) o σ') (as.map (en φ)).toArray s Kc Ks (AA (D, aC, φ0, N0, φ, σ))) ⟨B.exec, B.bytes, hml, hown, fun w h => hts w (List.mem_cons_of_mem _ h), hK, hN0, hE, rfl, rfl, rfl, rfl, B.notSynchronized, hl⟩ ⟨rfl, B.returns, hex⟩ hin
  have h1 := lv_entry (as.map (en φ)) (n := nL) (by rw [en_sl]; exact hn)
  rw [lg_entry_eq]
  rw [en_args, hL, ← hml] at h1
  rw [← hml]
  exact k φ s.heap [] _ ⟨hP, hD, va_S.rf, hφ, hw, fun _ _ => rfl, hLe.rf _⟩ (fun _ h => absurd h List.not_mem_nil) (hL ▸ LC_args as 0 hs) h1
def MIF (y : MethodName) (cc : ByteArray) (nL : Nat) (ret : Option FieldType) (n : Nat) : Prop :=
  plainFor y = true ∧ Cond.code y cc nL ret ∈ ALLw ∧ Cond.initialized y.cls ∈ ALLw ∧ (y.cls ≠ "java/lang/invoke/MethodHandle" ∧ y.cls ≠ "java/lang/invoke/VarHandle") ∧ (parseMethodDescriptor y.desc).map (fun d => d.parameters.length) = some n
theorem MIF.n {y : MethodName} {cc : ByteArray} {nL : Nat} {ret : Option FieldType} {n : Nat} (h : MIF y cc nL ret n) : ∀ sig, parseMethodDescriptor y.desc = some sig → n = sig.parameters.length := fun sig e => by
  have h2 := h.2.2.2.2
  rw [e] at h2
  exact (Option.some.inj h2).symm
section FREE2
variable {Δ : AmbT} {Γ : CtxT} {own : String} {cc : ByteArray} {nL fr lo Kc Ks kc ks pc : Nat} {L : List (Nat × Value)} {st : List Value} {σ : HpT}
variable {y : MethodName} {cc1 : ByteArray} {nL1 : Nat} {ret1 : Option FieldType} {n fr1 lo1 idx : Nat} {as : List Value} {o : Except Nat (Option Value)} {σ1 : HpT} {k1c k1s : Nat} {φ : Nat → Nat} {H : Heap} {locs : List Loc} {ls : Array Slot}
theorem callBF (B : Bd Δ Γ own cc nL fr lo Kc Ks) (hM : MIF y cc1 nL1 ret1 n) (hlink : Cond.methodLink own idx y ∈ ALLw) (hR : fr1 + 1 ≤ fr ∧ 8 + (nL1 + 11) + lo1 ≤ lo) : CallB Γ.2.2.2.1 Γ.2.2.2.2.1 Γ.2.2.2.2.2.2.1 own idx y cc1 nL1 ret1 (Cond.code y cc1 nL1 ret1 :: ALLw) ({ frames := fr1, locals := lo1, cells := k1c, slots := k1s } : Room) k1c k1s n := by
  have hts := B.2.2.2.2.1
  refine ⟨rfl, rfl, by rw [B.2.2.2.2.2.2.2.2.1]; exact hR.1, by rw [B.2.2.2.2.2.2.2.2.2.1]; exact hR.2, fun w hw a' U hW => ?_, List.mem_cons_self, hts _ hM.2.1, hts _ hM.2.2.1, hM.2.2.2.1, hM.n, hts _ hlink⟩
  rcases List.mem_cons.mp hw with e | e
  · rw [e]; exact pay hM.2.1 hts a' U hW
  · exact pay e hts a' U hW
end FREE2
section FREE3
variable {Δ : AmbT} {Γ : CtxT} {own : String} {cc : ByteArray} {nL fr lo Kc Ks kc ks pc : Nat} {L : List (Nat × Value)} {st stk : List Value} {σ σ1 : HpT}
variable {y x0 : MethodName} {cc1 : ByteArray} {nL1 : Nat} {ret1 ret : Option FieldType} {n fr1 lo1 idx κ k1c k1s cnt : Nat} {as : List Value} {r : Option Nat} {v : Option Value} {w : Value} {x : Nat} {q : vw_C} {o : Except Nat (Option Value)}
theorem g_callUs0F (B : Bd Δ Γ own cc nL fr lo Kc Ks) (hC : IsK σ r 16 ∧ Ct Γ.2.1 y cc1 nL1 ret1 fr1 lo1 (va_rf r :: as) σ (.ok (some w)) σ1 0 0) (hy : "jdk/internal/misc/Unsafe" = y.cls) (hM : MIF y cc1 nL1 ret1 n) (hl0 : LV own idx y) (hR : fr1 + 1 ≤ fr ∧ 8 + (nL1 + 11) + lo1 ≤ lo) (hn : as.length = n) (hstk : stk = as.reverse ++ (va_rf r :: st)) (h4 : st.length ≤ 4) (d : decode cc pc = .ok (.invokevirtual idx, 3)) (hc : kc ≤ Kc) (hs : ks ≤ Ks) (kk : GW Δ Γ kc ks (pc + 3) L (w :: st) σ1) : GW Δ Γ kc ks pc L stk σ := fun φ H locs ls hp hst hL hl => by
  obtain ⟨⟨a, rfl, hk⟩, hC⟩ := hC
  refine of_run (v := some w) (k1c := 0) (k1s := 0) (a0 := ((Value.ref a :: as).map (en φ)).toArray) B hp (by rw [hstk] at hst; exact (SC.app hst).2.t) hL hl ?_ kk
  rw [hstk] at hst
  have hs1 : SC σ (.ref a :: as) := SC.c (SC.h (SC.app hst).2) (SC.rev (SC.app hst).1)
  have hcat := cat_le φ st 4 h4
  exact vx_runV (C := "jdk/internal/misc/Unsafe") (nL := nL) (As := as.map (en φ)) (b := φ a) (Ts := ALLw) ⟨B.1, B.2.1, B.2.2.1, B.2.2.2.1, B.2.2.2.2.1⟩ (hC B.2.2.2.2.2.2.2.2.2.2.2.2.2 Δ.1 Δ.2.1 Δ.2.2.1 Δ.2.2.2.1 φ) ⟨callBF B hM hl0.1 hR, B.2.2.2.2.1 _ hl0.2.1, by rw [hy]; exact B.2.2.2.2.1 _ hl0.2.2⟩ (preU B hp hk hs1) rfl (by rw [List.length_map]; exact hn) (by rw [← B.2.2.1]; exact hl.1) (by rw [hstk, List.map_append, List.map_reverse]; rfl) (by show 2 * 0 + _ ≤ 8; omega) d ⟨by rw [B.2.2.2.2.2.2.2.2.2.2.1]; exact hc, by rw [B.2.2.2.2.2.2.2.2.2.2.2.1]; exact hs⟩
end FREE3
