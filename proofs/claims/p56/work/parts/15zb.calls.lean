/-! CALLS OF MORE KINDS -/
theorem clB_e {r : Option Nat} {σ σ' : HpT} {e a b : Nat} (h : clB r σ = some (.error e, σ', a, b)) : False := by
  unfold clB at h
  cases r with
  | none => cases h
  | some x =>
    dsimp only at h
    split at h
    · cases h
    · cases h
/-- a call that is known to throw nothing -/
def exO {α : Type} (o : Option (Except Nat α)) : Option α := match o with
  | some (.ok a) => some a
  | _ => none
theorem exO_s {α : Type} {o : Option (Except Nat α)} {a : α} (h : exO o = some a) : o = some (.ok a) := by
  unfold exO at h
  cases o with
  | none => cases h
  | some e =>
    cases e with
    | error n => cases h
    | ok v => exact congrArg (fun x => some (Except.ok x)) (Option.some.inj h)
section BNO
variable {α β : Type}
def bnO (o : AT α) (f : α → HpT → AT β) : AT β := match o with
  | some (.ok v, σ1, a1, b1) => (match f v σ1 with
    | none => none
    | some (y, σ2, a2, b2) => some (y, σ2, a1 + a2, b1 + b2))
  | _ => none
theorem bnO_s {o : AT α} {f : α → HpT → AT β} {y : Except Nat β} {σ' : HpT} {a b : Nat} (h : bnO o f = some (y, σ', a, b)) :
    ∃ v σ1 a1 b1 a2 b2, o = some (.ok v, σ1, a1, b1) ∧ f v σ1 = some (y, σ', a2, b2) ∧ a = a1 + a2 ∧ b = b1 + b2 := by
  unfold bnO at h
  cases o with
  | none => cases h
  | some z =>
    obtain ⟨e, σ1, a1, b1⟩ := z
    cases e with
    | error n => cases h
    | ok v =>
      dsimp only at h
      cases e2 : f v σ1 with
      | none => rw [e2] at h; cases h
      | some z2 =>
        obtain ⟨y2, σ2, a2, b2⟩ := z2
        rw [e2] at h
        have h := Option.some.inj h
        cases h
        exact ⟨v, σ1, a1, b1, a2, b2, rfl, e2, rfl, rfl⟩
end BNO
/-- through an interface: text that is a String -/
def LF (own : String) (idx : Nat) (x y : MethodName) : Prop := Cond.methodLink own idx x ∈ ALLw ∧ Cond.selects "java/lang/String" x y ∈ ALLw ∧ Cond.instanceMethod y ∈ ALLw ∧ (x.cls ≠ "java/lang/invoke/MethodHandle" ∧ x.cls ≠ "java/lang/invoke/VarHandle") ∧ x.desc = y.desc ∧ ((x = xCsLen ∧ y = yJ0_length_8abf5) ∨ (x = xCsAt ∧ y = yJ0_charAt_5068e))
/-- a method of the class above that the receiver's class has anew -/
def LO (own : String) (idx : Nat) (x y : MethodName) (C : String) : Prop := Cond.methodLink own idx x ∈ ALLw ∧ Cond.sameMethod x.cls x.cls x.name x.desc ∈ ALLw ∧ Cond.instanceMethod x ∈ ALLw ∧ Cond.selects C x y ∈ ALLw ∧ Cond.instanceMethod y ∈ ALLw ∧ (∃ b0 m0 r0, Cond.code x b0 m0 r0 ∈ ALLw) ∧ (x.cls ≠ "java/lang/invoke/MethodHandle" ∧ x.cls ≠ "java/lang/invoke/VarHandle") ∧ x.desc = y.desc
section GY
variable {Δ : AmbT} {Γ : CtxT} {own : String} {cc : ByteArray} {nL fr lo Kc Ks kc ks pc : Nat} {L : List (Nat × Value)} {st stk : List Value} {σ σ1 : HpT}
variable {y x0 : MethodName} {cc1 : ByteArray} {nL1 : Nat} {ret1 ret : Option FieldType} {n fr1 lo1 idx κ k1c k1s cnt : Nat} {as : List Value} {r : Option Nat} {v : Option Value} {w : Value} {x : Nat} {q : vw_C} {o : Except Nat (Option Value)}
theorem runQ (B : Bd Δ Γ own cc nL fr lo Kc Ks) {φ : Nat → Nat} {H : Heap} {locs : List Loc} {ls : Array Slot} (hk : IsK σ r 15) (hC : Ct Γ.2.1 y cc1 nL1 ret1 fr1 lo1 (va_rf r :: as) σ o σ1 k1c k1s) (hy : "java/lang/String" = y.cls) (hM : MI y cc1 nL1 ret1 n) (hl0 : LV own idx y) (hR : fr1 + 1 ≤ fr ∧ 8 + (nL1 + 11) + lo1 ≤ lo) (hn : as.length = n) (hstk : stk = as.reverse ++ (va_rf r :: st)) (h4 : st.length ≤ 4) (d : decode cc pc = .ok (.invokevirtual idx, 3)) (hc : kc + k1c ≤ Kc) (hs : ks + k1s ≤ Ks)
    (hp : Rp Δ Γ.2.2.2.2.1 φ σ H locs) (hst : SC σ stk) (hl : lv_has ls Γ.2.2.2.2.2.2.2.2.2.1.maxLocals (enL φ L)) :
    vx_Run Γ.1 Γ.2.1 Γ.2.2.1 Γ.2.2.2.1 Γ.2.2.2.2.1 Γ.2.2.2.2.2.1 Γ.2.2.2.2.2.2.1 Γ.2.2.2.2.2.2.2.1 Γ.2.2.2.2.2.2.2.2.1 Γ.2.2.2.2.2.2.2.2.2.1 H locs kc ks k1c k1s (F0 Γ.2.2.2.2.2.1 pc ls (stk.map (en φ))) (st.map (en φ)) (Qr (Δ.1, Δ.2.1, Δ.2.2.1, Δ.2.2.2.1, φ, σ) o σ1 ((va_rf r :: as).map (en φ)).toArray) (Qx (Δ.1, Δ.2.1, Δ.2.2.1, Δ.2.2.2.1, φ, σ) o σ1) (AA Δ) := by
  obtain ⟨a, rfl, hk⟩ := hk
  rw [hstk] at hst
  have hs1 : SC σ (.ref a :: as) := SC.c (SC.h (SC.app hst).2) (SC.rev (SC.app hst).1)
  have hcat := cat_le φ st 4 h4
  exact vx_runV (C := "java/lang/String") (nL := nL) (As := as.map (en φ)) (b := φ a) (Ts := ALLw) ⟨B.1, B.2.1, B.2.2.1, B.2.2.2.1, B.2.2.2.2.1⟩ (hC B.2.2.2.2.2.2.2.2.2.2.2.2.2 Δ.1 Δ.2.1 Δ.2.2.1 Δ.2.2.2.1 φ) ⟨callB B hM hl0.1 hR, B.2.2.2.2.1 _ hl0.2.1, by rw [hy]; exact B.2.2.2.2.1 _ hl0.2.2⟩ (preQ B hp hk hs1) rfl (by rw [List.length_map]; exact hn) (by rw [← B.2.2.1]; exact hl.1) (by rw [hstk, List.map_append, List.map_reverse]; rfl) (by show 2 * 0 + _ ≤ 8; omega) d ⟨by rw [B.2.2.2.2.2.2.2.2.2.2.1]; exact hc, by rw [B.2.2.2.2.2.2.2.2.2.2.2.1]; exact hs⟩
theorem g_callQ (B : Bd Δ Γ own cc nL fr lo Kc Ks) (hC : IsK σ r 15 ∧ Ct Γ.2.1 y cc1 nL1 ret1 fr1 lo1 (va_rf r :: as) σ (.ok v) σ1 k1c k1s) (hy : "java/lang/String" = y.cls) (hM : MI y cc1 nL1 ret1 n) (hl0 : LV own idx y) (hR : fr1 + 1 ≤ fr ∧ 8 + (nL1 + 11) + lo1 ≤ lo) (hn : as.length = n) (hstk : stk = as.reverse ++ (va_rf r :: st)) (h4 : st.length ≤ 4) (d : decode cc pc = .ok (.invokevirtual idx, 3)) (hc : kc + k1c ≤ Kc) (hs : ks + k1s ≤ Ks) (kk : GW Δ Γ (kc + k1c) (ks + k1s) (pc + 3) L (v.toList ++ st) σ1) : GW Δ Γ kc ks pc L stk σ :=
  fun φ H locs ls hp hst hL hl => of_run B hp (by rw [hstk] at hst; exact (SC.app hst).2.t) hL hl (runQ B hC.1 hC.2 hy hM hl0 hR hn hstk h4 d hc hs hp hst hl) kk
theorem g_callQsA (B : Bd Δ Γ own cc nL fr lo Kc Ks) (hC : IsK σ r 15 ∧ Ct Γ.2.1 y cc1 nL1 ret1 fr1 lo1 (va_rf r :: as) σ (.ok (some w)) σ1 k1c k1s) (hy : "java/lang/String" = y.cls) (hM : MI y cc1 nL1 ret1 n) (hl0 : LV own idx y) (hR : fr1 + 1 ≤ fr ∧ 8 + (nL1 + 11) + lo1 ≤ lo) (hn : as.length = n) (hstk : stk = as.reverse ++ (va_rf r :: st)) (h4 : st.length ≤ 4) (d : decode cc pc = .ok (.invokevirtual idx, 3)) (hc : kc + k1c ≤ Kc) (hs : ks + k1s ≤ Ks) (kk : GW Δ Γ (kc + k1c) (ks + k1s) (pc + 3) L (w :: st) σ1) : GW Δ Γ kc ks pc L stk σ := g_callQ B hC hy hM hl0 hR hn hstk h4 d hc hs kk
theorem g_callQv0 (B : Bd Δ Γ own cc nL fr lo Kc Ks) (hC : IsK σ r 15 ∧ Ct Γ.2.1 y cc1 nL1 ret1 fr1 lo1 (va_rf r :: as) σ (.ok none) σ1 0 0) (hy : "java/lang/String" = y.cls) (hM : MI y cc1 nL1 ret1 n) (hl0 : LV own idx y) (hR : fr1 + 1 ≤ fr ∧ 8 + (nL1 + 11) + lo1 ≤ lo) (hn : as.length = n) (hstk : stk = as.reverse ++ (va_rf r :: st)) (h4 : st.length ≤ 4) (d : decode cc pc = .ok (.invokevirtual idx, 3)) (hc : kc ≤ Kc) (hs : ks ≤ Ks) (kk : GW Δ Γ kc ks (pc + 3) L st σ1) : GW Δ Γ kc ks pc L stk σ := g_callQ B hC hy hM hl0 hR hn hstk h4 d hc hs kk
theorem g_callQvA (B : Bd Δ Γ own cc nL fr lo Kc Ks) (hC : IsK σ r 15 ∧ Ct Γ.2.1 y cc1 nL1 ret1 fr1 lo1 (va_rf r :: as) σ (.ok none) σ1 k1c k1s) (hy : "java/lang/String" = y.cls) (hM : MI y cc1 nL1 ret1 n) (hl0 : LV own idx y) (hR : fr1 + 1 ≤ fr ∧ 8 + (nL1 + 11) + lo1 ≤ lo) (hn : as.length = n) (hstk : stk = as.reverse ++ (va_rf r :: st)) (h4 : st.length ≤ 4) (d : decode cc pc = .ok (.invokevirtual idx, 3)) (hc : kc + k1c ≤ Kc) (hs : ks + k1s ≤ Ks) (kk : GW Δ Γ (kc + k1c) (ks + k1s) (pc + 3) L st σ1) : GW Δ Γ kc ks pc L stk σ := g_callQ B hC hy hM hl0 hR hn hstk h4 d hc hs kk
theorem g_callQx (B : Bd Δ Γ own cc nL fr lo Kc Ks) (hC : IsK σ r 15 ∧ Ct Γ.2.1 y cc1 nL1 ret1 fr1 lo1 (va_rf r :: as) σ (.error x) σ1 k1c k1s) (hy : "java/lang/String" = y.cls) (hM : MI y cc1 nL1 ret1 n) (hl0 : LV own idx y) (hR : fr1 + 1 ≤ fr ∧ 8 + (nL1 + 11) + lo1 ≤ lo) (hn : as.length = n) (hstk : stk = as.reverse ++ (va_rf r :: st)) (h4 : st.length ≤ 4) (d : decode cc pc = .ok (.invokevirtual idx, 3)) (hc : kc + k1c ≤ Kc) (hs : ks + k1s ≤ Ks) (E : En Δ Γ (.error x) σ1 Kc Ks ret) : GW Δ Γ kc ks pc L stk σ :=
  fun φ H locs ls hp hst hL hl => of_runX B hp (runQ B hC.1 hC.2 hy hM hl0 hR hn hstk h4 d hc hs hp hst hl) E hc hs
/-- an overriding method -/
theorem runO (B : Bd Δ Γ own cc nL fr lo Kc Ks) {φ : Nat → Nat} {H : Heap} {locs : List Loc} {ls : Array Slot} (hk : IsK σ r κ) (hC : Ct Γ.2.1 y cc1 nL1 ret1 fr1 lo1 (va_rf r :: as) σ o σ1 k1c k1s) (h12 : κ < 15) (hq : gcl[κ]? = some q) (hM : MI y cc1 nL1 ret1 n) (hl0 : LO own idx x0 y q.1) (hR : fr1 + 1 ≤ fr ∧ 8 + (nL1 + 11) + lo1 ≤ lo) (hn : as.length = n) (hstk : stk = as.reverse ++ (va_rf r :: st)) (h4 : st.length ≤ 4) (d : decode cc pc = .ok (.invokevirtual idx, 3)) (hc : kc + k1c ≤ Kc) (hs : ks + k1s ≤ Ks)
    (hp : Rp Δ Γ.2.2.2.2.1 φ σ H locs) (hst : SC σ stk) (hl : lv_has ls Γ.2.2.2.2.2.2.2.2.2.1.maxLocals (enL φ L)) :
    vx_Run Γ.1 Γ.2.1 Γ.2.2.1 Γ.2.2.2.1 Γ.2.2.2.2.1 Γ.2.2.2.2.2.1 Γ.2.2.2.2.2.2.1 Γ.2.2.2.2.2.2.2.1 Γ.2.2.2.2.2.2.2.2.1 Γ.2.2.2.2.2.2.2.2.2.1 H locs kc ks k1c k1s (F0 Γ.2.2.2.2.2.1 pc ls (stk.map (en φ))) (st.map (en φ)) (Qr (Δ.1, Δ.2.1, Δ.2.2.1, Δ.2.2.2.1, φ, σ) o σ1 ((va_rf r :: as).map (en φ)).toArray) (Qx (Δ.1, Δ.2.1, Δ.2.2.1, Δ.2.2.2.1, φ, σ) o σ1) (AA Δ) := by
  obtain ⟨a, rfl, hk⟩ := hk
  rw [hstk] at hst
  have hs1 : SC σ (.ref a :: as) := SC.c (SC.h (SC.app hst).2) (SC.rev (SC.app hst).1)
  have hcat := cat_le φ st 4 h4
  have hts := B.2.2.2.2.1
  obtain ⟨l1, l2, l3, l4, l5, ⟨b0, m0, r0, l6⟩, l7, l8⟩ := hl0
  refine vx_runU (C := q.1) (owner := x0.cls) (x := x0) (nL := nL) (As := as.map (en φ)) (b := φ a) (Ts := ALLw) ⟨B.1, B.2.1, B.2.2.1, B.2.2.2.1, B.2.2.2.2.1⟩ (hC B.2.2.2.2.2.2.2.2.2.2.2.2.2 Δ.1 Δ.2.1 Δ.2.2.1 Δ.2.2.2.1 φ) ⟨⟨rfl, rfl, by rw [B.2.2.2.2.2.2.2.2.1]; exact hR.1, by rw [B.2.2.2.2.2.2.2.2.2.1]; exact hR.2, fun w hw a' U hW => ?_, List.mem_cons_self⟩, hts _ hM.2.1, hts _ hM.2.2.1, l7, fun sig e => hM.n sig (by rw [← l8]; exact e), hts _ l1, hts _ l2, va_Decl.of (hts _ l3) (hts _ l6), hts _ l4, hts _ l5⟩ (preV B hp hk h12 hq hs1) rfl (by rw [List.length_map]; exact hn) (by rw [← B.2.2.1]; exact hl.1) (by rw [hstk, List.map_append, List.map_reverse]; rfl) (by show 2 * 0 + _ ≤ 8; omega) d ⟨by rw [B.2.2.2.2.2.2.2.2.2.2.1]; exact hc, by rw [B.2.2.2.2.2.2.2.2.2.2.2.1]; exact hs⟩
  rcases List.mem_cons.mp hw with e | e
  · rw [e]; exact pay hM.2.1 hts a' U hW
  · exact pay e hts a' U hW
theorem g_callO (B : Bd Δ Γ own cc nL fr lo Kc Ks) (hC : IsK σ r κ ∧ Ct Γ.2.1 y cc1 nL1 ret1 fr1 lo1 (va_rf r :: as) σ (.ok v) σ1 k1c k1s) (h12 : κ < 15) (hq : gcl[κ]? = some q) (hM : MI y cc1 nL1 ret1 n) (hl0 : LO own idx x0 y q.1) (hR : fr1 + 1 ≤ fr ∧ 8 + (nL1 + 11) + lo1 ≤ lo) (hn : as.length = n) (hstk : stk = as.reverse ++ (va_rf r :: st)) (h4 : st.length ≤ 4) (d : decode cc pc = .ok (.invokevirtual idx, 3)) (hc : kc + k1c ≤ Kc) (hs : ks + k1s ≤ Ks) (kk : GW Δ Γ (kc + k1c) (ks + k1s) (pc + 3) L (v.toList ++ st) σ1) : GW Δ Γ kc ks pc L stk σ :=
  fun φ H locs ls hp hst hL hl => of_run B hp (by rw [hstk] at hst; exact (SC.app hst).2.t) hL hl (runO B hC.1 hC.2 h12 hq hM hl0 hR hn hstk h4 d hc hs hp hst hl) kk
theorem g_callOs0 (B : Bd Δ Γ own cc nL fr lo Kc Ks) (hC : IsK σ r κ ∧ Ct Γ.2.1 y cc1 nL1 ret1 fr1 lo1 (va_rf r :: as) σ (.ok (some w)) σ1 0 0) (h12 : κ < 15) (hq : gcl[κ]? = some q) (hM : MI y cc1 nL1 ret1 n) (hl0 : LO own idx x0 y q.1) (hR : fr1 + 1 ≤ fr ∧ 8 + (nL1 + 11) + lo1 ≤ lo) (hn : as.length = n) (hstk : stk = as.reverse ++ (va_rf r :: st)) (h4 : st.length ≤ 4) (d : decode cc pc = .ok (.invokevirtual idx, 3)) (hc : kc ≤ Kc) (hs : ks ≤ Ks) (kk : GW Δ Γ kc ks (pc + 3) L (w :: st) σ1) : GW Δ Γ kc ks pc L stk σ := g_callO B hC h12 hq hM hl0 hR hn hstk h4 d hc hs kk
theorem g_callOsA (B : Bd Δ Γ own cc nL fr lo Kc Ks) (hC : IsK σ r κ ∧ Ct Γ.2.1 y cc1 nL1 ret1 fr1 lo1 (va_rf r :: as) σ (.ok (some w)) σ1 k1c k1s) (h12 : κ < 15) (hq : gcl[κ]? = some q) (hM : MI y cc1 nL1 ret1 n) (hl0 : LO own idx x0 y q.1) (hR : fr1 + 1 ≤ fr ∧ 8 + (nL1 + 11) + lo1 ≤ lo) (hn : as.length = n) (hstk : stk = as.reverse ++ (va_rf r :: st)) (h4 : st.length ≤ 4) (d : decode cc pc = .ok (.invokevirtual idx, 3)) (hc : kc + k1c ≤ Kc) (hs : ks + k1s ≤ Ks) (kk : GW Δ Γ (kc + k1c) (ks + k1s) (pc + 3) L (w :: st) σ1) : GW Δ Γ kc ks pc L stk σ := g_callO B hC h12 hq hM hl0 hR hn hstk h4 d hc hs kk
theorem g_callOx (B : Bd Δ Γ own cc nL fr lo Kc Ks) (hC : IsK σ r κ ∧ Ct Γ.2.1 y cc1 nL1 ret1 fr1 lo1 (va_rf r :: as) σ (.error x) σ1 k1c k1s) (h12 : κ < 15) (hq : gcl[κ]? = some q) (hM : MI y cc1 nL1 ret1 n) (hl0 : LO own idx x0 y q.1) (hR : fr1 + 1 ≤ fr ∧ 8 + (nL1 + 11) + lo1 ≤ lo) (hn : as.length = n) (hstk : stk = as.reverse ++ (va_rf r :: st)) (h4 : st.length ≤ 4) (d : decode cc pc = .ok (.invokevirtual idx, 3)) (hc : kc + k1c ≤ Kc) (hs : ks + k1s ≤ Ks) (E : En Δ Γ (.error x) σ1 Kc Ks ret) : GW Δ Γ kc ks pc L stk σ :=
  fun φ H locs ls hp hst hL hl => of_runX B hp (runO B hC.1 hC.2 h12 hq hM hl0 hR hn hstk h4 d hc hs hp hst hl) E hc hs
/-- the Unsafe that is given -/
theorem big_U {φ : Nat → Nat} {H : Heap} {locs : List Loc} {s : State} {a : Nat} (hp : Rp Δ s φ σ H locs) (h : hK σ a = 16) : a = BIG + 205 := by
  have hn := hp.2.2.2.2.1.1
  by_cases ha : a < hN σ
  · exfalso
    have e := ws_at (aC := Δ.2.1) (φ := φ) ha
    rw [entC h (by decide)] at e
    obtain ⟨q9, h9, -⟩ := hp.1 a _ e
    cases h9
  · have e : ¬ a < σ.1 := ha
    unfold hK cK at h
    rw [if_neg e] at h
    repeat' split at h
    all_goals omega
theorem preU (B : Bd Δ Γ own cc nL fr lo Kc Ks) {φ : Nat → Nat} {H : Heap} {locs : List Loc} {a : Nat} {as : List Value} (hp : Rp Δ Γ.2.2.2.2.1 φ σ H locs) (hk : hK σ a = 16) (hs : SC σ (.ref a :: as)) : PreV Γ.2.2.2.2.1 H "jdk/internal/misc/Unsafe" (φ a) (va_Pc ((Value.ref a :: as).map (en φ)) (Pre (Δ.1, Δ.2.1, Δ.2.2.1, Δ.2.2.2.1, φ, σ) (.ref a :: as))) (as.map (en φ)) := by
  refine ⟨blind, ?_, fun U hU hW => ⟨rfl, pre_of hp B.2.2.2.2.2.1 B.2.2.2.2.2.2.1 B.2.2.2.2.2.2.2.1 hs hU hW⟩⟩
  have e := big_U hp hk
  subst e
  obtain ⟨cell, h1, h2, h3, -⟩ := ((ev2_of B).2.2.2.2.1).kept hp.2.2.1.2.1
  exact ⟨cell, by rw [hp.2.2.2.1 _ (Nat.le_add_right _ _)]; exact h1, h2, h3⟩
theorem g_callUs0 (B : Bd Δ Γ own cc nL fr lo Kc Ks) (hC : IsK σ r 16 ∧ Ct Γ.2.1 y cc1 nL1 ret1 fr1 lo1 (va_rf r :: as) σ (.ok (some w)) σ1 0 0) (hy : "jdk/internal/misc/Unsafe" = y.cls) (hM : MI y cc1 nL1 ret1 n) (hl0 : LV own idx y) (hR : fr1 + 1 ≤ fr ∧ 8 + (nL1 + 11) + lo1 ≤ lo) (hn : as.length = n) (hstk : stk = as.reverse ++ (va_rf r :: st)) (h4 : st.length ≤ 4) (d : decode cc pc = .ok (.invokevirtual idx, 3)) (hc : kc ≤ Kc) (hs : ks ≤ Ks) (kk : GW Δ Γ kc ks (pc + 3) L (w :: st) σ1) : GW Δ Γ kc ks pc L stk σ := fun φ H locs ls hp hst hL hl => by
  obtain ⟨⟨a, rfl, hk⟩, hC⟩ := hC
  refine of_run (v := some w) (k1c := 0) (k1s := 0) (a0 := ((Value.ref a :: as).map (en φ)).toArray) B hp (by rw [hstk] at hst; exact (SC.app hst).2.t) hL hl ?_ kk
  rw [hstk] at hst
  have hs1 : SC σ (.ref a :: as) := SC.c (SC.h (SC.app hst).2) (SC.rev (SC.app hst).1)
  have hcat := cat_le φ st 4 h4
  exact vx_runV (C := "jdk/internal/misc/Unsafe") (nL := nL) (As := as.map (en φ)) (b := φ a) (Ts := ALLw) ⟨B.1, B.2.1, B.2.2.1, B.2.2.2.1, B.2.2.2.2.1⟩ (hC B.2.2.2.2.2.2.2.2.2.2.2.2.2 Δ.1 Δ.2.1 Δ.2.2.1 Δ.2.2.2.1 φ) ⟨callB B hM hl0.1 hR, B.2.2.2.2.1 _ hl0.2.1, by rw [hy]; exact B.2.2.2.2.1 _ hl0.2.2⟩ (preU B hp hk hs1) rfl (by rw [List.length_map]; exact hn) (by rw [← B.2.2.1]; exact hl.1) (by rw [hstk, List.map_append, List.map_reverse]; rfl) (by show 2 * 0 + _ ≤ 8; omega) d ⟨by rw [B.2.2.2.2.2.2.2.2.2.2.1]; exact hc, by rw [B.2.2.2.2.2.2.2.2.2.2.2.1]; exact hs⟩
/-- through the interface CharSequence -/
theorem g_callFs0 (B : Bd Δ Γ own cc nL fr lo Kc Ks) (hC : IsK σ r 15 ∧ Ct Γ.2.1 y cc1 nL1 ret1 fr1 lo1 (va_rf r :: as) σ (.ok (some w)) σ1 0 0) (hy : "java/lang/String" = y.cls) (hM : MI y cc1 nL1 ret1 n) (hl0 : LF own idx x0 y) (hR : fr1 + 1 ≤ fr ∧ 8 + (nL1 + 11) + lo1 ≤ lo) (hn : as.length = n) (hstk : stk = as.reverse ++ (va_rf r :: st)) (h4 : st.length ≤ 4) (d : decode cc pc = .ok (.invokeinterface idx cnt, 5)) (hc : kc ≤ Kc) (hs : ks ≤ Ks) (kk : GW Δ Γ kc ks (pc + 5) L (w :: st) σ1) : GW Δ Γ kc ks pc L stk σ := fun φ H locs ls hp hst hL hl => by
  obtain ⟨⟨a, rfl, hk⟩, hC⟩ := hC
  have hst0 : SC σ st := by rw [hstk] at hst; exact (SC.app hst).2.t
  rw [hstk] at hst
  have hs1 : SC σ (.ref a :: as) := SC.c (SC.h (SC.app hst).2) (SC.rev (SC.app hst).1)
  have hcat := cat_le φ st 4 h4
  have hts := B.2.2.2.2.1
  obtain ⟨l1, l2, l3, l4, l5, l6⟩ := hl0
  have hF : va_Fw "java/lang/String" x0 y Γ.2.2.2.2.1 := by
    rcases l6 with ⟨rfl, rfl⟩ | ⟨rfl, rfl⟩
    · exact (ev2_of B).2.2.2.2.2.2.2.2.1
    · exact (ev2_of B).2.2.2.2.2.2.2.2.2
  have hr : vx_Run5 Γ.1 Γ.2.1 Γ.2.2.1 Γ.2.2.2.1 Γ.2.2.2.2.1 Γ.2.2.2.2.2.1 Γ.2.2.2.2.2.2.1 Γ.2.2.2.2.2.2.2.1 Γ.2.2.2.2.2.2.2.2.1 Γ.2.2.2.2.2.2.2.2.2.1 H locs kc ks 0 0 (F0 Γ.2.2.2.2.2.1 pc ls (stk.map (en φ))) (st.map (en φ)) (Qr (Δ.1, Δ.2.1, Δ.2.2.1, Δ.2.2.2.1, φ, σ) (.ok (some w)) σ1 ((Value.ref a :: as).map (en φ)).toArray) (Qx (Δ.1, Δ.2.1, Δ.2.2.1, Δ.2.2.2.1, φ, σ) (.ok (some w)) σ1) (AA Δ) := by
    refine vx_runF (x := x0) (C := "java/lang/String") (nL := nL) (As := as.map (en φ)) (b := φ a) (Ts := ALLw) (B.2.2.2.2.2.1.1 15 (RJ0, TJ0, 4) rfl).2 ⟨B.1, B.2.1, B.2.2.1, B.2.2.2.1, B.2.2.2.2.1⟩ (hC B.2.2.2.2.2.2.2.2.2.2.2.2.2 Δ.1 Δ.2.1 Δ.2.2.1 Δ.2.2.2.1 φ) ⟨⟨rfl, rfl, by rw [B.2.2.2.2.2.2.2.2.1]; exact hR.1, by rw [B.2.2.2.2.2.2.2.2.2.1]; exact hR.2, fun w hw a' U hW => ?_, List.mem_cons_self⟩, hts _ l1, va_any rfl hF.1, va_any rfl hF.2.1, hts _ l2, hts _ l3, va_any rfl hF.2.2.1, va_any rfl hF.2.2.2.1, va_any rfl hF.2.2.2.2, hts _ hM.2.2.1, hts _ hM.2.1, l4, fun sig e => hM.n sig (by rw [← l5]; exact e)⟩ (preQ B hp hk hs1) rfl (by rw [List.length_map]; exact hn) (by rw [← B.2.2.1]; exact hl.1) (by rw [hstk, List.map_append, List.map_reverse]; rfl) (by show 2 * 0 + _ ≤ 8; omega) d ⟨by rw [B.2.2.2.2.2.2.2.2.2.2.1]; exact hc, by rw [B.2.2.2.2.2.2.2.2.2.2.2.1]; exact hs⟩
    rcases List.mem_cons.mp hw with e | e
    · rw [e]; exact pay hM.2.1 hts a' U hW
    · exact pay e hts a' U hW
  intro T hT X
  rcases hr T hT X with ⟨v1, st₀, t, T', L9, h0, X', hL9, e1, e2, ⟨⟨φ', v2, hv, hov, hPs, hcl⟩, hF9⟩, stp⟩ | ⟨q, st₀, t, T', L9, E, ce, h0, X', hL9, e1, e2, ⟨⟨φ', n, hv, -⟩, -⟩, -⟩
  · cases hv
    cases hov
    have hB := hp.behind hPs h0 e1 B.2.2.2.2.2.2.1 hL9 hF9
    have hm : ∀ j, CLn σ j → φ' j = φ j := hPs.1
    have hn : hN σ ≤ hN σ1 := hPs.2.1.1
    have hst1 : SC σ1 st := fun w hw => (hst0 w hw).mono hn
    obtain ⟨t2, a1, b1⟩ := kk φ' T'.heap (locs ++ L9) ls hB (SC.tol (v := some w) hcl hst1) (fun q hq => (hL q hq).mono hn) (by rw [← enL_map hm L hL]; exact hl) T' rfl X'
    refine ⟨t2, stp t2 ?_, b1⟩
    rw [List.map_cons, ← en_map hm st hst0] at a1
    exact a1
  · cases hv
/-- bytes copied, out of a constant's too -/
theorem g_cpC (B : Bd Δ Γ own cc nL fr lo Kc Ks) {r2 : Option Nat} {sp dp m9 : Int32} {σ' : HpT} (hl0 : CPW own idx) (hR : 1 ≤ fr ∧ 60 ≤ lo) (h4 : st.length ≤ 4) (d : decode cc pc = .ok (.invokestatic idx, 3)) (h : cpC σ r sp r2 dp m9 = some σ') (kk : GW Δ Γ kc ks (pc + 3) L st σ') : GW Δ Γ kc ks pc L (.int m9 :: .int dp :: va_rf r2 :: .int sp :: va_rf r :: st) σ := by
  cases r with
  | none => cases h
  | some a =>
    cases r2 with
    | none => cases h
    | some b =>
      unfold cpC at h
      dsimp only at h
      split at h
      · rename_i hh
        obtain ⟨k1, k2, hb, h1, h2, h3, h5, h6⟩ := hh
        have h := Option.some.inj h
        by_cases ha : a < hN σ
        · refine g_cpI (κ := 22) B (Or.inr rfl) hl0 hR h4 d ?_ kk
          unfold cpI
          dsimp only
          rw [if_pos ⟨k1, k2, ha, hb, h1, h2, h3, h5, h6⟩, h]
        · subst h
          intro φ H locs ls hp hst hL hl
          have hcat := cat_le φ st 4 h4
          have hR1 : 1 ≤ Γ.2.2.2.1.frames := by rw [B.2.2.2.2.2.2.2.2.1]; exact hR.1
          have hR2 : ((st.map (en φ)).map fun v => v.category).sum + (nativeFrameWords "java/lang/System" "arraycopy" 5 + 11) ≤ Γ.2.2.2.1.locals := by
            rw [B.2.2.2.2.2.2.2.2.2.1]
            have : nativeFrameWords "java/lang/System" "arraycopy" 5 + 11 ≤ 50 := by decide +kernel
            omega
          have e2 := ws_at (aC := Δ.2.1) (φ := φ) hb
          have hts := B.2.2.2.2.1
          rw [entA k2 (by decide)] at e2
          have hab : BIG ≤ a := (hK_big hp.2.2.2.2.1 k1 (by decide)).resolve_left ha
          obtain ⟨hT, -⟩ := byteT hp B.2.2.2.2.2.2.2.1 k1 hab
          refine vk_copyt B.1 B.2.1 hl.1.symm B.2.2.2.1 (hts _ hl0.1) (hts _ hl0.2.1) (hts _ hl0.2.2.1) (hts _ hl0.2.2.2) B.2.2.2.2.2.1 hp.1 hp.2.1 hp.2.2.1 hT b 2 e2 rfl (nlt0 h1) (nlt0 h2) (nlt0 h3) h5 h6 (fun i _ => fit_byte (hp.2.2.2.2.1.2.2 a _ k1)) hR1 hR2 d (fun H1 locs1 hP hD hS => ?_)
          refine kk φ H1 locs1 ls (Rp_set hp rfl rfl (fun j _ => ent_wIr _ hb j) ?_ ?_ hP hD hS) (CL_n rfl hst.t.t.t.t.t) (LC_n rfl hL) hl
          · rw [entA (σ := wIr σ b _) (κ := 22) k2 (by decide)]
            show Sum.inl (Δ.2.1 2, hZ σ b, Sum.inl (hI (wIr σ b _) b)) = _
            rw [show hI (wIr σ b (va_cpy (hI σ a) (hI σ b) sp.toNatClampNeg dp.toNatClampNeg m9.toNatClampNeg)) b = va_cpy (hI σ a) (hI σ b) sp.toNatClampNeg dp.toNatClampNeg m9.toNatClampNeg from funext fun j => by rw [hI_wIr _ _ _ _ _ hb, if_pos rfl]]
          · refine ⟨hp.2.2.2.2.1.1, fun i k j hi hx => hp.2.2.2.2.1.2.1 i k j hi hx, fun i k hx => ?_⟩
            have hx2 : hK σ i = 22 := hx
            rw [hI_wIr _ _ _ _ _ hb]
            split
            · unfold va_cpy
              split
              · exact hp.2.2.2.2.1.2.2 a _ k1
              · exact hp.2.2.2.2.1.2.2 b _ k2
            · exact hp.2.2.2.2.1.2.2 i k hx2
      · cases h
end GY
