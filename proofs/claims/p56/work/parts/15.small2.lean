/-! small things for the printed walks -/
theorem al_n : (lg_sl []).length = 0 := rfl
theorem al_1 {v : Value} {vs : List Value} {n : Nat} (hc : v.category = 1) (h : (lg_sl vs).length = n) : (lg_sl (v :: vs)).length = n + 1 := by
  simp only [lg_sl, List.flatMap_cons, hc, List.length_append] at h ⊢
  simp [h]; omega
theorem al_2 {v : Value} {vs : List Value} {n : Nat} (hc : v.category = 2) (h : (lg_sl vs).length = n) : (lg_sl (v :: vs)).length = n + 2 := by
  simp only [lg_sl, List.flatMap_cons, hc, List.length_append] at h ⊢
  simp [h]; omega
theorem al_le {vs : List Value} {n m : Nat} (h : (lg_sl vs).length = n) (hm : n ≤ m) : (lg_sl vs).length ≤ m := h ▸ hm
theorem ag_n {i : Nat} : lv_args i [] = [] := rfl
theorem ag_1 {i : Nat} {v : Value} {vs : List Value} {L : List (Nat × Value)} (hc : v.category = 1) (h : lv_args (i + 1) vs = L) : lv_args i (v :: vs) = (i, v) :: L := by
  unfold lv_args
  rw [if_neg (by rw [hc]; decide), h]
theorem ag_2 {i : Nat} {v : Value} {vs : List Value} {L : List (Nat × Value)} (hc : v.category = 2) (h : lv_args (i + 2) vs = L) : lv_args i (v :: vs) = (i, v) :: L := by
  unfold lv_args
  rw [if_pos hc, h]
theorem bj {k r a1 A : Nat} (h : k + r = A) (h1 : a1 ≤ r) : k + a1 ≤ A := by omega
def nrB (x : Int32) : Option Unit := if x.toInt8.toInt32 = x then some () else none
def nrC (x : Int32) : Option Unit := if (x.toUInt32 % 65536).toInt32 = x then some () else none
theorem nrB_s {x : Int32} {u : Unit} (h : nrB x = some u) : narrow .byte (.int x) = .int x := by
  unfold nrB at h
  split at h
  · rename_i e; exact congrArg Value.int e
  · cases h
theorem nrC_s {x : Int32} {u : Unit} (h : nrC x = some u) : narrow .char (.int x) = .int x := by
  unfold nrC at h
  split at h
  · rename_i e; exact congrArg Value.int e
  · cases h
theorem inS {α : Type} {x y : α} {s t : HpT} (h : some (x, s) = some (y, t)) : x = y ∧ s = t := Prod.mk.inj (Option.some.inj h)
theorem inA {α : Type} {x y : α} {s t : HpT} {a b c d : Nat} (h : some (x, s, a, b) = some (y, t, c, d)) : x = y ∧ s = t ∧ a = c ∧ b = d := by
  have h1 := Prod.mk.inj (Option.some.inj h)
  have h2 := Prod.mk.inj h1.2
  exact ⟨h1.1, h2.1, Prod.mk.inj h2.2⟩
def OBW (own : String) (idx : Nat) : Prop := Cond.methodLink own idx Lib.objectInit ∈ ALLw ∧ Cond.instanceMethod Lib.objectInit ∈ ALLw ∧ Cond.code Lib.objectInit ⟨#[0xb1]⟩ 1 none ∈ ALLw
section VW15
variable {p : Program} {l : Launch} {e : Env} {R : Room} {s : State} {m : MethodId} {args : Array Value} {below : List Frame} {meth : Method} {c : Code} {H : Heap} {locs : List Loc} {cells slots : Nat} {Q : State → Prop}
variable {cc : ByteArray} {pc : Nat} {ls : Array Slot} {rest : List Value}
theorem vz_ldcSW (hexec : p.tables.exec = Jvm.exec) (hb : c.code = cc) {own tx : String} {index q : Nat} (hown : s.vm.findClass own = some m.cls) (hZ : vk_R own index tx q s) (hdg : decode cc pc = .ok (.ldc_w index, 3))
    (k : W p l e R s m args below meth c H locs cells slots Q (F0 m (pc + 3) ls (.ref q :: rest))) : W p l e R s m args below meth c H locs cells slots Q (F0 m pc ls rest) := by
  intro T hT X
  obtain ⟨t, a1, b1⟩ := k T hT X
  exact ⟨t, X.ldcStringW hexec hown (text := tx) (a := q) hZ.1 hZ.2 (g := F0 m pc ls rest) rfl (by rw [hb]; exact hdg) t a1, b1⟩
end VW15
def mmx (x y : Int32) : Int32 := if x < y then y else x
def mmn (x y : Int32) : Int32 := if y < x then y else x
def mab (x : Int32) : Int32 := if 0 ≤ x then x else 0 - x
def MTW (own : String) (idx : Nat) (y : MethodName) (cc : ByteArray) (n : Nat) : Prop := Cond.methodLink own idx y ∈ ALLw ∧ Cond.static y ∈ ALLw ∧ Cond.initialized "java/lang/Math" ∈ ALLw ∧ Cond.code y cc n (some .int) ∈ ALLw
theorem bm {k r A : Nat} (h : k + r = A) : k ≤ A := by omega
section GW15
variable {Δ : AmbT} {Γ : CtxT} {own : String} {cc : ByteArray} {nL fr lo Kc Ks kc ks pc : Nat} {L : List (Nat × Value)} {st stk : List Value} {σ σ1 : HpT}
theorem g_objInit9 (B : Bd Δ Γ own cc nL fr lo Kc Ks) {idx κ : Nat} {r : Option Nat} {σ0 : HpT} (hk : IsK σ0 r κ) (ho : OBW own idx) (hR : 1 ≤ fr ∧ 20 ≤ lo) (h4 : st.length ≤ 4) (d : decode cc pc = .ok (.invokespecial idx, 3)) (kk : GW Δ Γ kc ks (pc + 3) L st σ) : GW Δ Γ kc ks pc L (va_rf r :: st) σ := by
  obtain ⟨a, rfl, -⟩ := hk
  exact g_objInit B ho.1 ho.2.1 ho.2.2 hR h4 d kk
theorem g_ldcSW (B : Bd Δ Γ own cc nL fr lo Kc Ks) {idx j : Nat} {tx : String} (hj : stT[j]? = some (own, idx, tx)) (d : decode cc pc = .ok (.ldc_w idx, 3)) (kk : GW Δ Γ kc ks (pc + 3) L (va_rf (some (BIG + j)) :: st) σ) : GW Δ Γ kc ks pc L st σ := fun φ H locs ls hp hst hL hl => by
  have hj2 : j < nSt := (List.getElem?_eq_some_iff.mp hj).1
  have h := B.2.2.2.2.2.2.2.1.1 j hj2 _ hj
  refine vz_ldcSW B.1 B.2.1 B.2.2.2.1 h d ?_
  have kk := kk φ H locs ls hp (SC.c (v := .ref (BIG + j)) (Or.inr (Nat.le_add_right _ _)) hst) hL hl
  have e : en φ (va_rf (some (BIG + j))) = .ref (Δ.2.2.1 (BIG + j)) := congrArg Value.ref (hp.2.2.2.1 _ (Nat.le_add_right _ _))
  rw [List.map_cons, e] at kk
  exact kk
theorem preQ (B : Bd Δ Γ own cc nL fr lo Kc Ks) {φ : Nat → Nat} {H : Heap} {locs : List Loc} {a : Nat} {as : List Value} (hp : Rp Δ Γ.2.2.2.2.1 φ σ H locs) (hk : hK σ a = 15) (hs : SC σ (.ref a :: as)) : PreV Γ.2.2.2.2.1 H "java/lang/String" (φ a) (va_Pc ((Value.ref a :: as).map (en φ)) (Pre (Δ.1, Δ.2.1, Δ.2.2.1, Δ.2.2.2.1, φ, σ) (.ref a :: as))) (as.map (en φ)) := by
  refine ⟨blind, ?_, fun U hU hW => ⟨rfl, pre_of hp B.2.2.2.2.2.1 B.2.2.2.2.2.2.1 B.2.2.2.2.2.2.2.1 hs hU hW⟩⟩
  by_cases hlt : a < hN σ
  · have e := ws_at (aC := Δ.2.1) (φ := φ) hlt
    rw [entC hk (by omega)] at e
    exact va_recv B.2.2.2.2.2.1 hp.1 (q := (RJ0, TJ0, 4)) rfl e
  obtain ⟨j, hj, rfl⟩ := big_str hp hk hlt
  obtain ⟨cell, h1, h2, h3, -⟩ := ((B.2.2.2.2.2.2.2.1.2.1 j hj).2.2.1).kept hp.2.2.1.2.1
  exact ⟨cell, by rw [hp.2.2.2.1 _ (Nat.le_add_right _ _)]; exact h1, h2, h3⟩
theorem g_callQs0 (B : Bd Δ Γ own cc nL fr lo Kc Ks) {y : MethodName} {cc1 : ByteArray} {nL1 : Nat} {ret1 : Option FieldType} {n fr1 lo1 idx : Nat} {as : List Value} {r : Option Nat} {w : Value} (hC : IsK σ r 15 ∧ Ct Γ.2.1 y cc1 nL1 ret1 fr1 lo1 (va_rf r :: as) σ (.ok (some w)) σ1 0 0) (hy : "java/lang/String" = y.cls) (hM : MI y cc1 nL1 ret1 n) (hl0 : LV own idx y) (hR : fr1 + 1 ≤ fr ∧ 8 + (nL1 + 11) + lo1 ≤ lo) (hn : as.length = n) (hstk : stk = as.reverse ++ (va_rf r :: st)) (h4 : st.length ≤ 4) (d : decode cc pc = .ok (.invokevirtual idx, 3)) (hc : kc ≤ Kc) (hs : ks ≤ Ks) (kk : GW Δ Γ kc ks (pc + 3) L (w :: st) σ1) : GW Δ Γ kc ks pc L stk σ := fun φ H locs ls hp hst hL hl => by
  obtain ⟨⟨a, rfl, hk⟩, hC⟩ := hC
  refine of_run (v := some w) (k1c := 0) (k1s := 0) (a0 := ((Value.ref a :: as).map (en φ)).toArray) B hp (by rw [hstk] at hst; exact (SC.app hst).2.t) hL hl ?_ kk
  rw [hstk] at hst
  have hs1 : SC σ (.ref a :: as) := SC.c (SC.h (SC.app hst).2) (SC.rev (SC.app hst).1)
  have hcat := cat_le φ st 4 h4
  exact vx_runV (C := "java/lang/String") (nL := nL) (As := as.map (en φ)) (b := φ a) (Ts := ALLw) ⟨B.1, B.2.1, B.2.2.1, B.2.2.2.1, B.2.2.2.2.1⟩ (hC B.2.2.2.2.2.2.2.2.2.2.2.2.2 Δ.1 Δ.2.1 Δ.2.2.1 Δ.2.2.2.1 φ) ⟨callB B hM hl0.1 hR, B.2.2.2.2.1 _ hl0.2.1, by rw [hy]; exact B.2.2.2.2.1 _ hl0.2.2⟩ (preQ B hp hk hs1) rfl (by rw [List.length_map]; exact hn) (by rw [← B.2.2.1]; exact hl.1) (by rw [hstk, List.map_append, List.map_reverse]; rfl) (by show 2 * 0 + _ ≤ 8; omega) d ⟨by rw [B.2.2.2.2.2.2.2.2.2.2.1]; exact hc, by rw [B.2.2.2.2.2.2.2.2.2.2.2.1]; exact hs⟩
theorem g_mmax (B : Bd Δ Γ own cc nL fr lo Kc Ks) {idx : Nat} {x y : Int32} (hM : MTW own idx Lib.Math.max.name Lib.Math.max.code 2) (hR : 1 ≤ fr ∧ 21 ≤ lo) (h4 : st.length ≤ 4) (d : decode cc pc = .ok (.invokestatic idx, 3)) (hc : kc ≤ Kc) (hs : ks ≤ Ks) (kk : GW Δ Γ kc ks (pc + 3) L (.int (mmx x y) :: st) σ) : GW Δ Γ kc ks pc L (.int y :: .int x :: st) σ := fun φ H locs ls hp hst hL hl => by
  have hcat := cat_le φ st 4 h4
  exact va_mmax B.1 B.2.1 hl.1.symm B.2.2.2.1 (B.2.2.2.2.1 _ hM.1) (B.2.2.2.2.1 _ hM.2.1) (B.2.2.2.2.1 _ hM.2.2.1) (B.2.2.2.2.1 _ hM.2.2.2) (by rw [B.2.2.2.2.2.2.2.2.1]; exact hR.1) (by rw [B.2.2.2.2.2.2.2.2.2.1]; omega) (by rw [B.2.2.2.2.2.2.2.2.2.2.1]; exact hc) (by rw [B.2.2.2.2.2.2.2.2.2.2.2.1]; exact hs) d (kk φ H locs ls hp (SC.c (v := .int _) True.intro hst.t.t) hL hl)
theorem g_mmin (B : Bd Δ Γ own cc nL fr lo Kc Ks) {idx : Nat} {x y : Int32} (hM : MTW own idx Lib.Math.min.name Lib.Math.min.code 2) (hR : 1 ≤ fr ∧ 21 ≤ lo) (h4 : st.length ≤ 4) (d : decode cc pc = .ok (.invokestatic idx, 3)) (hc : kc ≤ Kc) (hs : ks ≤ Ks) (kk : GW Δ Γ kc ks (pc + 3) L (.int (mmn x y) :: st) σ) : GW Δ Γ kc ks pc L (.int y :: .int x :: st) σ := fun φ H locs ls hp hst hL hl => by
  have hcat := cat_le φ st 4 h4
  exact va_mmin B.1 B.2.1 hl.1.symm B.2.2.2.1 (B.2.2.2.2.1 _ hM.1) (B.2.2.2.2.1 _ hM.2.1) (B.2.2.2.2.1 _ hM.2.2.1) (B.2.2.2.2.1 _ hM.2.2.2) (by rw [B.2.2.2.2.2.2.2.2.1]; exact hR.1) (by rw [B.2.2.2.2.2.2.2.2.2.1]; omega) (by rw [B.2.2.2.2.2.2.2.2.2.2.1]; exact hc) (by rw [B.2.2.2.2.2.2.2.2.2.2.2.1]; exact hs) d (kk φ H locs ls hp (SC.c (v := .int _) True.intro hst.t.t) hL hl)
theorem g_mabs (B : Bd Δ Γ own cc nL fr lo Kc Ks) {idx : Nat} {x : Int32} (hM : MTW own idx Lib.Math.abs.name Lib.Math.abs.code 1) (hR : 1 ≤ fr ∧ 21 ≤ lo) (h4 : st.length ≤ 4) (d : decode cc pc = .ok (.invokestatic idx, 3)) (hc : kc ≤ Kc) (hs : ks ≤ Ks) (kk : GW Δ Γ kc ks (pc + 3) L (.int (mab x) :: st) σ) : GW Δ Γ kc ks pc L (.int x :: st) σ := fun φ H locs ls hp hst hL hl => by
  have hcat := cat_le φ st 4 h4
  exact va_mabs B.1 B.2.1 hl.1.symm B.2.2.2.1 (B.2.2.2.2.1 _ hM.1) (B.2.2.2.2.1 _ hM.2.1) (B.2.2.2.2.1 _ hM.2.2.1) (B.2.2.2.2.1 _ hM.2.2.2) (by rw [B.2.2.2.2.2.2.2.2.1]; exact hR.1) (by rw [B.2.2.2.2.2.2.2.2.2.1]; omega) (by rw [B.2.2.2.2.2.2.2.2.2.2.1]; exact hc) (by rw [B.2.2.2.2.2.2.2.2.2.2.2.1]; exact hs) d (kk φ H locs ls hp (SC.c (v := .int _) True.intro hst.t) hL hl)
theorem g_callNSx {host : String} (B : Bd Δ Γ own cc nL fr lo Kc Ks) {y : MethodName} {cc1 : ByteArray} {nL1 : Nat} {ret1 ret : Option FieldType} {n fr1 lo1 idx x k1c k1s : Nat} {as : List Value} (hC : Ct Γ.2.1 y cc1 nL1 ret1 fr1 lo1 as σ (.error x) σ1 k1c k1s) (hM : MI y cc1 nL1 ret1 n) (hl0 : LNS own host idx y) (hR : fr1 + 1 ≤ fr ∧ 8 + (nL1 + 11) + lo1 ≤ lo) (hn : as.length = n) (hstk : stk = as.reverse ++ st) (h4 : st.length ≤ 4) (d : decode cc pc = .ok (.invokestatic idx, 3)) (hc : kc + k1c ≤ Kc) (hs : ks + k1s ≤ Ks) (E : En Δ Γ (.error x) σ1 Kc Ks ret) : GW Δ Γ kc ks pc L stk σ := fun φ H locs ls hp hst hL hl => of_runX B hp (runNS B hC hM hl0 hR hn hstk h4 d hc hs hp hst hl) E hc hs
theorem g_callIx (B : Bd Δ Γ own cc nL fr lo Kc Ks) {y : MethodName} {cc1 : ByteArray} {nL1 : Nat} {ret : Option FieldType} {n fr1 lo1 idx x k1c k1s κ : Nat} {as : List Value} {r : Option Nat} (hC : IsK σ r κ ∧ Ct Γ.2.1 y cc1 nL1 none fr1 lo1 (va_rf r :: as) σ (.error x) σ1 k1c k1s) (hM : MI y cc1 nL1 none n) (hl0 : LI own idx y) (hR : fr1 + 1 ≤ fr ∧ 8 + (nL1 + 11) + lo1 ≤ lo) (hn : as.length = n) (hstk : stk = as.reverse ++ (va_rf r :: st)) (h4 : st.length ≤ 4) (d : decode cc pc = .ok (.invokespecial idx, 3)) (hc : kc + k1c ≤ Kc) (hs : ks + k1s ≤ Ks) (E : En Δ Γ (.error x) σ1 Kc Ks ret) : GW Δ Γ kc ks pc L stk σ := by
  obtain ⟨⟨a, rfl, -⟩, hC⟩ := hC
  exact fun φ H locs ls hp hst hL hl => of_runX B hp (runI B hC hM hl0 hR hn hstk h4 d hc hs hp hst hl) E hc hs
theorem g_callNIx {host : String} (B : Bd Δ Γ own cc nL fr lo Kc Ks) {y : MethodName} {cc1 : ByteArray} {nL1 : Nat} {ret : Option FieldType} {n fr1 lo1 idx x k1c k1s κ : Nat} {as : List Value} {r : Option Nat} (hC : IsK σ r κ ∧ Ct Γ.2.1 y cc1 nL1 none fr1 lo1 (va_rf r :: as) σ (.error x) σ1 k1c k1s) (hM : MI y cc1 nL1 none n) (hl0 : LNI own host idx y) (hR : fr1 + 1 ≤ fr ∧ 8 + (nL1 + 11) + lo1 ≤ lo) (hn : as.length = n) (hstk : stk = as.reverse ++ (va_rf r :: st)) (h4 : st.length ≤ 4) (d : decode cc pc = .ok (.invokespecial idx, 3)) (hc : kc + k1c ≤ Kc) (hs : ks + k1s ≤ Ks) (E : En Δ Γ (.error x) σ1 Kc Ks ret) : GW Δ Γ kc ks pc L stk σ := by
  obtain ⟨⟨a, rfl, -⟩, hC⟩ := hC
  exact fun φ H locs ls hp hst hL hl => of_runX B hp (runNI B hC hM hl0 hR hn hstk h4 d hc hs hp hst hl) E hc hs
theorem g_callVcx (B : Bd Δ Γ own cc nL fr lo Kc Ks) {y : MethodName} {cc1 : ByteArray} {nL1 : Nat} {ret1 ret : Option FieldType} {n fr1 lo1 idx x k1c k1s κ : Nat} {as : List Value} {r : Option Nat} {q : vw_C} (hC : IsK σ r κ ∧ Ct Γ.2.1 y cc1 nL1 ret1 fr1 lo1 (va_rf r :: as) σ (.error x) σ1 k1c k1s) (h12 : κ < 15) (hq : gcl[κ]? = some q) (hM : MI y cc1 nL1 ret1 n) (hl0 : LVc own idx y q.1) (hR : fr1 + 1 ≤ fr ∧ 8 + (nL1 + 11) + lo1 ≤ lo) (hn : as.length = n) (hstk : stk = as.reverse ++ (va_rf r :: st)) (h4 : st.length ≤ 4) (d : decode cc pc = .ok (.invokevirtual idx, 3)) (hc : kc + k1c ≤ Kc) (hs : ks + k1s ≤ Ks) (E : En Δ Γ (.error x) σ1 Kc Ks ret) : GW Δ Γ kc ks pc L stk σ := fun φ H locs ls hp hst hL hl => by
  obtain ⟨⟨a, rfl, hk⟩, hC⟩ := hC
  refine of_runX (st := st) (a0 := ((Value.ref a :: as).map (en φ)).toArray) B hp ?_ E hc hs
  rw [hstk] at hst
  have hs1 : SC σ (.ref a :: as) := SC.c (SC.h (SC.app hst).2) (SC.rev (SC.app hst).1)
  have hcat := cat_le φ st 4 h4
  exact vx_runV (C := q.1) (nL := nL) (As := as.map (en φ)) (b := φ a) (Ts := ALLw) ⟨B.1, B.2.1, B.2.2.1, B.2.2.2.1, B.2.2.2.2.1⟩ (hC B.2.2.2.2.2.2.2.2.2.2.2.2.2 Δ.1 Δ.2.1 Δ.2.2.1 Δ.2.2.2.1 φ) ⟨callB B hM hl0.1 hR, B.2.2.2.2.1 _ hl0.2.1, hl0.2.2 _ _ B.2.2.2.2.1⟩ (preV B hp hk h12 hq hs1) rfl (by rw [List.length_map]; exact hn) (by rw [← B.2.2.1]; exact hl.1) (by rw [hstk, List.map_append, List.map_reverse]; rfl) (by show 2 * 0 + _ ≤ 8; omega) d ⟨by rw [B.2.2.2.2.2.2.2.2.2.2.1]; exact hc, by rw [B.2.2.2.2.2.2.2.2.2.2.2.1]; exact hs⟩
theorem g_callSUx (B : Bd Δ Γ own cc nL fr lo Kc Ks) {y : MethodName} {cc1 : ByteArray} {nL1 : Nat} {ret1 ret : Option FieldType} {n fr1 lo1 idx x k1c k1s κ : Nat} {as : List Value} {r : Option Nat} {q : vw_C} (hC : IsK σ r κ ∧ Ct Γ.2.1 y cc1 nL1 ret1 fr1 lo1 (va_rf r :: as) σ (.error x) σ1 k1c k1s) (h12 : κ < 15) (hq : gcl[κ]? = some q) (hM : MI y cc1 nL1 ret1 n) (hl0 : LSU own idx y) (hR : fr1 + 1 ≤ fr ∧ 8 + (nL1 + 11) + lo1 ≤ lo) (hn : as.length = n) (hstk : stk = as.reverse ++ (va_rf r :: st)) (h4 : st.length ≤ 4) (d : decode cc pc = .ok (.invokespecial idx, 3)) (hc : kc + k1c ≤ Kc) (hs : ks + k1s ≤ Ks) (E : En Δ Γ (.error x) σ1 Kc Ks ret) : GW Δ Γ kc ks pc L stk σ := fun φ H locs ls hp hst hL hl => by
  obtain ⟨⟨a, rfl, hk⟩, hC⟩ := hC
  refine of_runX (st := st) (a0 := ((Value.ref a :: as).map (en φ)).toArray) B hp ?_ E hc hs
  rw [hstk] at hst
  have hs1 : SC σ (.ref a :: as) := SC.c (SC.h (SC.app hst).2) (SC.rev (SC.app hst).1)
  have hcat := cat_le φ st 4 h4
  have hts := B.2.2.2.2.1
  refine vx_runSU (C := q.1) (nL := nL) (As := as.map (en φ)) (b := φ a) (Ts := ALLw) (B.2.2.2.2.2.1.1 κ q hq).2 ⟨B.1, B.2.1, B.2.2.1, B.2.2.2.1, B.2.2.2.2.1⟩ (hC B.2.2.2.2.2.2.2.2.2.2.2.2.2 Δ.1 Δ.2.1 Δ.2.2.1 Δ.2.2.2.1 φ) ⟨⟨rfl, rfl, by rw [B.2.2.2.2.2.2.2.2.1]; exact hR.1, by rw [B.2.2.2.2.2.2.2.2.2.1]; exact hR.2, fun w hw a' U hW => ?_, List.mem_cons_self⟩, hts _ hl0.1, hts _ hl0.2.1, hts _ hl0.2.2.1, hts _ hl0.2.2.2.1, hts _ hM.2.2.1, hts _ hM.2.1, hl0.2.2.2.2, hM.n⟩ (preV B hp hk h12 hq hs1) rfl (by rw [List.length_map]; exact hn) (by rw [← B.2.2.1]; exact hl.1) (by rw [hstk, List.map_append, List.map_reverse]; rfl) (by show 2 * 0 + _ ≤ 8; omega) d ⟨by rw [B.2.2.2.2.2.2.2.2.2.2.1]; exact hc, by rw [B.2.2.2.2.2.2.2.2.2.2.2.1]; exact hs⟩
  rcases List.mem_cons.mp hw with e | e
  · rw [e]; exact pay hM.2.1 hts a' U hW
  · exact pay e hts a' U hW
theorem g_gstF (B : Bd Δ Γ own cc nL fr lo Kc Ks) {idx : Nat} (hl0 : Cond.fieldLink own idx "jdk/internal/util/Preconditions" "SIOOBE_FORMATTER" "Ljava/util/function/BiFunction;" ∈ ALLw) (d : decode cc pc = .ok (.getstatic idx, 3)) (kk : ∀ r : Option Nat, GW Δ Γ kc ks (pc + 3) L (va_rf r :: st) σ) : GW Δ Γ kc ks pc L st σ := fun φ H locs ls hp hst hL hl => by
  rcases B.2.2.2.2.2.2.2.1.2.2.2.2.2.2.2.1 with h | h
  · exact va_gets B.1 B.2.1 h hp.2.2.1 B.2.2.2.1 (B.2.2.2.2.1 _ hl0) (fun _ q => q) d (kk none φ H locs ls hp (SC.c (v := .null) True.intro hst) hL hl)
  · have kk := kk (some (BIG + 202)) φ H locs ls hp (SC.c (v := .ref (BIG + 202)) (Or.inr (Nat.le_add_right _ _)) hst) hL hl
    have e : en φ (va_rf (some (BIG + 202))) = .ref (Δ.2.2.1 (BIG + 202)) := congrArg Value.ref (hp.2.2.2.1 _ (Nat.le_add_right _ _))
    rw [List.map_cons, e] at kk
    exact va_gets B.1 B.2.1 h hp.2.2.1 B.2.2.2.1 (B.2.2.2.2.1 _ hl0) (fun _ q => q) d kk
end GW15
theorem lk_df2 {d k1 o1 k2 o2 x : Int} (h1 : x ≠ k1) (h2 : x ≠ k2) : Op.lookupswitch.offset [(k1, o1), (k2, o2)] d x = d := by
  simp [Op.lookupswitch.offset, h1, h2, Ne.symm h1, Ne.symm h2]
theorem lk_df3 {d k1 o1 k2 o2 k3 o3 x : Int} (h1 : x ≠ k1) (h2 : x ≠ k2) (h3 : x ≠ k3) : Op.lookupswitch.offset [(k1, o1), (k2, o2), (k3, o3)] d x = d := by
  simp [Op.lookupswitch.offset, h1, h2, h3, Ne.symm h1, Ne.symm h2, Ne.symm h3]
theorem tw_of {ws : List Cond} {ids : List Nat} (h : ws.map some = ids.map (fun i => lw_tbl[i]?)) (hg : ws.all (fun w => goodWord w || (nestWord w && w.onTables)) = true) : ∀ w ∈ ws, w ∈ ALLw ∨ (w ∈ ALLn ∧ w.onTables = true) := by
  intro w hw
  have h1 : some w ∈ ids.map (fun i => lw_tbl[i]?) := h ▸ List.mem_map.mpr ⟨w, hw, rfl⟩
  obtain ⟨i, -, hi⟩ := List.mem_map.mp h1
  have h2 := List.all_eq_true.mp hg w hw
  rcases Bool.or_eq_true_iff.mp h2 with g | g
  · exact Or.inl (mw hi g)
  · have g2 := Bool.and_eq_true_iff.mp g
    exact Or.inr ⟨mn hi g2.1, g2.2⟩
