section GP
variable {Δ : AmbT} {Γ : CtxT} {own : String} {cc : ByteArray} {nL fr lo Kc Ks kc ks pc : Nat} {L : List (Nat × Value)} {st stk : List Value} {σ σ1 : HpT}
variable {y : MethodName} {cc1 : ByteArray} {nL1 : Nat} {ret1 ret : Option FieldType} {n fr1 lo1 idx κ k1c k1s : Nat} {as : List Value} {r : Option Nat} {v : Option Value} {x : Nat} {q : vw_C} {o : Except Nat (Option Value)}
/-- a private method, or one that isn't overridden, of a class above the receiver's -/
theorem sel_sub {C : String} {y0 : MethodName} {s : State} {args : Array Value} (h1 : (Cond.selects C y0 y0).before args s = true) (hcls : y0.cls = y.cls) (hi0 : (Cond.instanceMethod y0).before args s = true) (hpriv : (Cond.privateMethod y).before args s = true) (hinst : (Cond.instanceMethod y).before args s = true) (hy : y.cls ≠ "java/lang/invoke/MethodHandle" ∧ y.cls ≠ "java/lang/invoke/VarHandle") : (Cond.selects C y y).before args s = true := by
  obtain ⟨c, r0, m0, hc, -, hn0, -, mk0, hk0, hni⟩ := Cond.selects_spec h1
  obtain ⟨mk, methM, hnamed, hmethM, -, -⟩ := Cond.instanceMethod_spec hinst
  have hfound : s.methodFound? y.cls y.name y.desc = some mk := State.methodFound?_of_named hnamed hy
  have hcm : mk.cls = m0.cls := by
    have a1 := findClass_of_methodNamed hnamed
    have a2 := findClass_of_methodNamed hn0
    rw [hcls, a1] at a2
    exact Option.some.inj a2
  have hsel : selectMethod {} s.vm c mk = .method mk := selectMethod_private hmethM (Cond.privateMethod_at hpriv mk methM hnamed hmethM)
  simp only [Cond.before, Cond.holds, Cond.value, hc, hfound, hnamed, hsel, hcm, hk0]
  simp; exact hni
def LVc (own : String) (idx : Nat) (y : MethodName) (C : String) : Prop := Cond.methodLink own idx y ∈ ALLw ∧ Cond.instanceMethod y ∈ ALLw ∧ ∀ (args : Array Value) (s : State), (∀ w ∈ ALLw, w.before args s = true) → (Cond.selects C y y).before args s = true
theorem LVc.of {C : String} (h1 : Cond.methodLink own idx y ∈ ALLw) (h2 : Cond.instanceMethod y ∈ ALLw) (h3 : Cond.selects C y y ∈ ALLw) : LVc own idx y C := ⟨h1, h2, fun _ _ h => h _ h3⟩
theorem LVc.priv {C : String} {y0 : MethodName} (h1 : Cond.methodLink own idx y ∈ ALLw) (h2 : Cond.instanceMethod y ∈ ALLw) (h3 : Cond.selects C y0 y0 ∈ ALLw) (h4 : Cond.instanceMethod y0 ∈ ALLw) (h5 : Cond.privateMethod y ∈ ALLw) (h6 : y0.cls = y.cls) (hy : y.cls ≠ "java/lang/invoke/MethodHandle" ∧ y.cls ≠ "java/lang/invoke/VarHandle") : LVc own idx y C := ⟨h1, h2, fun _ _ h => sel_sub (h _ h3) h6 (h _ h4) (h _ h5) (h _ h2) hy⟩
theorem g_callVc (B : Bd Δ Γ own cc nL fr lo Kc Ks) (hC : IsK σ r κ ∧ Ct Γ.2.1 y cc1 nL1 ret1 fr1 lo1 (va_rf r :: as) σ (.ok v) σ1 k1c k1s) (h12 : κ < 15) (hq : gcl[κ]? = some q) (hM : MI y cc1 nL1 ret1 n) (hl0 : LVc own idx y q.1) (hR : fr1 + 1 ≤ fr ∧ 8 + (nL1 + 11) + lo1 ≤ lo) (hn : as.length = n) (hstk : stk = as.reverse ++ (va_rf r :: st)) (h4 : st.length ≤ 4) (d : decode cc pc = .ok (.invokevirtual idx, 3)) (hc : kc + k1c ≤ Kc) (hs : ks + k1s ≤ Ks) (kk : GW Δ Γ (kc + k1c) (ks + k1s) (pc + 3) L (v.toList ++ st) σ1) : GW Δ Γ kc ks pc L stk σ := fun φ H locs ls hp hst hL hl => by
  obtain ⟨⟨a, rfl, hk⟩, hC⟩ := hC
  refine of_run (a0 := ((Value.ref a :: as).map (en φ)).toArray) B hp (by rw [hstk] at hst; exact (SC.app hst).2.t) hL hl ?_ kk
  rw [hstk] at hst
  have hs1 : SC σ (.ref a :: as) := SC.c (SC.h (SC.app hst).2) (SC.rev (SC.app hst).1)
  have hcat := cat_le φ st 4 h4
  exact vx_runV (C := q.1) (nL := nL) (As := as.map (en φ)) (b := φ a) (Ts := ALLw) ⟨B.1, B.2.1, B.2.2.1, B.2.2.2.1, B.2.2.2.2.1⟩ (hC B.2.2.2.2.2.2.2.2.2.2.2.2.2 Δ.1 Δ.2.1 Δ.2.2.1 Δ.2.2.2.1 φ) ⟨callB B hM hl0.1 hR, B.2.2.2.2.1 _ hl0.2.1, hl0.2.2 _ _ B.2.2.2.2.1⟩ (preV B hp hk h12 hq hs1) rfl (by rw [List.length_map]; exact hn) (by rw [← B.2.2.1]; exact hl.1) (by rw [hstk, List.map_append, List.map_reverse]; rfl) (by show 2 * 0 + _ ≤ 8; omega) d ⟨by rw [B.2.2.2.2.2.2.2.2.2.2.1]; exact hc, by rw [B.2.2.2.2.2.2.2.2.2.2.2.1]; exact hs⟩
/-- super.m(..) -/
def LSU (own : String) (idx : Nat) (y : MethodName) : Prop := Cond.methodLink own idx y ∈ ALLw ∧ Cond.sameMethod y.cls y.cls y.name y.desc ∈ ALLw ∧ Cond.superclass own y.cls ∈ ALLw ∧ Cond.instanceMethod y ∈ ALLw ∧ y.name ≠ "<init>"
theorem g_callSU (B : Bd Δ Γ own cc nL fr lo Kc Ks) (hC : IsK σ r κ ∧ Ct Γ.2.1 y cc1 nL1 ret1 fr1 lo1 (va_rf r :: as) σ (.ok v) σ1 k1c k1s) (h12 : κ < 15) (hq : gcl[κ]? = some q) (hM : MI y cc1 nL1 ret1 n) (hl0 : LSU own idx y) (hR : fr1 + 1 ≤ fr ∧ 8 + (nL1 + 11) + lo1 ≤ lo) (hn : as.length = n) (hstk : stk = as.reverse ++ (va_rf r :: st)) (h4 : st.length ≤ 4) (d : decode cc pc = .ok (.invokespecial idx, 3)) (hc : kc + k1c ≤ Kc) (hs : ks + k1s ≤ Ks) (kk : GW Δ Γ (kc + k1c) (ks + k1s) (pc + 3) L (v.toList ++ st) σ1) : GW Δ Γ kc ks pc L stk σ := fun φ H locs ls hp hst hL hl => by
  obtain ⟨⟨a, rfl, hk⟩, hC⟩ := hC
  refine of_run (a0 := ((Value.ref a :: as).map (en φ)).toArray) B hp (by rw [hstk] at hst; exact (SC.app hst).2.t) hL hl ?_ kk
  rw [hstk] at hst
  have hs1 : SC σ (.ref a :: as) := SC.c (SC.h (SC.app hst).2) (SC.rev (SC.app hst).1)
  have hcat := cat_le φ st 4 h4
  have hts := B.2.2.2.2.1
  refine vx_runSU (C := q.1) (nL := nL) (As := as.map (en φ)) (b := φ a) (Ts := ALLw) (B.2.2.2.2.2.1.1 κ q hq).2 ⟨B.1, B.2.1, B.2.2.1, B.2.2.2.1, B.2.2.2.2.1⟩ (hC B.2.2.2.2.2.2.2.2.2.2.2.2.2 Δ.1 Δ.2.1 Δ.2.2.1 Δ.2.2.2.1 φ) ⟨⟨rfl, rfl, by rw [B.2.2.2.2.2.2.2.2.1]; exact hR.1, by rw [B.2.2.2.2.2.2.2.2.2.1]; exact hR.2, fun w hw a' U hW => ?_, List.mem_cons_self⟩, hts _ hl0.1, hts _ hl0.2.1, hts _ hl0.2.2.1, hts _ hl0.2.2.2.1, hts _ hM.2.2.1, hts _ hM.2.1, hl0.2.2.2.2, hM.n⟩ (preV B hp hk h12 hq hs1) rfl (by rw [List.length_map]; exact hn) (by rw [← B.2.2.1]; exact hl.1) (by rw [hstk, List.map_append, List.map_reverse]; rfl) (by show 2 * 0 + _ ≤ 8; omega) d ⟨by rw [B.2.2.2.2.2.2.2.2.2.2.1]; exact hc, by rw [B.2.2.2.2.2.2.2.2.2.2.2.1]; exact hs⟩
  rcases List.mem_cons.mp hw with e | e
  · rw [e]; exact pay hM.2.1 hts a' U hW
  · exact pay e hts a' U hW
/-! constants -/
theorem g_ldcS (B : Bd Δ Γ own cc nL fr lo Kc Ks) {j : Nat} {tx : String} (hj : stT[j]? = some (own, idx, tx)) (d : decode cc pc = .ok (.ldc idx, 2)) (kk : GW Δ Γ kc ks (pc + 2) L (va_rf (some (BIG + j)) :: st) σ) : GW Δ Γ kc ks pc L st σ := fun φ H locs ls hp hst hL hl => by
  have hj2 : j < nSt := (List.getElem?_eq_some_iff.mp hj).1
  have h := B.2.2.2.2.2.2.2.1.1 j hj2 _ hj
  refine va_ldcS B.1 B.2.1 B.2.2.2.1 h d ?_
  have kk := kk φ H locs ls hp (SC.c (v := .ref (BIG + j)) (Or.inr (Nat.le_add_right _ _)) hst) hL hl
  have e : en φ (va_rf (some (BIG + j))) = .ref (Δ.2.2.1 (BIG + j)) := congrArg Value.ref (hp.2.2.2.1 _ (Nat.le_add_right _ _))
  rw [List.map_cons, e] at kk
  exact kk
theorem big_str {φ : Nat → Nat} {H : Heap} {locs : List Loc} {s : State} {a : Nat} (hp : Rp Δ s φ σ H locs) (h : hK σ a = 15) (hb : ¬ a < hN σ) : ∃ j, j < nSt ∧ a = BIG + j := by
  have hn := hp.2.2.2.2.1.1
  have e : ¬ a < σ.1 := hb
  unfold hK cK at h
  rw [if_neg e] at h
  split at h
  · cases h
  · rename_i n1
    split at h
    · rename_i n2
      exact ⟨a - BIG, by omega, by omega⟩
    · repeat' split at h
      all_goals omega
/-- a field as a link names it -/
def Fs (own : String) (idx κ k : Nat) : Prop := ∃ (C : String) (T : u_T) (N : Nat), gcl[κ]? = some (C, T, N) ∧ k < N ∧ N = nF κ ∧ (∀ w ∈ u_ws C T N, w ∈ ALLw) ∧ Cond.fieldLink own idx (T k).1 (T k).2.1 (T k).2.2.1 ∈ ALLw
/-- String.value, String.coder -/
theorem g_getSV (B : Bd Δ Γ own cc nL fr lo Kc Ks) {v9 : Option Nat} (f : Fs own idx 15 0) (hl0 : Cond.fieldLink own idx "java/lang/String" "value" "[B" ∈ ALLw) (d : decode cc pc = .ok (.getfield idx, 3)) (h : gR σ r 15 0 = some v9) (kk : GW Δ Γ kc ks (pc + 3) L (va_rf v9 :: st) σ) : GW Δ Γ kc ks pc L (va_rf r :: st) σ := fun φ H locs ls hp hst hL hl => by
  obtain ⟨a, rfl, hk, rfl⟩ := gR_s h
  by_cases hlt : a < hN σ
  · obtain ⟨C, T, N, f1, f2, f3, f4, f5⟩ := f
    have e := ws_at (aC := Δ.2.1) (φ := φ) hlt
    rw [entC hk (by omega)] at e
    exact va_get B.1 B.2.1 B.2.2.2.2.1 f4 B.2.2.2.1 B.2.2.2.2.2.1 hp.1 a e f1 0 f2 (B.2.2.2.2.1 _ f5) (fun _ q => q) (v := en φ (va_rf (hR σ a 0))) (by rw [fl_at (by rw [← f3]; exact f2), en_rf]; unfold fv; rw [if_neg (by decide), if_neg (by decide)]) d (kk φ H locs ls hp (SC.c (CL_hR hp.2.2.2.2.1 hlt) hst.t) hL hl)
  obtain ⟨j, hj, rfl⟩ := big_str hp hk hlt
  have hn := hp.2.2.2.2.1.1
  have hR : hR σ (BIG + j) 0 = some (BIG + j + 100) := by
    unfold hR cR
    rw [if_neg (fun q => by have : hN σ = σ.1 := rfl; omega)]
  rw [hR] at kk
  have hE := (B.2.2.2.2.2.2.2.1.2.1 j hj).2.1
  have hf := hp.2.2.2.1 (BIG + j) (Nat.le_add_right _ _)
  have kk := kk φ H locs ls hp (SC.c (v := .ref (BIG + j + 100)) (Or.inr (by omega)) hst.t) hL hl
  have e : en φ (va_rf (some (BIG + j + 100))) = .ref (Δ.2.2.1 (BIG + 100 + j)) := congrArg Value.ref (by rw [hp.2.2.2.1 _ (by omega), Nat.add_right_comm])
  rw [List.map_cons, e] at kk
  show W _ _ _ _ _ _ _ _ _ _ _ _ _ _ _ (F0 _ pc ls (.ref (φ (BIG + j)) :: _))
  rw [hf]
  exact vk_getf B.1 B.2.1 hE hp.2.2.1 B.2.2.2.1 (B.2.2.2.2.1 _ hl0) (fun _ q => q) d kk
theorem g_getSC (B : Bd Δ Γ own cc nL fr lo Kc Ks) {v9 : Int32} (f : Fs own idx 15 1) (hl0 : Cond.fieldLink own idx "java/lang/String" "coder" "B" ∈ ALLw) (d : decode cc pc = .ok (.getfield idx, 3)) (h : gI σ r 15 1 = some v9) (kk : GW Δ Γ kc ks (pc + 3) L (.int v9 :: st) σ) : GW Δ Γ kc ks pc L (va_rf r :: st) σ := fun φ H locs ls hp hst hL hl => by
  obtain ⟨a, rfl, hk, rfl⟩ := gI_s h
  by_cases hlt : a < hN σ
  · obtain ⟨C, T, N, f1, f2, f3, f4, f5⟩ := f
    have e := ws_at (aC := Δ.2.1) (φ := φ) hlt
    rw [entC hk (by omega)] at e
    exact va_get B.1 B.2.1 B.2.2.2.2.1 f4 B.2.2.2.1 B.2.2.2.2.2.1 hp.1 a e f1 1 f2 (B.2.2.2.2.1 _ f5) (fun _ q => q) (v := .int (hI σ a 1)) (by rw [fl_at (by rw [← f3]; exact f2)]; unfold fv; rw [if_pos (by decide)]) d (kk φ H locs ls hp (SC.c (v := .int _) True.intro hst.t) hL hl)
  obtain ⟨j, hj, rfl⟩ := big_str hp hk hlt
  have hn := hp.2.2.2.2.1.1
  have hI9 : hI σ (BIG + j) 1 = 0 := by
    unfold hI cI
    have : nSt = 47 := rfl
    rw [if_neg (fun q => by have : hN σ = σ.1 := rfl; omega), if_neg (by omega), if_pos (by omega)]
  rw [hI9] at kk
  have hE := (B.2.2.2.2.2.2.2.1.2.1 j hj).1
  have hf := hp.2.2.2.1 (BIG + j) (Nat.le_add_right _ _)
  have kk := kk φ H locs ls hp (SC.c (v := .int 0) True.intro hst.t) hL hl
  show W _ _ _ _ _ _ _ _ _ _ _ _ _ _ _ (F0 _ pc ls (.ref (φ (BIG + j)) :: _))
  rw [hf]
  exact vk_getf B.1 B.2.1 hE hp.2.2.1 B.2.2.2.1 (B.2.2.2.2.1 _ hl0) (fun _ q => q) d kk
theorem g_gstC (B : Bd Δ Γ own cc nL fr lo Kc Ks) (hl0 : Cond.fieldLink own idx "java/lang/String" "COMPACT_STRINGS" "Z" ∈ ALLw) (d : decode cc pc = .ok (.getstatic idx, 3)) (kk : GW Δ Γ kc ks (pc + 3) L (.int 1 :: st) σ) : GW Δ Γ kc ks pc L st σ := fun φ H locs ls hp hst hL hl =>
  va_gets B.1 B.2.1 B.2.2.2.2.2.2.2.1.2.2.1 hp.2.2.1 B.2.2.2.1 (B.2.2.2.2.1 _ hl0) (fun _ q => q) d (kk φ H locs ls hp (SC.c (v := .int 1) True.intro hst) hL hl)
theorem g_gstO (B : Bd Δ Γ own cc nL fr lo Kc Ks) (hl0 : Cond.fieldLink own idx "java/lang/Integer" "DigitOnes" "[B" ∈ ALLw) (d : decode cc pc = .ok (.getstatic idx, 3)) (kk : GW Δ Γ kc ks (pc + 3) L (va_rf (some (BIG + 200)) :: st) σ) : GW Δ Γ kc ks pc L st σ := fun φ H locs ls hp hst hL hl => by
  have kk := kk φ H locs ls hp (SC.c (v := .ref (BIG + 200)) (Or.inr (Nat.le_add_right _ _)) hst) hL hl
  have e : en φ (va_rf (some (BIG + 200))) = .ref (Δ.2.2.1 (BIG + 200)) := congrArg Value.ref (hp.2.2.2.1 _ (Nat.le_add_right _ _))
  rw [List.map_cons, e] at kk
  exact va_gets B.1 B.2.1 B.2.2.2.2.2.2.2.1.2.2.2.1 hp.2.2.1 B.2.2.2.1 (B.2.2.2.2.1 _ hl0) (fun _ q => q) d kk
theorem g_gstT (B : Bd Δ Γ own cc nL fr lo Kc Ks) (hl0 : Cond.fieldLink own idx "java/lang/Integer" "DigitTens" "[B" ∈ ALLw) (d : decode cc pc = .ok (.getstatic idx, 3)) (kk : GW Δ Γ kc ks (pc + 3) L (va_rf (some (BIG + 201)) :: st) σ) : GW Δ Γ kc ks pc L st σ := fun φ H locs ls hp hst hL hl => by
  have kk := kk φ H locs ls hp (SC.c (v := .ref (BIG + 201)) (Or.inr (Nat.le_add_right _ _)) hst) hL hl
  have e : en φ (va_rf (some (BIG + 201))) = .ref (Δ.2.2.1 (BIG + 201)) := congrArg Value.ref (hp.2.2.2.1 _ (Nat.le_add_right _ _))
  rw [List.map_cons, e] at kk
  exact va_gets B.1 B.2.1 B.2.2.2.2.2.2.2.1.2.2.2.2.1 hp.2.2.1 B.2.2.2.1 (B.2.2.2.2.1 _ hl0) (fun _ q => q) d kk
/-! throws -/
def TW (own : String) (idx ic x : Nat) : Prop := Cond.classLink own idx (exN x) ∈ ALLw ∧ Cond.initialized (exN x) ∈ ALLw ∧ (∀ w ∈ vx_atS own ic (exN x) ["java/lang/RuntimeException", "java/lang/Exception"], w ∈ ALLw ∨ (w ∈ ALLn ∧ w.onTables = true)) ∧ (∀ w ∈ Cond.classLink own idx (exN x) :: Cond.initialized (exN x) :: vx_atS own ic (exN x) ["java/lang/RuntimeException", "java/lang/Exception"], vx_ot w = true) ∧ Bundle.fit (exN x) = true
theorem rp_grown {s t : State} {φ : Nat → Nat} {H : Heap} {locs : List Loc} (hp : Rp Δ s φ σ H locs) (h1 : H.size ≤ t.heap.size) (h2 : ∀ q : Nat, q < H.size → t.heap[q]? = H[q]?) : Pst Δ φ σ t.heap ∧ va_F (AA Δ) s t := by
  refine ⟨⟨hp.2.2.2.2.2.1, hp.2.2.2.2.2.2, hp.1.kept (fun k q hk => h2 q.1 (hp.1 k q hk).lt), hp.2.1, hp.2.2.2.1, hp.2.2.2.2.1⟩, Nat.le_trans hp.2.2.1.1 h1, fun q h3 h4 => ?_⟩
  rw [h2 q (Nat.lt_of_lt_of_le h3 hp.2.2.1.1)]
  exact hp.2.2.1.2.1 q h3 h4
theorem g_throw (B : Bd Δ Γ own cc nL fr lo Kc Ks) {ik is ic j : Nat} {tx : String} (hT : TW own ik ic x) (hj : stT[j]? = some (own, is, tx)) (E : En Δ Γ (.error x) σ Kc Ks ret) (hR : 6 ≤ fr ∧ 90 ≤ lo) (h4 : st.length ≤ 4)
    (d0 : decode cc pc = .ok (.new ik, 3)) (d3 : decode cc (pc + 3) = .ok (.dup, 1)) (d4 : decode cc (pc + 4) = .ok (.ldc is, 2)) (d6 : decode cc (pc + 6) = .ok (.invokespecial ic, 3)) (d9 : decode cc (pc + 9) = .ok (.athrow, 1)) (hc : kc + 1 ≤ Kc) (hs : ks + 6 ≤ Ks) : GW Δ Γ kc ks pc L st σ := fun φ H locs ls hp hst hL hl => by
  have hj2 : j < nSt := (List.getElem?_eq_some_iff.mp hj).1
  have hcat := cat_le φ st 4 h4
  rw [E.1]
  refine vx_throwS (names := ["java/lang/RuntimeException", "java/lang/Exception"]) (A := AA Δ) B.1 B.2.1 B.2.2.2.2.2.2.2.2.2.2.2.2.2 B.2.2.2.1 hT.2.2.2.2 (by decide) (B.2.2.2.2.1 _ hT.1) (B.2.2.2.2.1 _ hT.2.1) (B.2.2.2.2.2.2.2.1.1 j hj2 _ hj) (fun w hw => ?_) hT.2.2.2.1 B.2.2.2.2.2.2.2.1.2.2.2.2.2.2.2.2.1 B.2.2.2.2.2.2.2.1.2.2.2.2.2.2.2.2.2.1 hp.2.2.1 hl.1 d0 d3 d4 d6 d9 (fun x hx => (E.2.2 x hx).elim) (by rw [B.2.2.2.2.2.2.2.2.1]; show 5 < fr; omega) (by rw [B.2.2.2.2.2.2.2.2.2.1]; show _ + (13 * 3 + 43) ≤ lo; omega) (by rw [B.2.2.2.2.2.2.2.2.2.2.1]; exact hc) (by rw [B.2.2.2.2.2.2.2.2.2.2.2.1]; exact hs) B.2.2.2.2.2.2.2.2.2.2.2.2.1 (fun t _ h1 h2 => ?_) hp.2.2.1.2.2 hc hs
  · rcases hT.2.2.1 w hw with e | ⟨e, e2⟩
    · exact B.2.2.2.2.1 w e
    · exact va_Nw.use e2 (B.2.2.2.2.2.2.2.1.2.2.2.2.2.2.2.2.2.2.1 w e)
  · obtain ⟨g1, g2⟩ := rp_grown hp h1 h2
    exact ⟨⟨φ, x, rfl, rfl, g1⟩, g2⟩
theorem g_throwW (B : Bd Δ Γ own cc nL fr lo Kc Ks) {ik is ic j : Nat} {tx : String} (hT : TW own ik ic x) (hj : stT[j]? = some (own, is, tx)) (E : En Δ Γ (.error x) σ Kc Ks ret) (hR : 6 ≤ fr ∧ 90 ≤ lo) (h4 : st.length ≤ 4)
    (d0 : decode cc pc = .ok (.new ik, 3)) (d3 : decode cc (pc + 3) = .ok (.dup, 1)) (d4 : decode cc (pc + 4) = .ok (.ldc_w is, 3)) (d7 : decode cc (pc + 7) = .ok (.invokespecial ic, 3)) (d10 : decode cc (pc + 10) = .ok (.athrow, 1)) (hc : kc + 1 ≤ Kc) (hs : ks + 6 ≤ Ks) : GW Δ Γ kc ks pc L st σ := fun φ H locs ls hp hst hL hl => by
  have hj2 : j < nSt := (List.getElem?_eq_some_iff.mp hj).1
  have hcat := cat_le φ st 4 h4
  rw [E.1]
  refine vx_throwSW (names := ["java/lang/RuntimeException", "java/lang/Exception"]) (A := AA Δ) B.1 B.2.1 B.2.2.2.2.2.2.2.2.2.2.2.2.2 B.2.2.2.1 hT.2.2.2.2 (by decide) (B.2.2.2.2.1 _ hT.1) (B.2.2.2.2.1 _ hT.2.1) (B.2.2.2.2.2.2.2.1.1 j hj2 _ hj) (fun w hw => ?_) hT.2.2.2.1 B.2.2.2.2.2.2.2.1.2.2.2.2.2.2.2.2.1 B.2.2.2.2.2.2.2.1.2.2.2.2.2.2.2.2.2.1 hp.2.2.1 hl.1 d0 d3 d4 d7 d10 (fun x hx => (E.2.2 x hx).elim) (by rw [B.2.2.2.2.2.2.2.2.1]; show 5 < fr; omega) (by rw [B.2.2.2.2.2.2.2.2.2.1]; show _ + (13 * 3 + 43) ≤ lo; omega) (by rw [B.2.2.2.2.2.2.2.2.2.2.1]; exact hc) (by rw [B.2.2.2.2.2.2.2.2.2.2.2.1]; exact hs) B.2.2.2.2.2.2.2.2.2.2.2.2.1 (fun t _ h1 h2 => ?_) hp.2.2.1.2.2 hc hs
  · rcases hT.2.2.1 w hw with e | ⟨e, e2⟩
    · exact B.2.2.2.2.1 w e
    · exact va_Nw.use e2 (B.2.2.2.2.2.2.2.1.2.2.2.2.2.2.2.2.2.2.1 w e)
  · obtain ⟨g1, g2⟩ := rp_grown hp h1 h2
    exact ⟨⟨φ, x, rfl, rfl, g1⟩, g2⟩
/-! System.arraycopy -/
def CPW (own : String) (idx : Nat) : Prop := Cond.methodLink own idx arraycopyName ∈ ALLw ∧ Cond.native arraycopyName ∈ ALLw ∧ Cond.static arraycopyName ∈ ALLw ∧ Cond.initialized "java/lang/System" ∈ ALLw
theorem nlt0 {x : Int32} (h : 0 ≤ x.toInt) : ¬ x < 0 := fun q => by
  have q2 : x.toInt < (0 : Int32).toInt := Int32.lt_iff_toInt_lt.mp q
  have : (0 : Int32).toInt = 0 := rfl
  omega
theorem ent_wIr {aC : Nat → ClassId} {φ : Nat → Nat} {a : Nat} (f : Nat → Int32) (ha : a < hN σ) (j : Nat) (hj : j ≠ a) : ent aC φ (wIr σ a f) j = ent aC φ σ j := ent_same rfl rfl (fun i => by rw [hI_wIr _ _ _ _ _ ha, if_neg hj]) (fun _ => rfl) (fun _ => rfl) (fun _ => rfl)
theorem ent_wJr {aC : Nat → ClassId} {φ : Nat → Nat} {a : Nat} (f : Nat → Int64) (ha : a < hN σ) (j : Nat) (hj : j ≠ a) : ent aC φ (wJr σ a f) j = ent aC φ σ j := ent_same rfl rfl (fun _ => rfl) (fun i => by rw [hJ_wJr _ _ _ _ _ ha, if_neg hj]) (fun _ => rfl) (fun _ => rfl)
theorem g_cpI (B : Bd Δ Γ own cc nL fr lo Kc Ks) {r2 : Option Nat} {sp dp m9 : Int32} {σ' : HpT} (hκ : κ = 20 ∨ κ = 22) (hl0 : CPW own idx) (hR : 1 ≤ fr ∧ 60 ≤ lo) (h4 : st.length ≤ 4) (d : decode cc pc = .ok (.invokestatic idx, 3)) (h : cpI κ σ r sp r2 dp m9 = some σ') (kk : GW Δ Γ kc ks (pc + 3) L st σ') : GW Δ Γ kc ks pc L (.int m9 :: .int dp :: va_rf r2 :: .int sp :: va_rf r :: st) σ := fun φ H locs ls hp hst hL hl => by
  have hcat := cat_le φ st 4 h4
  have hR1 : 1 ≤ Γ.2.2.2.1.frames := by rw [B.2.2.2.2.2.2.2.2.1]; exact hR.1
  have hR2 : ((st.map (en φ)).map fun v => v.category).sum + (nativeFrameWords "java/lang/System" "arraycopy" 5 + 11) ≤ Γ.2.2.2.1.locals := by
    rw [B.2.2.2.2.2.2.2.2.2.1]
    have : nativeFrameWords "java/lang/System" "arraycopy" 5 + 11 ≤ 50 := by decide +kernel
    omega
  cases r with
  | none => cases h
  | some a =>
    cases r2 with
    | none => cases h
    | some b =>
      unfold cpI at h
      dsimp only at h
      split at h
      · rename_i hh
        obtain ⟨k1, k2, ha, hb, h1, h2, h3, h5, h6⟩ := hh
        have h := Option.some.inj h
        subst h
        have e1 := ws_at (aC := Δ.2.1) (φ := φ) ha
        have e2 := ws_at (aC := Δ.2.1) (φ := φ) hb
        have hts := B.2.2.2.2.1
        rcases hκ with rfl | rfl
        · rw [entA k1 (by decide)] at e1
          rw [entA k2 (by decide)] at e2
          refine va_copyi (ty := .int) B.1 B.2.1 hl.1.symm B.2.2.2.1 (hts _ hl0.1) (hts _ hl0.2.1) (hts _ hl0.2.2.1) (hts _ hl0.2.2.2) B.2.2.2.2.2.1 hp.1 hp.2.1 hp.2.2.1 a b 0 0 e1 e2 rfl rfl rfl (nlt0 h1) (nlt0 h2) (nlt0 h3) h5 h6 (fun _ _ => rfl) hR1 hR2 d (fun H1 locs1 hP hD hS => ?_)
          refine kk φ H1 locs1 ls (Rp_set hp rfl rfl (fun j _ => ent_wIr _ hb j) ?_ ?_ hP hD hS) (CL_n rfl hst.t.t.t.t.t) (LC_n rfl hL) hl
          · rw [entA (σ := wIr σ b _) (κ := 20) k2 (by decide)]
            show Sum.inl (Δ.2.1 0, hZ σ b, Sum.inl (hI (wIr σ b _) b)) = _
            rw [show hI (wIr σ b (va_cpy (hI σ a) (hI σ b) sp.toNatClampNeg dp.toNatClampNeg m9.toNatClampNeg)) b = va_cpy (hI σ a) (hI σ b) sp.toNatClampNeg dp.toNatClampNeg m9.toNatClampNeg from funext fun j => by rw [hI_wIr _ _ _ _ _ hb, if_pos rfl]]
          · refine ⟨hp.2.2.2.2.1.1, fun i k j hi hx => hp.2.2.2.2.1.2.1 i k j hi hx, fun i k hx => ?_⟩
            have hx2 : hK σ i = 22 := hx
            rw [hI_wIr _ _ _ _ _ hb, if_neg (fun q => by rw [q, k2] at hx2; cases hx2)]
            exact hp.2.2.2.2.1.2.2 i k hx2
        · rw [entA k1 (by decide)] at e1
          rw [entA k2 (by decide)] at e2
          refine va_copyi (ty := .byte) B.1 B.2.1 hl.1.symm B.2.2.2.1 (hts _ hl0.1) (hts _ hl0.2.1) (hts _ hl0.2.2.1) (hts _ hl0.2.2.2) B.2.2.2.2.2.1 hp.1 hp.2.1 hp.2.2.1 a b 2 2 e1 e2 rfl rfl rfl (nlt0 h1) (nlt0 h2) (nlt0 h3) h5 h6 (fun i _ => fit_byte (hp.2.2.2.2.1.2.2 a _ k1)) hR1 hR2 d (fun H1 locs1 hP hD hS => ?_)
          refine kk φ H1 locs1 ls (Rp_set hp rfl rfl (fun j _ => ent_wIr _ hb j) ?_ ?_ hP hD hS) (CL_n rfl hst.t.t.t.t.t) (LC_n rfl hL) hl
          · rw [entA (σ := wIr σ b _) (κ := 22) k2 (by decide)]
            show Sum.inl (Δ.2.1 2, hZ σ b, Sum.inl (hI (wIr σ b _) b)) = _
            rw [show hI (wIr σ b (va_cpy (hI σ a) (hI σ b) sp.toNatClampNeg dp.toNatClampNeg m9.toNatClampNeg)) b = va_cpy (hI σ a) (hI σ b) sp.toNatClampNeg dp.toNatClampNeg m9.toNatClampNeg from funext fun j => by rw [hI_wIr _ _ _ _ _ hb, if_pos rfl]]
          · refine ⟨hp.2.2.2.2.1.1, fun i k j hi hx => hp.2.2.2.2.1.2.1 i k j hi hx, fun i k hx => ?_⟩
            have hx2 : hK σ i = 22 := hx
            rw [hI_wIr _ _ _ _ _ hb]
            split
            · unfold va_cpy
              split
              · exact hp.2.2.2.2.1.2.2 a _ k1
              · exact hp.2.2.2.2.1.2.2 b _ k2
            · exact hp.2.2.2.2.1.2.2 i k hx2
      · cases h
theorem g_cpJ (B : Bd Δ Γ own cc nL fr lo Kc Ks) {r2 : Option Nat} {sp dp m9 : Int32} {σ' : HpT} (hl0 : CPW own idx) (hR : 1 ≤ fr ∧ 60 ≤ lo) (h4 : st.length ≤ 4) (d : decode cc pc = .ok (.invokestatic idx, 3)) (h : cpJ σ r sp r2 dp m9 = some σ') (kk : GW Δ Γ kc ks (pc + 3) L st σ') : GW Δ Γ kc ks pc L (.int m9 :: .int dp :: va_rf r2 :: .int sp :: va_rf r :: st) σ := fun φ H locs ls hp hst hL hl => by
  have hcat := cat_le φ st 4 h4
  have hR1 : 1 ≤ Γ.2.2.2.1.frames := by rw [B.2.2.2.2.2.2.2.2.1]; exact hR.1
  have hR2 : ((st.map (en φ)).map fun v => v.category).sum + (nativeFrameWords "java/lang/System" "arraycopy" 5 + 11) ≤ Γ.2.2.2.1.locals := by
    rw [B.2.2.2.2.2.2.2.2.2.1]
    have : nativeFrameWords "java/lang/System" "arraycopy" 5 + 11 ≤ 50 := by decide +kernel
    omega
  cases r with
  | none => cases h
  | some a =>
    cases r2 with
    | none => cases h
    | some b =>
      unfold cpJ at h
      dsimp only at h
      split at h
      · rename_i hh
        obtain ⟨k1, k2, ha, hb, h1, h2, h3, h5, h6⟩ := hh
        have h := Option.some.inj h
        subst h
        have e1 := ws_at (aC := Δ.2.1) (φ := φ) ha
        have e2 := ws_at (aC := Δ.2.1) (φ := φ) hb
        have hts := B.2.2.2.2.1
        rw [entA k1 (by decide)] at e1
        rw [entA k2 (by decide)] at e2
        refine va_copyl (ty := .long) B.1 B.2.1 hl.1.symm B.2.2.2.1 (hts _ hl0.1) (hts _ hl0.2.1) (hts _ hl0.2.2.1) (hts _ hl0.2.2.2) B.2.2.2.2.2.1 hp.1 hp.2.1 hp.2.2.1 a b 1 1 e1 e2 rfl rfl rfl (nlt0 h1) (nlt0 h2) (nlt0 h3) h5 h6 (fun _ _ => rfl) hR1 hR2 d (fun H1 locs1 hP hD hS => ?_)
        refine kk φ H1 locs1 ls (Rp_set hp rfl rfl (fun j _ => ent_wJr _ hb j) ?_ ?_ hP hD hS) (CL_n rfl hst.t.t.t.t.t) (LC_n rfl hL) hl
        · rw [entA (σ := wJr σ b _) (κ := 21) k2 (by decide)]
          show Sum.inl (Δ.2.1 1, hZ σ b, Sum.inr (Sum.inl (hJ (wJr σ b _) b))) = _
          rw [show hJ (wJr σ b (va_cpy (hJ σ a) (hJ σ b) sp.toNatClampNeg dp.toNatClampNeg m9.toNatClampNeg)) b = va_cpy (hJ σ a) (hJ σ b) sp.toNatClampNeg dp.toNatClampNeg m9.toNatClampNeg from funext fun j => by rw [hJ_wJr _ _ _ _ _ hb, if_pos rfl]]
        · exact ⟨hp.2.2.2.2.1.1, fun i k j hi hx => hp.2.2.2.2.1.2.1 i k j hi hx, fun i k hx => hp.2.2.2.2.1.2.2 i k hx⟩
      · cases h
end GP
