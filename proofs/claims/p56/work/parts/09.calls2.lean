/-! CALLS -/
def isK (σ : HpT) (r : Option Nat) (κ : Nat) : Option Unit := match r with
  | none => none
  | some a => if hK σ a = κ then some () else none
def IsK (σ : HpT) (r : Option Nat) (κ : Nat) : Prop := ∃ a, r = some a ∧ hK σ a = κ
theorem isK_s {σ : HpT} {r : Option Nat} {κ : Nat} {u : Unit} (h : isK σ r κ = some u) : IsK σ r κ := by
  cases r with
  | none => cases h
  | some a =>
    unfold isK at h
    dsimp only at h
    split at h
    · rename_i h1
      exact ⟨a, rfl, h1⟩
    · cases h
def LV (own : String) (idx : Nat) (y : MethodName) : Prop := Cond.methodLink own idx y ∈ ALLw ∧ Cond.instanceMethod y ∈ ALLw ∧ Cond.selects y.cls y y ∈ ALLw
def LSt (own : String) (idx : Nat) (y : MethodName) : Prop := Cond.methodLink own idx y ∈ ALLw ∧ Cond.static y ∈ ALLw
def LI (own : String) (idx : Nat) (y : MethodName) : Prop := Cond.methodLink own idx y ∈ ALLw ∧ Cond.instanceMethod y ∈ ALLw ∧ y.name = "<init>"
def LNI (own host : String) (idx : Nat) (y : MethodName) : Prop := Cond.methodLinkNest own idx y host ∈ ALLn ∧ Cond.instanceMethod y ∈ ALLw ∧ y.name = "<init>"
def LNS (own host : String) (idx : Nat) (y : MethodName) : Prop := Cond.methodLinkNest own idx y host ∈ ALLn ∧ Cond.static y ∈ ALLw
section GC
variable {Δ : AmbT} {Γ : CtxT} {own : String} {cc : ByteArray} {nL fr lo Kc Ks kc ks pc : Nat} {L : List (Nat × Value)} {st : List Value} {σ : HpT}
theorem cat_le (φ : Nat → Nat) : ∀ (st : List Value) (n : Nat), st.length ≤ n → ((st.map (en φ)).map fun v => v.category).sum ≤ 2 * n := by
  intro st
  induction st with
  | nil => intro n _; simp
  | cons v st ih =>
    intro n h
    cases n with
    | zero => simp at h
    | succ n =>
      have h1 := ih n (by simp at h; omega)
      have h2 : v.category ≤ 2 := by rcases lv_cat v with e | e <;> omega
      simp only [List.map_cons, List.sum_cons, en_cat]
      omega
theorem SC.tol {σ : HpT} {v : Option Value} (h : ∀ w, v = some w → CL σ w) (k : SC σ st) : SC σ (v.toList ++ st) := by
  intro w hw
  rcases List.mem_append.mp hw with e | e
  · cases v with
    | none => cases e
    | some x =>
      have e2 : w = x := by simpa using e
      rw [e2]
      exact h x rfl
  · exact k w e
/-- behind a call that returned -/
theorem of_run (B : Bd Δ Γ own cc nL fr lo Kc Ks) {st0 : List Value} {v : Option Value} {σ1 : HpT} {k1c k1s : Nat} {φ : Nat → Nat} {H : Heap} {locs : List Loc} {ls : Array Slot} {a0 : Array Value} (hp : Rp Δ Γ.2.2.2.2.1 φ σ H locs) (hst : SC σ st) (hL : ∀ q ∈ L, CL σ q.2) (hl : lv_has ls Γ.2.2.2.2.2.2.2.2.2.1.maxLocals (enL φ L))
    (hr : vx_Run Γ.1 Γ.2.1 Γ.2.2.1 Γ.2.2.2.1 Γ.2.2.2.2.1 Γ.2.2.2.2.2.1 Γ.2.2.2.2.2.2.1 Γ.2.2.2.2.2.2.2.1 Γ.2.2.2.2.2.2.2.2.1 Γ.2.2.2.2.2.2.2.2.2.1 H locs kc ks k1c k1s (F0 Γ.2.2.2.2.2.1 pc ls st0) (st.map (en φ)) (Qr (Δ.1, Δ.2.1, Δ.2.2.1, Δ.2.2.2.1, φ, σ) (.ok v) σ1 a0) (Qx (Δ.1, Δ.2.1, Δ.2.2.1, Δ.2.2.2.1, φ, σ) (.ok v) σ1) (AA Δ))
    (kk : GW Δ Γ (kc + k1c) (ks + k1s) (pc + 3) L (v.toList ++ st) σ1) : W Γ.1 Γ.2.1 Γ.2.2.1 Γ.2.2.2.1 Γ.2.2.2.2.1 Γ.2.2.2.2.2.1 Γ.2.2.2.2.2.2.1 Γ.2.2.2.2.2.2.2.1 Γ.2.2.2.2.2.2.2.2.1 Γ.2.2.2.2.2.2.2.2.2.1 H locs kc ks Γ.2.2.2.2.2.2.2.2.2.2 (F0 Γ.2.2.2.2.2.1 pc ls st0) := by
  intro T hT X
  rcases hr T hT X with ⟨v1, st₀, t, T', L9, h0, X', hL9, e1, e2, ⟨⟨φ', v2, hv, hov, hPs, hcl⟩, hF⟩, stp⟩ | ⟨q, st₀, t, T', L9, E, ce, h0, X', hL9, e1, e2, ⟨⟨φ', n, hv, -⟩, -⟩, -⟩
  · cases hv
    cases hov
    have hB := hp.behind hPs h0 e1 B.2.2.2.2.2.2.1 hL9 hF
    have hm : ∀ j, CLn σ j → φ' j = φ j := hPs.1
    have hn : hN σ ≤ hN σ1 := hPs.2.1.1
    have hst1 : SC σ1 st := fun w hw => (hst w hw).mono hn
    obtain ⟨t2, a1, b1⟩ := kk φ' T'.heap (locs ++ L9) ls hB (SC.tol hcl hst1) (fun q hq => (hL q hq).mono hn) (by rw [← enL_map hm L hL]; exact hl) T' rfl X'
    refine ⟨t2, stp t2 ?_, b1⟩
    have e : (v.toList ++ st).map (en φ') = (v.map (en φ')).toList ++ st.map (en φ) := by
      rw [List.map_append, ← en_map hm st hst]
      cases v <;> rfl
    rw [e] at a1
    exact a1
  · cases hv
/-- behind a call that threw, where nobody catches -/
theorem of_runX (B : Bd Δ Γ own cc nL fr lo Kc Ks) {st0 : List Value} {n : Nat} {σ1 : HpT} {k1c k1s : Nat} {ret : Option FieldType} {φ : Nat → Nat} {H : Heap} {locs : List Loc} {ls : Array Slot} {a0 : Array Value} (hp : Rp Δ Γ.2.2.2.2.1 φ σ H locs)
    (hr : vx_Run Γ.1 Γ.2.1 Γ.2.2.1 Γ.2.2.2.1 Γ.2.2.2.2.1 Γ.2.2.2.2.2.1 Γ.2.2.2.2.2.2.1 Γ.2.2.2.2.2.2.2.1 Γ.2.2.2.2.2.2.2.2.1 Γ.2.2.2.2.2.2.2.2.2.1 H locs kc ks k1c k1s (F0 Γ.2.2.2.2.2.1 pc ls st0) (st.map (en φ)) (Qr (Δ.1, Δ.2.1, Δ.2.2.1, Δ.2.2.2.1, φ, σ) (.error n) σ1 a0) (Qx (Δ.1, Δ.2.1, Δ.2.2.1, Δ.2.2.2.1, φ, σ) (.error n) σ1) (AA Δ))
    (E : En Δ Γ (.error n) σ1 Kc Ks ret) (hc : kc + k1c ≤ Kc) (hs : ks + k1s ≤ Ks) : W Γ.1 Γ.2.1 Γ.2.2.1 Γ.2.2.2.1 Γ.2.2.2.2.1 Γ.2.2.2.2.2.1 Γ.2.2.2.2.2.2.1 Γ.2.2.2.2.2.2.2.1 Γ.2.2.2.2.2.2.2.2.1 Γ.2.2.2.2.2.2.2.2.2.1 H locs kc ks Γ.2.2.2.2.2.2.2.2.2.2 (F0 Γ.2.2.2.2.2.1 pc ls st0) := by
  intro T hT X
  rcases hr T hT X with ⟨v1, st₀, t, T', L9, h0, X', hL9, e1, e2, ⟨⟨φ', v2, hv, -⟩, -⟩, -⟩ | ⟨q, st₀, t, T', L9, E9, ce, h0, X', hL9, e1, e2, ⟨⟨φ', n2, hv, hE9, hPs⟩, hF⟩, hce, hcv, hcl, stp⟩
  · cases hv
  · cases hv
    have hB := hp.behind hPs h0 e1 B.2.2.2.2.2.2.1 hL9 hF
    have hW := X'.warmed.alike
    rw [e2] at hW
    have k : vx_W Γ.1 Γ.2.1 Γ.2.2.1 Γ.2.2.2.1 Γ.2.2.2.2.1 Γ.2.2.2.2.2.1 Γ.2.2.2.2.2.2.1 Γ.2.2.2.2.2.2.2.1 Γ.2.2.2.2.2.2.2.2.1 Γ.2.2.2.2.2.2.2.2.2.1 T'.heap (locs ++ L9) (kc + k1c) (ks + k1s) (vx_MQ Γ.2.2.2.2.2.2.2.1 (Qr Δ (.error n) σ1) (Qx Δ (.error n) σ1) Γ.2.2.2.2.2.2.1 Γ.2.2.2.2.1 Kc Ks (AA Δ)) (F0 Γ.2.2.2.2.2.1 pc ls (st.map (en φ))) q :=
      vx_out (E := E9) (ce := ce) (fun x hx => (E.2.2 x hx).elim) B.2.2.2.2.2.2.2.2.2.2.2.2.1 (by rw [e1]; exact hce) hcv hcl (fun t9 ht9 _ => ⟨⟨φ', n, rfl, hE9, by rw [ht9]; exact hB.pst⟩, hB.va_F ht9⟩) hB.2.2.1.2.2 hc hs
    obtain ⟨t2, a1, b1⟩ := k T' rfl X'
    rw [E.1]
    exact ⟨t2, stp.trans a1, b1⟩
section CR
variable {y : MethodName} {cc1 : ByteArray} {nL1 : Nat} {ret1 : Option FieldType} {n fr1 lo1 idx : Nat} {as : List Value} {o : Except Nat (Option Value)} {σ1 : HpT} {k1c k1s : Nat} {φ : Nat → Nat} {H : Heap} {locs : List Loc} {ls : Array Slot}
theorem callB (B : Bd Δ Γ own cc nL fr lo Kc Ks) (hM : MI y cc1 nL1 ret1 n) (hlink : Cond.methodLink own idx y ∈ ALLw) (hR : fr1 + 1 ≤ fr ∧ 8 + (nL1 + 11) + lo1 ≤ lo) : CallB Γ.2.2.2.1 Γ.2.2.2.2.1 Γ.2.2.2.2.2.2.1 own idx y cc1 nL1 ret1 (Cond.code y cc1 nL1 ret1 :: ALLw) ({ frames := fr1, locals := lo1, cells := k1c, slots := k1s } : Room) k1c k1s n := by
  have hts := B.2.2.2.2.1
  refine ⟨rfl, rfl, by rw [B.2.2.2.2.2.2.2.2.1]; exact hR.1, by rw [B.2.2.2.2.2.2.2.2.2.1]; exact hR.2, fun w hw a' U hW => ?_, List.mem_cons_self, hts _ hM.2.1, hts _ hM.2.2.1, hM.2.2.2.1, hM.n, hts _ hlink⟩
  rcases List.mem_cons.mp hw with e | e
  · rw [e]; exact pay hM.2.1 hts a' U hW
  · exact pay e hts a' U hW
theorem callCN {host : String} (B : Bd Δ Γ own cc nL fr lo Kc Ks) (hM : MI y cc1 nL1 ret1 n) (hlink : Cond.methodLinkNest own idx y host ∈ ALLn) (hR : fr1 + 1 ≤ fr ∧ 8 + (nL1 + 11) + lo1 ≤ lo) : va_CN Γ.2.2.2.1 Γ.2.2.2.2.1 Γ.2.2.2.2.2.2.1 own idx y host cc1 nL1 ret1 (Cond.code y cc1 nL1 ret1 :: ALLw) ({ frames := fr1, locals := lo1, cells := k1c, slots := k1s } : Room) k1c k1s n := by
  have hts := B.2.2.2.2.1
  refine ⟨⟨rfl, rfl, by rw [B.2.2.2.2.2.2.2.2.1]; exact hR.1, by rw [B.2.2.2.2.2.2.2.2.2.1]; exact hR.2, fun w hw a' U hW => ?_, List.mem_cons_self⟩, hts _ hM.2.1, hts _ hM.2.2.1, hM.2.2.2.1, hM.n, va_Nw.use rfl (B.2.2.2.2.2.2.2.1.2.2.2.2.2.2.2.2.2.2.1 _ hlink)⟩
  rcases List.mem_cons.mp hw with e | e
  · rw [e]; exact pay hM.2.1 hts a' U hW
  · exact pay e hts a' U hW
theorem preV (B : Bd Δ Γ own cc nL fr lo Kc Ks) {a κ : Nat} {q : vw_C} (hp : Rp Δ Γ.2.2.2.2.1 φ σ H locs) (hk : hK σ a = κ) (h12 : κ < 15) (hq : gcl[κ]? = some q) (hs : SC σ (.ref a :: as)) : PreV Γ.2.2.2.2.1 H q.1 (φ a) (va_Pc ((Value.ref a :: as).map (en φ)) (Pre (Δ.1, Δ.2.1, Δ.2.2.1, Δ.2.2.2.1, φ, σ) (.ref a :: as))) (as.map (en φ)) := by
  have ha := at_lt hp hk h12
  have e := ws_at (aC := Δ.2.1) (φ := φ) ha
  rw [entC hk (by omega)] at e
  exact ⟨blind, va_recv B.2.2.2.2.2.1 hp.1 hq e, fun U hU hW => ⟨rfl, pre_of hp B.2.2.2.2.2.1 B.2.2.2.2.2.2.1 B.2.2.2.2.2.2.2.1 hs hU hW⟩⟩
theorem preS (B : Bd Δ Γ own cc nL fr lo Kc Ks) (hp : Rp Δ Γ.2.2.2.2.1 φ σ H locs) (hs : SC σ as) : PreS Γ.2.2.2.2.1 H (va_Pc (as.map (en φ)) (Pre (Δ.1, Δ.2.1, Δ.2.2.1, Δ.2.2.2.1, φ, σ) as)) (as.map (en φ)) :=
  ⟨blind, fun U hU hW => ⟨rfl, pre_of hp B.2.2.2.2.2.1 B.2.2.2.2.2.2.1 B.2.2.2.2.2.2.2.1 hs hU hW⟩⟩
theorem SC.app {σ : HpT} {s1 s2 : List Value} (h : SC σ (s1 ++ s2)) : SC σ s1 ∧ SC σ s2 := ⟨fun v hv => h v (List.mem_append_left _ hv), fun v hv => h v (List.mem_append_right _ hv)⟩
theorem SC.rev {σ : HpT} {s1 : List Value} (h : SC σ s1.reverse) : SC σ s1 := fun v hv => h v (List.mem_reverse.mpr hv)
theorem runV (B : Bd Δ Γ own cc nL fr lo Kc Ks) {κ : Nat} {r : Option Nat} {q : vw_C} (hk : IsK σ r κ) (h12 : κ < 15) (hq : gcl[κ]? = some q) (hy : q.1 = y.cls) (hC : Ct Γ.2.1 y cc1 nL1 ret1 fr1 lo1 (va_rf r :: as) σ o σ1 k1c k1s) (hM : MI y cc1 nL1 ret1 n) (hl0 : LV own idx y) (hR : fr1 + 1 ≤ fr ∧ 8 + (nL1 + 11) + lo1 ≤ lo) (hn : as.length = n) {stk : List Value} (hstk : stk = as.reverse ++ (va_rf r :: st)) (h4 : st.length ≤ 4) (d : decode cc pc = .ok (.invokevirtual idx, 3)) (hc : kc + k1c ≤ Kc) (hs : ks + k1s ≤ Ks)
    (hp : Rp Δ Γ.2.2.2.2.1 φ σ H locs) (hst : SC σ stk) (hl : lv_has ls Γ.2.2.2.2.2.2.2.2.2.1.maxLocals (enL φ L)) :
    vx_Run Γ.1 Γ.2.1 Γ.2.2.1 Γ.2.2.2.1 Γ.2.2.2.2.1 Γ.2.2.2.2.2.1 Γ.2.2.2.2.2.2.1 Γ.2.2.2.2.2.2.2.1 Γ.2.2.2.2.2.2.2.2.1 Γ.2.2.2.2.2.2.2.2.2.1 H locs kc ks k1c k1s (F0 Γ.2.2.2.2.2.1 pc ls (stk.map (en φ))) (st.map (en φ)) (Qr (Δ.1, Δ.2.1, Δ.2.2.1, Δ.2.2.2.1, φ, σ) o σ1 ((va_rf r :: as).map (en φ)).toArray) (Qx (Δ.1, Δ.2.1, Δ.2.2.1, Δ.2.2.2.1, φ, σ) o σ1) (AA Δ) := by
  obtain ⟨a, rfl, hk⟩ := hk
  rw [hstk] at hst
  have hs1 : SC σ (.ref a :: as) := SC.c (SC.h (SC.app hst).2) (SC.rev (SC.app hst).1)
  have hcat := cat_le φ st 4 h4
  exact vx_runV (C := q.1) (nL := nL) (As := as.map (en φ)) (b := φ a) (Ts := ALLw) ⟨B.1, B.2.1, B.2.2.1, B.2.2.2.1, B.2.2.2.2.1⟩ (hC B.2.2.2.2.2.2.2.2.2.2.2.2.2 Δ.1 Δ.2.1 Δ.2.2.1 Δ.2.2.2.1 φ) ⟨callB B hM hl0.1 hR, B.2.2.2.2.1 _ hl0.2.1, by rw [hy]; exact B.2.2.2.2.1 _ hl0.2.2⟩ (preV B hp hk h12 hq hs1) rfl (by rw [List.length_map]; exact hn) (by rw [← B.2.2.1]; exact hl.1) (by rw [hstk, List.map_append, List.map_reverse]; rfl) (by show 2 * 0 + _ ≤ 8; omega) d ⟨by rw [B.2.2.2.2.2.2.2.2.2.2.1]; exact hc, by rw [B.2.2.2.2.2.2.2.2.2.2.2.1]; exact hs⟩
theorem runS (B : Bd Δ Γ own cc nL fr lo Kc Ks) (hC : Ct Γ.2.1 y cc1 nL1 ret1 fr1 lo1 as σ o σ1 k1c k1s) (hM : MI y cc1 nL1 ret1 n) (hl0 : LSt own idx y) (hR : fr1 + 1 ≤ fr ∧ 8 + (nL1 + 11) + lo1 ≤ lo) (hn : as.length = n) {stk : List Value} (hstk : stk = as.reverse ++ st) (h4 : st.length ≤ 4) (d : decode cc pc = .ok (.invokestatic idx, 3)) (hc : kc + k1c ≤ Kc) (hs : ks + k1s ≤ Ks)
    (hp : Rp Δ Γ.2.2.2.2.1 φ σ H locs) (hst : SC σ stk) (hl : lv_has ls Γ.2.2.2.2.2.2.2.2.2.1.maxLocals (enL φ L)) :
    vx_Run Γ.1 Γ.2.1 Γ.2.2.1 Γ.2.2.2.1 Γ.2.2.2.2.1 Γ.2.2.2.2.2.1 Γ.2.2.2.2.2.2.1 Γ.2.2.2.2.2.2.2.1 Γ.2.2.2.2.2.2.2.2.1 Γ.2.2.2.2.2.2.2.2.2.1 H locs kc ks k1c k1s (F0 Γ.2.2.2.2.2.1 pc ls (stk.map (en φ))) (st.map (en φ)) (Qr (Δ.1, Δ.2.1, Δ.2.2.1, Δ.2.2.2.1, φ, σ) o σ1 (as.map (en φ)).toArray) (Qx (Δ.1, Δ.2.1, Δ.2.2.1, Δ.2.2.2.1, φ, σ) o σ1) (AA Δ) := by
  rw [hstk] at hst
  have hcat := cat_le φ st 4 h4
  exact vx_runS (nL := nL) (As := as.map (en φ)) (Ts := ALLw) ⟨B.1, B.2.1, B.2.2.1, B.2.2.2.1, B.2.2.2.2.1⟩ (hC B.2.2.2.2.2.2.2.2.2.2.2.2.2 Δ.1 Δ.2.1 Δ.2.2.1 Δ.2.2.2.1 φ) ⟨callB B hM hl0.1 hR, B.2.2.2.2.1 _ hl0.2⟩ (preS B hp (SC.rev (SC.app hst).1)) rfl (by rw [List.length_map]; exact hn) (by rw [← B.2.2.1]; exact hl.1) (by rw [hstk, List.map_append, List.map_reverse]) (by show 2 * 0 + _ ≤ 8; omega) d ⟨by rw [B.2.2.2.2.2.2.2.2.2.2.1]; exact hc, by rw [B.2.2.2.2.2.2.2.2.2.2.2.1]; exact hs⟩
theorem runNS {host : String} (B : Bd Δ Γ own cc nL fr lo Kc Ks) (hC : Ct Γ.2.1 y cc1 nL1 ret1 fr1 lo1 as σ o σ1 k1c k1s) (hM : MI y cc1 nL1 ret1 n) (hl0 : LNS own host idx y) (hR : fr1 + 1 ≤ fr ∧ 8 + (nL1 + 11) + lo1 ≤ lo) (hn : as.length = n) {stk : List Value} (hstk : stk = as.reverse ++ st) (h4 : st.length ≤ 4) (d : decode cc pc = .ok (.invokestatic idx, 3)) (hc : kc + k1c ≤ Kc) (hs : ks + k1s ≤ Ks)
    (hp : Rp Δ Γ.2.2.2.2.1 φ σ H locs) (hst : SC σ stk) (hl : lv_has ls Γ.2.2.2.2.2.2.2.2.2.1.maxLocals (enL φ L)) :
    vx_Run Γ.1 Γ.2.1 Γ.2.2.1 Γ.2.2.2.1 Γ.2.2.2.2.1 Γ.2.2.2.2.2.1 Γ.2.2.2.2.2.2.1 Γ.2.2.2.2.2.2.2.1 Γ.2.2.2.2.2.2.2.2.1 Γ.2.2.2.2.2.2.2.2.2.1 H locs kc ks k1c k1s (F0 Γ.2.2.2.2.2.1 pc ls (stk.map (en φ))) (st.map (en φ)) (Qr (Δ.1, Δ.2.1, Δ.2.2.1, Δ.2.2.2.1, φ, σ) o σ1 (as.map (en φ)).toArray) (Qx (Δ.1, Δ.2.1, Δ.2.2.1, Δ.2.2.2.1, φ, σ) o σ1) (AA Δ) := by
  rw [hstk] at hst
  have hcat := cat_le φ st 4 h4
  exact vx_runSN (nL := nL) (As := as.map (en φ)) (Ts := ALLw) ⟨B.1, B.2.1, B.2.2.1, B.2.2.2.1, B.2.2.2.2.1⟩ (hC B.2.2.2.2.2.2.2.2.2.2.2.2.2 Δ.1 Δ.2.1 Δ.2.2.1 Δ.2.2.2.1 φ) ⟨callCN B hM hl0.1 hR, B.2.2.2.2.1 _ hl0.2, trivial⟩ (preS B hp (SC.rev (SC.app hst).1)) rfl (by rw [List.length_map]; exact hn) (by rw [← B.2.2.1]; exact hl.1) (by rw [hstk, List.map_append, List.map_reverse]) (by show 2 * 0 + _ ≤ 8; omega) d ⟨by rw [B.2.2.2.2.2.2.2.2.2.2.1]; exact hc, by rw [B.2.2.2.2.2.2.2.2.2.2.2.1]; exact hs⟩
theorem runI (B : Bd Δ Γ own cc nL fr lo Kc Ks) {a : Nat} (hC : Ct Γ.2.1 y cc1 nL1 none fr1 lo1 (.ref a :: as) σ o σ1 k1c k1s) (hM : MI y cc1 nL1 none n) (hl0 : LI own idx y) (hR : fr1 + 1 ≤ fr ∧ 8 + (nL1 + 11) + lo1 ≤ lo) (hn : as.length = n) {stk : List Value} (hstk : stk = as.reverse ++ (.ref a :: st)) (h4 : st.length ≤ 4) (d : decode cc pc = .ok (.invokespecial idx, 3)) (hc : kc + k1c ≤ Kc) (hs : ks + k1s ≤ Ks)
    (hp : Rp Δ Γ.2.2.2.2.1 φ σ H locs) (hst : SC σ stk) (hl : lv_has ls Γ.2.2.2.2.2.2.2.2.2.1.maxLocals (enL φ L)) :
    vx_Run Γ.1 Γ.2.1 Γ.2.2.1 Γ.2.2.2.1 Γ.2.2.2.2.1 Γ.2.2.2.2.2.1 Γ.2.2.2.2.2.2.1 Γ.2.2.2.2.2.2.2.1 Γ.2.2.2.2.2.2.2.2.1 Γ.2.2.2.2.2.2.2.2.2.1 H locs kc ks k1c k1s (F0 Γ.2.2.2.2.2.1 pc ls (stk.map (en φ))) (st.map (en φ)) (Qr (Δ.1, Δ.2.1, Δ.2.2.1, Δ.2.2.2.1, φ, σ) o σ1 ((.ref a :: as).map (en φ)).toArray) (Qx (Δ.1, Δ.2.1, Δ.2.2.1, Δ.2.2.2.1, φ, σ) o σ1) (AA Δ) := by
  rw [hstk] at hst
  have hs1 : SC σ (.ref a :: as) := SC.c (SC.h (SC.app hst).2) (SC.rev (SC.app hst).1)
  have hcat := cat_le φ st 4 h4
  exact vx_runI (nL := nL) (As := as.map (en φ)) (b := φ a) (Ts := ALLw) ⟨B.1, B.2.1, B.2.2.1, B.2.2.2.1, B.2.2.2.2.1⟩ (hC B.2.2.2.2.2.2.2.2.2.2.2.2.2 Δ.1 Δ.2.1 Δ.2.2.1 Δ.2.2.2.1 φ) ⟨callB B hM hl0.1 hR, hl0.2.2, B.2.2.2.2.1 _ hl0.2.1⟩ (preS B hp hs1) rfl (by rw [List.length_map]; exact hn) (by rw [← B.2.2.1]; exact hl.1) (by rw [hstk, List.map_append, List.map_reverse]; rfl) (by show 2 * 0 + _ ≤ 8; omega) d ⟨by rw [B.2.2.2.2.2.2.2.2.2.2.1]; exact hc, by rw [B.2.2.2.2.2.2.2.2.2.2.2.1]; exact hs⟩
theorem runNI {host : String} (B : Bd Δ Γ own cc nL fr lo Kc Ks) {a : Nat} (hC : Ct Γ.2.1 y cc1 nL1 none fr1 lo1 (.ref a :: as) σ o σ1 k1c k1s) (hM : MI y cc1 nL1 none n) (hl0 : LNI own host idx y) (hR : fr1 + 1 ≤ fr ∧ 8 + (nL1 + 11) + lo1 ≤ lo) (hn : as.length = n) {stk : List Value} (hstk : stk = as.reverse ++ (.ref a :: st)) (h4 : st.length ≤ 4) (d : decode cc pc = .ok (.invokespecial idx, 3)) (hc : kc + k1c ≤ Kc) (hs : ks + k1s ≤ Ks)
    (hp : Rp Δ Γ.2.2.2.2.1 φ σ H locs) (hst : SC σ stk) (hl : lv_has ls Γ.2.2.2.2.2.2.2.2.2.1.maxLocals (enL φ L)) :
    vx_Run Γ.1 Γ.2.1 Γ.2.2.1 Γ.2.2.2.1 Γ.2.2.2.2.1 Γ.2.2.2.2.2.1 Γ.2.2.2.2.2.2.1 Γ.2.2.2.2.2.2.2.1 Γ.2.2.2.2.2.2.2.2.1 Γ.2.2.2.2.2.2.2.2.2.1 H locs kc ks k1c k1s (F0 Γ.2.2.2.2.2.1 pc ls (stk.map (en φ))) (st.map (en φ)) (Qr (Δ.1, Δ.2.1, Δ.2.2.1, Δ.2.2.2.1, φ, σ) o σ1 ((.ref a :: as).map (en φ)).toArray) (Qx (Δ.1, Δ.2.1, Δ.2.2.1, Δ.2.2.2.1, φ, σ) o σ1) (AA Δ) := by
  rw [hstk] at hst
  have hs1 : SC σ (.ref a :: as) := SC.c (SC.h (SC.app hst).2) (SC.rev (SC.app hst).1)
  have hcat := cat_le φ st 4 h4
  exact vx_runIN (nL := nL) (As := as.map (en φ)) (b := φ a) (Ts := ALLw) ⟨B.1, B.2.1, B.2.2.1, B.2.2.2.1, B.2.2.2.2.1⟩ (hC B.2.2.2.2.2.2.2.2.2.2.2.2.2 Δ.1 Δ.2.1 Δ.2.2.1 Δ.2.2.2.1 φ) ⟨callCN B hM hl0.1 hR, hl0.2.2, B.2.2.2.2.1 _ hl0.2.1⟩ (preS B hp hs1) rfl (by rw [List.length_map]; exact hn) (by rw [← B.2.2.1]; exact hl.1) (by rw [hstk, List.map_append, List.map_reverse]; rfl) (by show 2 * 0 + _ ≤ 8; omega) d ⟨by rw [B.2.2.2.2.2.2.2.2.2.2.1]; exact hc, by rw [B.2.2.2.2.2.2.2.2.2.2.2.1]; exact hs⟩
end CR
end GC
