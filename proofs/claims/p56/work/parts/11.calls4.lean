section GO
variable {Δ : AmbT} {Γ : CtxT} {own : String} {cc : ByteArray} {nL fr lo Kc Ks kc ks pc : Nat} {L : List (Nat × Value)} {st stk : List Value} {σ σ1 : HpT} {idx κ k1c k1s : Nat}
/-- the kinds of arrays of numbers: type, default entry -/
def nwT (κ : Nat) (at0 : ArrayType) : Prop := (κ = 20 ∧ newarray.typeOf at0 = .int) ∨ (κ = 21 ∧ newarray.typeOf at0 = .long) ∨ (κ = 22 ∧ newarray.typeOf at0 = .byte) ∨ (κ = 23 ∧ newarray.typeOf at0 = .boolean)
theorem made_arr {s : State} {φ : Nat → Nat} {H H1 : Heap} {locs : List Loc} {ls : Array Slot} {z p nL9 : Nat} {e : va_E} {Q : State → Prop} (hp : Rp Δ Γ.2.2.2.2.1 φ σ H locs) (hst : SC σ st) (hL : ∀ q ∈ L, CL σ q.2) (hl : lv_has ls Γ.2.2.2.2.2.2.2.2.2.1.maxLocals (enL φ L)) (hb : hN σ < BIG) (hκ : 20 ≤ κ ∧ κ < 28) (hP : va_P Δ.1 gcl (wsOf Δ.2.1 φ σ ++ [(p, e)]) H1) (hD : va_D (AA Δ) (wsOf Δ.2.1 φ σ ++ [(p, e)])) (hS : va_S (AA Δ) Γ.2.2.2.2.1.heap H1 locs) (he : ∀ φ', arrE Δ.2.1 φ' (wN σ κ z) (hN σ) κ = e) {pc9 : Nat} (kk : GW Δ Γ kc ks pc9 L (va_rf (some (hN σ)) :: st) (wN σ κ z)) :
    W Γ.1 Γ.2.1 Γ.2.2.1 Γ.2.2.2.1 Γ.2.2.2.2.1 Γ.2.2.2.2.2.1 Γ.2.2.2.2.2.2.1 Γ.2.2.2.2.2.2.2.1 Γ.2.2.2.2.2.2.2.2.1 Γ.2.2.2.2.2.2.2.2.2.1 H1 locs kc ks Γ.2.2.2.2.2.2.2.2.2.2 (F0 Γ.2.2.2.2.2.1 pc9 ls (.ref p :: st.map (en φ))) := by
  have hk : hK (wN σ κ z) (hN σ) = κ := by rw [hK_wN, if_pos rfl]
  obtain ⟨h8, h9⟩ := hp.made (κ := κ) hb (by omega) hP hD hS (by rw [entA hk hκ.1]; exact he _)
  have kk := kk (va_up φ (hN σ) p) H1 locs ls h8 (SC.c (v := .ref (hN σ)) (Or.inl (by rw [hN_wN]; omega)) (SC.up hst)) (LC.up hL) (by rw [← enL_map h9 L hL]; exact hl)
  rw [List.map_cons, ← en_map h9 st hst] at kk
  have e : en (va_up φ (hN σ) p) (va_rf (some (hN σ))) = .ref p := congrArg Value.ref (va_up_self _ _ _)
  rw [e] at kk
  exact kk
theorem g_newarr (B : Bd Δ Γ own cc nL fr lo Kc Ks) {r0 : Option Nat} {n : Int32} {at0 : ArrayType} (hT : nwT κ at0) (hw : Cond.arrayClass (newarray.typeOf at0) ∈ ALLw) (d : decode cc pc = .ok (.newarray at0, 2)) (h : nwR κ n σ = some (.ok r0, σ1, k1c, k1s)) (hc : kc + k1c ≤ Kc) (hs : ks + k1s ≤ Ks) (kk : GW Δ Γ (kc + k1c) (ks + k1s) (pc + 2) L (va_rf r0 :: st) σ1) : GW Δ Γ kc ks pc L (.int n :: st) σ := fun φ H locs ls hp hst hL hl => by
  unfold nwR at h
  split at h
  · rename_i hb
    obtain ⟨hb, hn0, hn1⟩ := hb
    have h := Option.some.inj h
    cases h
    have hn2 : n.toNatClampNeg ≤ 1000000 := by
      show n.toInt.toNat ≤ 1000000
      omega
    have hneg : ¬ n < 0 := by
      intro q
      have q2 : n.toInt < (0 : Int32).toInt := Int32.lt_iff_toInt_lt.mp q
      have : (0 : Int32).toInt = 0 := rfl
      omega
    have hK := B.2.2.2.2.2.1
    have hA : ∀ z : Nat, Γ.2.2.2.2.1.heap.size ≤ z → AA Δ z := fun z hz => Nat.le_trans B.2.2.2.2.2.2.1 hz
    have hc2 : kc + 1 ≤ Γ.2.2.2.1.cells := by rw [B.2.2.2.2.2.2.2.2.2.2.1]; exact hc
    have hs2 : ks + n.toNatClampNeg ≤ Γ.2.2.2.1.slots := by rw [B.2.2.2.2.2.2.2.2.2.2.2.1]; exact hs
    rcases hT with ⟨rfl, e⟩ | ⟨rfl, e⟩ | ⟨rfl, e⟩ | ⟨rfl, e⟩
    · refine va_newa B.1 B.2.1 (B.2.2.2.2.1 _ hw) e hK hp.1 hp.2.1 hp.2.2.1 hA (a0 := (n.toNatClampNeg, .inl (fun _ => 0))) (fun _ => rfl) hneg rfl (by show n.toNatClampNeg * 4 ≤ 536870912; omega) hc2 hs2 d (fun p cA H1 hK2 hP hD hS => ?_)
      have eA : cA = Δ.2.1 0 := Option.some.inj ((va_nm_int (hK2.2 8 (cA, .int) rfl).2).symm.trans (va_nm_int (hK.2 0 (Δ.2.1 0, .int) rfl).2))
      subst eA
      refine made_arr (Q := fun _ => True) (s := Γ.2.2.2.2.1) (nL9 := 0) hp hst.t hL hl hb (by decide) hP hD hS (fun φ' => ?_) kk
      show Sum.inl (Δ.2.1 0, hZ (wN σ 20 n.toNatClampNeg) (hN σ), Sum.inl (hI (wN σ 20 n.toNatClampNeg) (hN σ))) = _
      rw [hZ_wN, if_pos rfl, show hI (wN σ 20 n.toNatClampNeg) (hN σ) = fun _ => 0 from funext fun j => by rw [hI_wN, if_pos rfl]]
    · refine va_newa B.1 B.2.1 (B.2.2.2.2.1 _ hw) e hK hp.1 hp.2.1 hp.2.2.1 hA (a0 := (n.toNatClampNeg, .inr (.inl (fun _ => 0)))) (fun _ => rfl) hneg rfl (by show n.toNatClampNeg * 8 ≤ 536870912; omega) hc2 hs2 d (fun p cA H1 hK2 hP hD hS => ?_)
      have eA : cA = Δ.2.1 1 := Option.some.inj ((va_nm_long (hK2.2 8 (cA, .long) rfl).2).symm.trans (va_nm_long (hK.2 1 (Δ.2.1 1, .long) rfl).2))
      subst eA
      refine made_arr (Q := fun _ => True) (s := Γ.2.2.2.2.1) (nL9 := 0) hp hst.t hL hl hb (by decide) hP hD hS (fun φ' => ?_) kk
      show Sum.inl (Δ.2.1 1, hZ (wN σ 21 n.toNatClampNeg) (hN σ), Sum.inr (Sum.inl (hJ (wN σ 21 n.toNatClampNeg) (hN σ)))) = _
      rw [hZ_wN, if_pos rfl, show hJ (wN σ 21 n.toNatClampNeg) (hN σ) = fun _ => 0 from funext fun j => by rw [hJ_wN, if_pos rfl]]
    · refine va_newa B.1 B.2.1 (B.2.2.2.2.1 _ hw) e hK hp.1 hp.2.1 hp.2.2.1 hA (a0 := (n.toNatClampNeg, .inl (fun _ => 0))) (fun _ => rfl) hneg rfl (by show n.toNatClampNeg * 1 ≤ 536870912; omega) hc2 hs2 d (fun p cA H1 hK2 hP hD hS => ?_)
      have eA : cA = Δ.2.1 2 := Option.some.inj ((va_nm_byte (hK2.2 8 (cA, .byte) rfl).2).symm.trans (va_nm_byte (hK.2 2 (Δ.2.1 2, .byte) rfl).2))
      subst eA
      refine made_arr (Q := fun _ => True) (s := Γ.2.2.2.2.1) (nL9 := 0) hp hst.t hL hl hb (by decide) hP hD hS (fun φ' => ?_) kk
      show Sum.inl (Δ.2.1 2, hZ (wN σ 22 n.toNatClampNeg) (hN σ), Sum.inl (hI (wN σ 22 n.toNatClampNeg) (hN σ))) = _
      rw [hZ_wN, if_pos rfl, show hI (wN σ 22 n.toNatClampNeg) (hN σ) = fun _ => 0 from funext fun j => by rw [hI_wN, if_pos rfl]]
    · refine va_newa B.1 B.2.1 (B.2.2.2.2.1 _ hw) e hK hp.1 hp.2.1 hp.2.2.1 hA (a0 := (n.toNatClampNeg, .inl (fun _ => 0))) (fun _ => rfl) hneg rfl (by show n.toNatClampNeg * 1 ≤ 536870912; omega) hc2 hs2 d (fun p cA H1 hK2 hP hD hS => ?_)
      have eA : cA = Δ.2.1 3 := Option.some.inj ((va_nm_boolean (hK2.2 8 (cA, .boolean) rfl).2).symm.trans (va_nm_boolean (hK.2 3 (Δ.2.1 3, .boolean) rfl).2))
      subst eA
      refine made_arr (Q := fun _ => True) (s := Γ.2.2.2.2.1) (nL9 := 0) hp hst.t hL hl hb (by decide) hP hD hS (fun φ' => ?_) kk
      show Sum.inl (Δ.2.1 3, hZ (wN σ 23 n.toNatClampNeg) (hN σ), Sum.inl (hI (wN σ 23 n.toNatClampNeg) (hN σ))) = _
      rw [hZ_wN, if_pos rfl, show hI (wN σ 23 n.toNatClampNeg) (hN σ) = fun _ => 0 from funext fun j => by rw [hI_wN, if_pos rfl]]
  · cases h
/-- a row of references -/
theorem g_anew (B : Bd Δ Γ own cc nL fr lo Kc Ks) {r0 : Option Nat} {n : Int32} {C nm : String} (hκ : 24 ≤ κ ∧ κ < 28) (hcl : Cond.classLink own idx C ∈ ALLw) (hov : Cond.arrayOver (.object C) ∈ ALLn) (hC : ∀ aC : Nat → ClassId, (tysOf aC)[κ - 20]? = some (aC (κ - 20), .object C)) (hnm : "[" ++ (FieldType.object C).toString = nm) (d : decode cc pc = .ok (.anewarray idx, 3)) (h : nwR κ n σ = some (.ok r0, σ1, k1c, k1s)) (hc : kc + k1c ≤ Kc) (hs : ks + k1s ≤ Ks) (kk : GW Δ Γ (kc + k1c) (ks + k1s) (pc + 3) L (va_rf r0 :: st) σ1) : GW Δ Γ kc ks pc L (.int n :: st) σ := fun φ H locs ls hp hst hL hl => by
  unfold nwR at h
  split at h
  · rename_i hb
    obtain ⟨hb, hn0, hn1⟩ := hb
    have h := Option.some.inj h
    cases h
    have hn2 : n.toNatClampNeg ≤ 1000000 := by
      show n.toInt.toNat ≤ 1000000
      omega
    have hneg : ¬ n < 0 := by
      intro q
      have q2 : n.toInt < (0 : Int32).toInt := Int32.lt_iff_toInt_lt.mp q
      have : (0 : Int32).toInt = 0 := rfl
      omega
    have hK := B.2.2.2.2.2.1
    have hA : ∀ z : Nat, Γ.2.2.2.2.1.heap.size ≤ z → AA Δ z := fun z hz => Nat.le_trans B.2.2.2.2.2.2.1 hz
    refine va_newq B.1 B.2.1 B.2.2.2.1 (B.2.2.2.2.1 _ hcl) (B.2.2.2.2.2.2.2.1.2.2.2.2.2.2.2.2.2.2.1 _ hov) hK hp.1 hp.2.1 hp.2.2.1 hA hneg rfl (by omega) (by rw [B.2.2.2.2.2.2.2.2.2.2.1]; exact hc) (by rw [B.2.2.2.2.2.2.2.2.2.2.2.1]; exact hs) d (fun p cA H1 hK2 hP hD hS => ?_)
    have eA : cA = Δ.2.1 (κ - 20) := Option.some.inj ((va_nmO (hK2.2 8 (cA, .object C) rfl).2 hnm).symm.trans (va_nmO (hK.2 (κ - 20) (Δ.2.1 (κ - 20), .object C) (hC _)).2 hnm))
    subst eA
    refine made_arr (Q := fun _ => True) (s := Γ.2.2.2.2.1) (nL9 := 0) hp hst.t hL hl hb ⟨by omega, hκ.2⟩ hP hD hS (fun φ' => ?_) kk
    unfold arrE
    rw [if_neg (by omega), if_neg (by omega), if_neg (by omega), if_neg (by omega), if_neg (by omega), hZ_wN, if_pos rfl]
    rw [show (fun k => (hR (wN σ κ n.toNatClampNeg) (hN σ) k).map φ') = fun _ => none from funext fun j => by rw [hR_wN, if_pos rfl]; rfl]
  · cases h
end GO
