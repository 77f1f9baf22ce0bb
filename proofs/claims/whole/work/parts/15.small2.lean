/-! small things for the printed walks -/
theorem al_n : (lg_sl []).length = 0 := rfl
theorem al_1 {v : Value} {vs : List Value} {n : Nat} (hc : v.category = 1) (h : (lg_sl vs).length = n) : (lg_sl (v :: vs)).length = n + 1 := by
  simp only [lg_sl, List.flatMap_cons, hc, List.length_append] at h ⊢
  simp [h]; omega
theorem al_2 {v : Value} {vs : List Value} {n : Nat} (hc : v.category = 2) (h : (lg_sl vs).length = n) : (lg_sl (v :: vs)).length = n + 2 := by
  simp only [lg_sl, List.flatMap_cons, hc, List.length_append] at h ⊢
  simp [h]; omega
theorem al_le {vs : List Value} {n m : Nat} (h : (lg_sl vs).length = n) (hm : n ≤ m) : (lg_sl vs).length ≤ m := h ▸ hm
theorem ag_n {i : Nat} : lv_args i [] = [] := rfl
theorem ag_1 {i : Nat} {v : Value} {vs : List Value} {L : List (Nat × Value)} (hc : v.category = 1) (h : lv_args (i + 1) vs = L) : lv_args i (v :: vs) = (i, v) :: L := by
  unfold lv_args
  rw [if_neg (by rw [hc]; decide), h]
theorem ag_2 {i : Nat} {v : Value} {vs : List Value} {L : List (Nat × Value)} (hc : v.category = 2) (h : lv_args (i + 2) vs = L) : lv_args i (v :: vs) = (i, v) :: L := by
  unfold lv_args
  rw [if_pos hc, h]
theorem bj {k r a1 A : Nat} (h : k + r = A) (h1 : a1 ≤ r) : k + a1 ≤ A := by omega
def nrB (x : Int32) : Option Unit := if x.toInt8.toInt32 = x then some () else none
def nrC (x : Int32) : Option Unit := if (x.toUInt32 % 65536).toInt32 = x then some () else none
theorem nrB_s {x : Int32} {u : Unit} (h : nrB x = some u) : narrow .byte (.int x) = .int x := by
  unfold nrB at h
  split at h
  · rename_i e; exact congrArg Value.int e
  · cases h
theorem nrC_s {x : Int32} {u : Unit} (h : nrC x = some u) : narrow .char (.int x) = .int x := by
  unfold nrC at h
  split at h
  · rename_i e; exact congrArg Value.int e
  · cases h
def OBW (own : String) (idx : Nat) : Prop := Cond.methodLink own idx Lib.objectInit ∈ ALLw ∧ Cond.instanceMethod Lib.objectInit ∈ ALLw ∧ Cond.code Lib.objectInit ⟨#[0xb1]⟩ 1 none ∈ ALLw
section GW15
variable {Δ : AmbT} {Γ : CtxT} {own : String} {cc : ByteArray} {nL fr lo Kc Ks kc ks pc : Nat} {L : List (Nat × Value)} {st stk : List Value} {σ σ1 : HpT}
theorem g_objInit9 (B : Bd Δ Γ own cc nL fr lo Kc Ks) {idx κ : Nat} {r : Option Nat} {σ0 : HpT} (hk : IsK σ0 r κ) (ho : OBW own idx) (hR : 1 ≤ fr ∧ 20 ≤ lo) (h4 : st.length ≤ 4) (d : decode cc pc = .ok (.invokespecial idx, 3)) (kk : GW Δ Γ kc ks (pc + 3) L st σ) : GW Δ Γ kc ks pc L (va_rf r :: st) σ := by
  obtain ⟨a, rfl, -⟩ := hk
  exact g_objInit B ho.1 ho.2.1 ho.2.2 hR h4 d kk
theorem g_gstF (B : Bd Δ Γ own cc nL fr lo Kc Ks) {idx : Nat} (hl0 : Cond.fieldLink own idx "jdk/internal/util/Preconditions" "SIOOBE_FORMATTER" "Ljava/util/function/BiFunction;" ∈ ALLw) (d : decode cc pc = .ok (.getstatic idx, 3)) (kk : ∀ r : Option Nat, GW Δ Γ kc ks (pc + 3) L (va_rf r :: st) σ) : GW Δ Γ kc ks pc L st σ := fun φ H locs ls hp hst hL hl => by
  rcases B.2.2.2.2.2.2.2.1.2.2.2.2.2.2.2.1 with h | h
  · exact va_gets B.1 B.2.1 h hp.2.2.1 B.2.2.2.1 (B.2.2.2.2.1 _ hl0) (fun _ q => q) d (kk none φ H locs ls hp (SC.c (v := .null) True.intro hst) hL hl)
  · have kk := kk (some (BIG + 202)) φ H locs ls hp (SC.c (v := .ref (BIG + 202)) (Or.inr (Nat.le_add_right _ _)) hst) hL hl
    have e : en φ (va_rf (some (BIG + 202))) = .ref (Δ.2.2.1 (BIG + 202)) := congrArg Value.ref (hp.2.2.2.1 _ (Nat.le_add_right _ _))
    rw [List.map_cons, e] at kk
    exact va_gets B.1 B.2.1 h hp.2.2.1 B.2.2.2.1 (B.2.2.2.2.1 _ hl0) (fun _ q => q) d kk
end GW15
theorem lk_df2 {d k1 o1 k2 o2 x : Int} (h1 : x ≠ k1) (h2 : x ≠ k2) : Op.lookupswitch.offset [(k1, o1), (k2, o2)] d x = d := by
  simp [Op.lookupswitch.offset, h1, h2, Ne.symm h1, Ne.symm h2]
theorem lk_df3 {d k1 o1 k2 o2 k3 o3 x : Int} (h1 : x ≠ k1) (h2 : x ≠ k2) (h3 : x ≠ k3) : Op.lookupswitch.offset [(k1, o1), (k2, o2), (k3, o3)] d x = d := by
  simp [Op.lookupswitch.offset, h1, h2, h3, Ne.symm h1, Ne.symm h2, Ne.symm h3]
theorem tw_of {ws : List Cond} {ids : List Nat} (h : ws.map some = ids.map (fun i => lw_tbl[i]?)) (hg : ws.all (fun w => goodWord w || (nestWord w && w.onTables)) = true) : ∀ w ∈ ws, w ∈ ALLw ∨ (w ∈ ALLn ∧ w.onTables = true) := by
  intro w hw
  have h1 : some w ∈ ids.map (fun i => lw_tbl[i]?) := h ▸ List.mem_map.mpr ⟨w, hw, rfl⟩
  obtain ⟨i, -, hi⟩ := List.mem_map.mp h1
  have h2 := List.all_eq_true.mp hg w hw
  rcases Bool.or_eq_true_iff.mp h2 with g | g
  · exact Or.inl (mw hi g)
  · have g2 := Bool.and_eq_true_iff.mp g
    exact Or.inr ⟨mn hi g2.1, g2.2⟩
