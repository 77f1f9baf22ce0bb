/-! MEMORY: fields and arrays -/
def gI (σ : HpT) (r : Option Nat) (κ k : Nat) : Option Int32 := match r with
  | none => none
  | some a => if hK σ a = κ then some (hI σ a k) else none
def gJ (σ : HpT) (r : Option Nat) (κ k : Nat) : Option Int64 := match r with
  | none => none
  | some a => if hK σ a = κ then some (hJ σ a k) else none
def gR (σ : HpT) (r : Option Nat) (κ k : Nat) : Option (Option Nat) := match r with
  | none => none
  | some a => if hK σ a = κ then some (hR σ a k) else none
def inb (i : Int32) (n : Nat) : Prop := 0 ≤ i.toInt ∧ i.toInt < n
def inbB (i : Int32) (n : Nat) : Bool := decide (0 ≤ i.toInt) && decide (i.toInt < n)
theorem inbB_in {i : Int32} {n : Nat} (h : inbB i n = true) : vp_in i n := by
  simp only [inbB, Bool.and_eq_true, decide_eq_true_eq] at h
  exact vp_in_iff.mpr h
def aI (σ : HpT) (r : Option Nat) (κ : Nat) (i : Int32) : Option Int32 := match r with
  | none => none
  | some a => if hK σ a = κ ∧ inbB i (hZ σ a) = true then some (hI σ a i.toNatClampNeg) else none
def aJ (σ : HpT) (r : Option Nat) (i : Int32) : Option Int64 := match r with
  | none => none
  | some a => if hK σ a = 21 ∧ inbB i (hZ σ a) = true then some (hJ σ a i.toNatClampNeg) else none
def aR (σ : HpT) (r : Option Nat) (κ : Nat) (i : Int32) : Option (Option Nat) := match r with
  | none => none
  | some a => if hK σ a = κ ∧ inbB i (hZ σ a) = true then some (hR σ a i.toNatClampNeg) else none
def aL (σ : HpT) (r : Option Nat) (κ : Nat) : Option Int32 := match r with
  | none => none
  | some a => if hK σ a = κ then some (Int32.ofNat (hZ σ a)) else none
/-- a store into a constant is none -/
def pI (σ : HpT) (r : Option Nat) (κ k : Nat) (x : Int32) : Option HpT := match r with
  | none => none
  | some a => if hK σ a = κ ∧ a < hN σ then some (wI σ a k x) else none
def pZ (σ : HpT) (r : Option Nat) (κ k : Nat) (x : Int32) : Option HpT := if x = 0 ∨ x = 1 then pI σ r κ k x else none
def pB (σ : HpT) (r : Option Nat) (κ k : Nat) (x : Int32) : Option HpT := if x.toInt8.toInt32 = x then pI σ r κ k x else none
def pJ (σ : HpT) (r : Option Nat) (κ k : Nat) (x : Int64) : Option HpT := match r with
  | none => none
  | some a => if hK σ a = κ ∧ a < hN σ then some (wJ σ a k x) else none
def pR (σ : HpT) (r : Option Nat) (κ k : Nat) (x : Option Nat) : Option HpT := match r with
  | none => none
  | some a => if hK σ a = κ ∧ a < hN σ then some (wR σ a k x) else none
def sI (σ : HpT) (r : Option Nat) (i x : Int32) : Option HpT := match r with
  | none => none
  | some a => if (hK σ a = 20 ∧ inbB i (hZ σ a) = true) ∧ a < hN σ then some (wI σ a i.toNatClampNeg x) else none
def sB (σ : HpT) (r : Option Nat) (i x : Int32) : Option HpT := match r with
  | none => none
  | some a => if (hK σ a = 22 ∧ inbB i (hZ σ a) = true) ∧ a < hN σ then some (wI σ a i.toNatClampNeg x.toInt8.toInt32) else none
def sZ (σ : HpT) (r : Option Nat) (i x : Int32) : Option HpT := match r with
  | none => none
  | some a => if (hK σ a = 23 ∧ inbB i (hZ σ a) = true) ∧ a < hN σ then some (wI σ a i.toNatClampNeg (vp_nar .boolean x)) else none
def sJ (σ : HpT) (r : Option Nat) (i : Int32) (x : Int64) : Option HpT := match r with
  | none => none
  | some a => if (hK σ a = 21 ∧ inbB i (hZ σ a) = true) ∧ a < hN σ then some (wJ σ a i.toNatClampNeg x) else none
/-- a row of objects of kind κ2 -/
def sR (σ : HpT) (r : Option Nat) (κ κ2 : Nat) (i : Int32) (x : Option Nat) : Option HpT := match r, x with
  | some a, some b => if ((hK σ a = κ ∧ inbB i (hZ σ a) = true) ∧ a < hN σ) ∧ hK σ b = κ2 ∧ b < hN σ then some (wR σ a i.toNatClampNeg (some b)) else none
  | _, _ => none
theorem gI_s {σ : HpT} {r : Option Nat} {κ k : Nat} {v : Int32} (h : gI σ r κ k = some v) : ∃ a, r = some a ∧ hK σ a = κ ∧ hI σ a k = v := by
  cases r with
  | none => cases h
  | some a =>
    unfold gI at h
    dsimp only at h
    split at h
    · rename_i h1
      exact ⟨a, rfl, h1, Option.some.inj h⟩
    · cases h
theorem gJ_s {σ : HpT} {r : Option Nat} {κ k : Nat} {v : Int64} (h : gJ σ r κ k = some v) : ∃ a, r = some a ∧ hK σ a = κ ∧ hJ σ a k = v := by
  cases r with
  | none => cases h
  | some a =>
    unfold gJ at h
    dsimp only at h
    split at h
    · rename_i h1
      exact ⟨a, rfl, h1, Option.some.inj h⟩
    · cases h
theorem gR_s {σ : HpT} {r : Option Nat} {κ k : Nat} {v : Option Nat} (h : gR σ r κ k = some v) : ∃ a, r = some a ∧ hK σ a = κ ∧ hR σ a k = v := by
  cases r with
  | none => cases h
  | some a =>
    unfold gR at h
    dsimp only at h
    split at h
    · rename_i h1
      exact ⟨a, rfl, h1, Option.some.inj h⟩
    · cases h
theorem aI_s {σ : HpT} {r : Option Nat} {κ : Nat} {i v : Int32} (h : aI σ r κ i = some v) : ∃ a, r = some a ∧ hK σ a = κ ∧ vp_in i (hZ σ a) ∧ hI σ a i.toNatClampNeg = v := by
  cases r with
  | none => cases h
  | some a =>
    unfold aI at h
    dsimp only at h
    split at h
    · rename_i h1
      exact ⟨a, rfl, h1.1, inbB_in h1.2, Option.some.inj h⟩
    · cases h
theorem aJ_s {σ : HpT} {r : Option Nat} {i : Int32} {v : Int64} (h : aJ σ r i = some v) : ∃ a, r = some a ∧ hK σ a = 21 ∧ vp_in i (hZ σ a) ∧ hJ σ a i.toNatClampNeg = v := by
  cases r with
  | none => cases h
  | some a =>
    unfold aJ at h
    dsimp only at h
    split at h
    · rename_i h1
      exact ⟨a, rfl, h1.1, inbB_in h1.2, Option.some.inj h⟩
    · cases h
theorem aR_s {σ : HpT} {r : Option Nat} {κ : Nat} {i : Int32} {v : Option Nat} (h : aR σ r κ i = some v) : ∃ a, r = some a ∧ hK σ a = κ ∧ vp_in i (hZ σ a) ∧ hR σ a i.toNatClampNeg = v := by
  cases r with
  | none => cases h
  | some a =>
    unfold aR at h
    dsimp only at h
    split at h
    · rename_i h1
      exact ⟨a, rfl, h1.1, inbB_in h1.2, Option.some.inj h⟩
    · cases h
theorem aL_s {σ : HpT} {r : Option Nat} {κ : Nat} {v : Int32} (h : aL σ r κ = some v) : ∃ a, r = some a ∧ hK σ a = κ ∧ Int32.ofNat (hZ σ a) = v := by
  cases r with
  | none => cases h
  | some a =>
    unfold aL at h
    dsimp only at h
    split at h
    · rename_i h1
      exact ⟨a, rfl, h1, Option.some.inj h⟩
    · cases h
theorem pI_s {σ σ' : HpT} {r : Option Nat} {κ k : Nat} {x : Int32} (h : pI σ r κ k x = some σ') : ∃ a, r = some a ∧ hK σ a = κ ∧ a < hN σ ∧ wI σ a k x = σ' := by
  cases r with
  | none => cases h
  | some a =>
    unfold pI at h
    dsimp only at h
    split at h
    · rename_i h1
      exact ⟨a, rfl, h1.1, h1.2, Option.some.inj h⟩
    · cases h
theorem pZ_s {σ σ' : HpT} {r : Option Nat} {κ k : Nat} {x : Int32} (h : pZ σ r κ k x = some σ') : (x = 0 ∨ x = 1) ∧ pI σ r κ k x = some σ' := by
  unfold pZ at h
  split at h
  · rename_i h1
    exact ⟨h1, h⟩
  · cases h
theorem pB_s {σ σ' : HpT} {r : Option Nat} {κ k : Nat} {x : Int32} (h : pB σ r κ k x = some σ') : x.toInt8.toInt32 = x ∧ pI σ r κ k x = some σ' := by
  unfold pB at h
  split at h
  · rename_i h1
    exact ⟨h1, h⟩
  · cases h
theorem pJ_s {σ σ' : HpT} {r : Option Nat} {κ k : Nat} {x : Int64} (h : pJ σ r κ k x = some σ') : ∃ a, r = some a ∧ hK σ a = κ ∧ a < hN σ ∧ wJ σ a k x = σ' := by
  cases r with
  | none => cases h
  | some a =>
    unfold pJ at h
    dsimp only at h
    split at h
    · rename_i h1
      exact ⟨a, rfl, h1.1, h1.2, Option.some.inj h⟩
    · cases h
theorem pR_s {σ σ' : HpT} {r : Option Nat} {κ k : Nat} {x : Option Nat} (h : pR σ r κ k x = some σ') : ∃ a, r = some a ∧ hK σ a = κ ∧ a < hN σ ∧ wR σ a k x = σ' := by
  cases r with
  | none => cases h
  | some a =>
    unfold pR at h
    dsimp only at h
    split at h
    · rename_i h1
      exact ⟨a, rfl, h1.1, h1.2, Option.some.inj h⟩
    · cases h
theorem sI_s {σ σ' : HpT} {r : Option Nat} {i x : Int32} (h : sI σ r i x = some σ') : ∃ a, r = some a ∧ hK σ a = 20 ∧ vp_in i (hZ σ a) ∧ a < hN σ ∧ wI σ a i.toNatClampNeg x = σ' := by
  cases r with
  | none => cases h
  | some a =>
    unfold sI at h
    dsimp only at h
    split at h
    · rename_i h1
      exact ⟨a, rfl, h1.1.1, inbB_in h1.1.2, h1.2, Option.some.inj h⟩
    · cases h
theorem sB_s {σ σ' : HpT} {r : Option Nat} {i x : Int32} (h : sB σ r i x = some σ') : ∃ a, r = some a ∧ hK σ a = 22 ∧ vp_in i (hZ σ a) ∧ a < hN σ ∧ wI σ a i.toNatClampNeg x.toInt8.toInt32 = σ' := by
  cases r with
  | none => cases h
  | some a =>
    unfold sB at h
    dsimp only at h
    split at h
    · rename_i h1
      exact ⟨a, rfl, h1.1.1, inbB_in h1.1.2, h1.2, Option.some.inj h⟩
    · cases h
theorem sZ_s {σ σ' : HpT} {r : Option Nat} {i x : Int32} (h : sZ σ r i x = some σ') : ∃ a, r = some a ∧ hK σ a = 23 ∧ vp_in i (hZ σ a) ∧ a < hN σ ∧ wI σ a i.toNatClampNeg (vp_nar .boolean x) = σ' := by
  cases r with
  | none => cases h
  | some a =>
    unfold sZ at h
    dsimp only at h
    split at h
    · rename_i h1
      exact ⟨a, rfl, h1.1.1, inbB_in h1.1.2, h1.2, Option.some.inj h⟩
    · cases h
theorem sJ_s {σ σ' : HpT} {r : Option Nat} {i : Int32} {x : Int64} (h : sJ σ r i x = some σ') : ∃ a, r = some a ∧ hK σ a = 21 ∧ vp_in i (hZ σ a) ∧ a < hN σ ∧ wJ σ a i.toNatClampNeg x = σ' := by
  cases r with
  | none => cases h
  | some a =>
    unfold sJ at h
    dsimp only at h
    split at h
    · rename_i h1
      exact ⟨a, rfl, h1.1.1, inbB_in h1.1.2, h1.2, Option.some.inj h⟩
    · cases h
theorem sR_s {σ σ' : HpT} {r x : Option Nat} {κ κ2 : Nat} {i : Int32} (h : sR σ r κ κ2 i x = some σ') : ∃ a b, r = some a ∧ x = some b ∧ hK σ a = κ ∧ vp_in i (hZ σ a) ∧ a < hN σ ∧ hK σ b = κ2 ∧ b < hN σ ∧ wR σ a i.toNatClampNeg (some b) = σ' := by
  cases r with
  | none => cases h
  | some a =>
    cases x with
    | none => cases h
    | some b =>
      unfold sR at h
      dsimp only at h
      split at h
      · rename_i h1
        exact ⟨a, b, rfl, rfl, h1.1.1.1, inbB_in h1.1.1.2, h1.1.2, h1.2.1, h1.2.2, Option.some.inj h⟩
      · cases h
/-- a field, by the class's own words and the link -/
def Fl (own : String) (idx κ k : Nat) (ty : FieldType) (fin : Bool) : Prop :=
  ∃ (C : String) (T : u_T) (N : Nat) (ty0 : Nat → FieldType), gcl[κ]? = some (C, T, N) ∧ k < N ∧ N = nF κ ∧ (∀ w ∈ u_ws C T N, w ∈ ALLw) ∧ Cond.fieldLink own idx (T k).1 (T k).2.1 (T k).2.2.1 ∈ ALLw ∧
    (∀ j, j < N → parseFieldDescriptor (T j).2.2.1 = some (ty0 j)) ∧ (∀ a, a < N → ∀ b, b < N → a ≠ b → (T a).2.1 ≠ (T b).2.1) ∧ parseFieldDescriptor (T k).2.2.1 = some ty ∧ (T k).2.2.2 = fin ∧ κ < 20 ∧ (fin = true → (T k).1 = own)
theorem Rp_set {Δ : AmbT} {s : State} {φ : Nat → Nat} {σ σ' : HpT} {H H1 : Heap} {locs locs1 : List Loc} {i : Nat} {e : va_E} (hR : Rp Δ s φ σ H locs) (hn : hN σ' = hN σ) (hsc : σ'.2.2.2.2.2.2 = σ.2.2.2.2.2.2 := by rfl) (ho : ∀ j, j < hN σ → j ≠ i → ent Δ.2.1 φ σ' j = ent Δ.2.1 φ σ j) (hi : ent Δ.2.1 φ σ' i = e) (hw : WFh σ')
    (hP : va_P Δ.1 gcl ((wsOf Δ.2.1 φ σ).set i (φ i, e)) H1) (hD : va_D (AA Δ) ((wsOf Δ.2.1 φ σ).set i (φ i, e))) (hS : va_S (AA Δ) s.heap H1 locs1) : Rp Δ s φ σ' H1 locs1 := by
  obtain ⟨-, -, -, h4, -, h6, h7⟩ := hR
  rw [ws_set hn ho (fun _ => hi)] at hP hD
  exact ⟨hP, hD, hS, h4, hw, h6, by rw [hn]; exact h7.1, hsc.trans h7.2⟩
section W1
variable {aC : Nat → ClassId} {φ : Nat → Nat} {σ : HpT} {a k : Nat}
theorem CL_n {σ σ' : HpT} {st : List Value} (h : hN σ' = hN σ) (k : SC σ st) : SC σ' st := fun v hv => (k v hv).mono (by rw [h]; exact Nat.le_refl _)
theorem LC_n {σ σ' : HpT} {L : List (Nat × Value)} (h : hN σ' = hN σ) (k : ∀ q ∈ L, CL σ q.2) : ∀ q ∈ L, CL σ' q.2 := fun v hv => (k v hv).mono (by rw [h]; exact Nat.le_refl _)
theorem ent_wI (x : Int32) (ha : a < hN σ) (j : Nat) (hj : j ≠ a) : ent aC φ (wI σ a k x) j = ent aC φ σ j := ent_same rfl rfl (fun i => by rw [hI_wI _ _ _ _ _ _ ha, if_neg (fun h => hj h.1)]) (fun _ => rfl) (fun _ => rfl) (fun _ => rfl)
theorem ent_wJ (x : Int64) (ha : a < hN σ) (j : Nat) (hj : j ≠ a) : ent aC φ (wJ σ a k x) j = ent aC φ σ j := ent_same rfl rfl (fun _ => rfl) (fun i => by rw [hJ_wJ _ _ _ _ _ _ ha, if_neg (fun h => hj h.1)]) (fun _ => rfl) (fun _ => rfl)
theorem ent_wR (x : Option Nat) (ha : a < hN σ) (j : Nat) (hj : j ≠ a) : ent aC φ (wR σ a k x) j = ent aC φ σ j := ent_same rfl rfl (fun _ => rfl) (fun _ => rfl) (fun i => by rw [hR_wR _ _ _ _ _ _ ha, if_neg (fun h => hj h.1)]) (fun _ => rfl)
theorem fl_wI {κ : Nat} (x : Int32) (ha : a < hN σ) (ht : fT κ k = 0) : flds φ (wI σ a k x) a κ = (flds φ σ a κ).set k (.int x) := by
  unfold flds
  rw [rg_set]
  apply List.map_congr_left
  intro j _
  by_cases h : j = k
  · subst h
    rw [if_pos rfl]
    unfold fv
    rw [if_pos ht, hI_wI _ _ _ _ _ _ ha, if_pos ⟨rfl, rfl⟩]
  · rw [if_neg h]
    unfold fv
    rw [show hI (wI σ a k x) a j = hI σ a j from by rw [hI_wI _ _ _ _ _ _ ha, if_neg (fun q => h q.2)]]
    rfl
theorem fl_wJ {κ : Nat} (x : Int64) (ha : a < hN σ) (ht : fT κ k = 1) : flds φ (wJ σ a k x) a κ = (flds φ σ a κ).set k (.long x) := by
  unfold flds
  rw [rg_set]
  apply List.map_congr_left
  intro j _
  by_cases h : j = k
  · subst h
    rw [if_pos rfl]
    unfold fv
    rw [if_neg (by rw [ht]; decide), if_pos ht, hJ_wJ _ _ _ _ _ _ ha, if_pos ⟨rfl, rfl⟩]
  · rw [if_neg h]
    unfold fv
    rw [show hJ (wJ σ a k x) a j = hJ σ a j from by rw [hJ_wJ _ _ _ _ _ _ ha, if_neg (fun q => h q.2)]]
    rfl
theorem fl_wR {κ : Nat} (x : Option Nat) (ha : a < hN σ) (ht : fT κ k = 2) : flds φ (wR σ a k x) a κ = (flds φ σ a κ).set k (va_rf (x.map φ)) := by
  unfold flds
  rw [rg_set]
  apply List.map_congr_left
  intro j _
  by_cases h : j = k
  · subst h
    rw [if_pos rfl]
    unfold fv
    rw [if_neg (by rw [ht]; decide), if_neg (by rw [ht]; decide), hR_wR _ _ _ _ _ _ ha, if_pos ⟨rfl, rfl⟩]
  · rw [if_neg h]
    unfold fv
    rw [show hR (wR σ a k x) a j = hR σ a j from by rw [hR_wR _ _ _ _ _ _ ha, if_neg (fun q => h q.2)]]
    rfl
theorem WF_wI (hw : WFh σ) (x : Int32) (ha : a < hN σ) (hx : hK σ a = 22 → x.toInt8.toInt32 = x) : WFh (wI σ a k x) := by
  refine ⟨hw.1, fun i k j hi h => hw.2.1 i k j hi h, fun i j h => ?_⟩
  rw [hI_wI _ _ _ _ _ _ ha]
  split
  · rename_i h1
    rw [h1.1] at h
    exact hx h
  · exact hw.2.2 i j h
theorem WF_wJ (hw : WFh σ) (x : Int64) : WFh (wJ σ a k x) := ⟨hw.1, fun i k j hi h => hw.2.1 i k j hi h, fun i j h => hw.2.2 i j h⟩
theorem WF_wR (hw : WFh σ) (x : Option Nat) (ha : a < hN σ) (hx : ∀ j, x = some j → CLn σ j) : WFh (wR σ a k x) := by
  refine ⟨hw.1, fun i k2 j hi h => ?_, fun i j h => hw.2.2 i j h⟩
  rw [hR_wR _ _ _ _ _ _ ha] at h
  split at h
  · exact hx j h
  · exact hw.2.1 i k2 j hi h
theorem CL_rf {σ : HpT} {x : Option Nat} (h : CL σ (va_rf x)) : ∀ j, x = some j → CLn σ j := fun j e => by subst e; exact h
end W1
theorem nar_byte {x : Int32} (h : x.toInt8.toInt32 = x) : narrow .byte (.int x) = .int x := by
  show Value.int x.toInt8.toInt32 = _
  rw [h]
theorem fit_byte {x : Int32} (h : x.toInt8.toInt32 = x) : fits .byte (.int x) = true := by rw [← h]; exact pk_fb x
theorem byte2 (x : Int32) : x.toInt8.toInt32.toInt8.toInt32 = x.toInt8.toInt32 := by
  have h := vp_nar_byte x.toInt8.toInt32
  rw [pk_vb] at h
  exact h.symm
theorem nar_ref {ty : FieldType} (h : (∃ n, ty = .object n) ∨ ∃ t, ty = .array t) (x : Option Nat) : narrow ty (va_rf x) = va_rf x := by
  rcases h with ⟨n, rfl⟩ | ⟨t, rfl⟩ <;> cases x <;> rfl
theorem fit_ref {ty : FieldType} (h : (∃ n, ty = .object n) ∨ ∃ t, ty = .array t) (x : Option Nat) : fits ty (va_rf x) = true := by
  rcases h with ⟨n, rfl⟩ | ⟨t, rfl⟩ <;> cases x <;> rfl
theorem arrE_len (aC : Nat → ClassId) (φ : Nat → Nat) (σ : HpT) (a : Nat) {κ : Nat} (h : 20 ≤ κ ∧ κ < 28) : ∃ x : vp_A, arrE aC φ σ a κ = .inl (aC (κ - 20), x) ∧ x.1 = hZ σ a := by
  unfold arrE
  repeat' split
  · rename_i e; subst e; exact ⟨_, rfl, rfl⟩
  · rename_i e; subst e; exact ⟨_, rfl, rfl⟩
  · rename_i e; subst e; exact ⟨_, rfl, rfl⟩
  · rename_i e; subst e; exact ⟨_, rfl, rfl⟩
  · rename_i e; omega
  · exact ⟨_, rfl, rfl⟩
theorem tys_at (aC : Nat → ClassId) {κ : Nat} (h : 20 ≤ κ ∧ κ < 28) : ∃ ty, (tysOf aC)[κ - 20]? = some (aC (κ - 20), ty) := by
  obtain ⟨h1, h2⟩ := h
  have : κ = 20 ∨ κ = 21 ∨ κ = 22 ∨ κ = 23 ∨ κ = 24 ∨ κ = 25 ∨ κ = 26 ∨ κ = 27 := by omega
  rcases this with e | e | e | e | e | e | e | e <;> subst e <;> exact ⟨_, rfl⟩
section ARR
variable {aC : Nat → ClassId} {φ : Nat → Nat} {σ : HpT} {a k : Nat}
theorem hI_upd (x : Int32) (ha : a < hN σ) : hI (wI σ a k x) a = upd (hI σ a) k x := by
  funext j
  rw [hI_wI _ _ _ _ _ _ ha]
  unfold upd
  by_cases e : j = k <;> simp [e]
theorem arr_wI20 (x : Int32) (ha : a < hN σ) : arrE aC φ (wI σ a k x) a 20 = .inl (aC 0, hZ σ a, .inl (upd (hI σ a) k x)) := by rw [← hI_upd x ha]; rfl
theorem arr_wI22 (x : Int32) (ha : a < hN σ) : arrE aC φ (wI σ a k x) a 22 = .inl (aC 2, hZ σ a, .inl (upd (hI σ a) k x)) := by rw [← hI_upd x ha]; rfl
theorem arr_wI23 (x : Int32) (ha : a < hN σ) : arrE aC φ (wI σ a k x) a 23 = .inl (aC 3, hZ σ a, .inl (upd (hI σ a) k x)) := by rw [← hI_upd x ha]; rfl
theorem arr_wJ21 (x : Int64) (ha : a < hN σ) : arrE aC φ (wJ σ a k x) a 21 = .inl (aC 1, hZ σ a, .inr (.inl (vp_updL (hJ σ a) k x))) := by
  have : hJ (wJ σ a k x) a = vp_updL (hJ σ a) k x := by
    funext j
    rw [hJ_wJ _ _ _ _ _ _ ha]
    unfold vp_updL
    by_cases e : j = k <;> simp [e]
  rw [← this]; rfl
theorem arr_wR {κ : Nat} (x : Option Nat) (ha : a < hN σ) (h : 24 ≤ κ ∧ κ < 28) : arrE aC φ (wR σ a k x) a κ = .inl (aC (κ - 20), hZ σ a, .inr (.inr (.inr (.inr (va_up (fun j => (hR σ a j).map φ) k (x.map φ)))))) := by
  unfold arrE
  rw [if_neg (by omega), if_neg (by omega), if_neg (by omega), if_neg (by omega), if_neg (by omega)]
  have : (fun j => (hR (wR σ a k x) a j).map φ) = va_up (fun j => (hR σ a j).map φ) k (x.map φ) := by
    funext j
    rw [hR_wR _ _ _ _ _ _ ha]
    unfold va_up
    by_cases e : j = k <;> simp [e]
  rw [← this]
  rfl
end ARR
theorem big_22 {Δ : AmbT} {s : State} {φ : Nat → Nat} {σ : HpT} {H : Heap} {locs : List Loc} {a κ : Nat} (hp : Rp Δ s φ σ H locs) (h : hK σ a = κ) (ha : BIG ≤ a) (h2 : 20 ≤ κ ∧ κ < 28) : hK σ a = 22 ∨ (a = BIG + 203 ∧ κ = 24) ∨ (a = BIG + 204 ∧ κ = 20) := by
  have hn := hp.2.2.2.2.1.1
  have e : ¬ a < σ.1 := fun q => by have : hN σ = σ.1 := rfl; omega
  rw [h]
  unfold hK cK at h
  rw [if_neg e, if_neg (by omega)] at h
  repeat' split at h
  all_goals omega
theorem byteT {Δ : AmbT} {s : State} {φ : Nat → Nat} {σ : HpT} {H : Heap} {locs : List Loc} {a : Nat} (hp : Rp Δ s φ σ H locs) (hE : Ev Δ s s.heap) (h : hK σ a = 22) (ha : BIG ≤ a) : va_T .byte (φ a) (hZ σ a) (fun i => .int (hI σ a i)) (AA Δ) s s.heap ∧ True := by
  have hn := hp.2.2.2.2.1.1
  have e : ¬ a < σ.1 := fun q => by have : hN σ = σ.1 := rfl; omega
  rw [hp.2.2.2.1 a ha]
  have h0 := h
  unfold hK cK at h
  rw [if_neg e, if_neg (by omega)] at h
  refine ⟨?_, trivial⟩
  split at h
  · cases h
  rename_i n1
  split at h
  · cases h
  rename_i n2
  split at h
  · rename_i n3
    have hj : a - (BIG + 100) < nSt := by omega
    have h1 := (hE.2.1 (a - (BIG + 100)) hj).2.2.2
    have e1 : BIG + 100 + (a - (BIG + 100)) = a := by omega
    rw [e1] at h1
    have e2 : hZ σ a = (byS (a - (BIG + 100))).length := by
      unfold hZ cZ
      have : nSt = 47 := rfl
      rw [if_neg e, if_neg (by omega), if_pos (by omega)]
    have e3 : (fun i => Value.int (hI σ a i)) = (fun i => Value.int ((byS (a - (BIG + 100))).getD i 0)) := by
      funext i
      unfold hI cI
      have : nSt = 47 := rfl
      rw [if_neg e, if_neg (by omega), if_neg (by omega), if_pos (by omega)]
    rw [e2, e3]
    exact h1
  · rename_i n3
    split at h
    · rename_i n4
      have e2 : hZ σ a = 100 := by
        unfold hZ cZ
        rw [if_neg e, if_neg (by omega), if_neg (by omega), if_neg (by omega)]
      have e3 : (fun i => Value.int (hI σ a i)) = (fun i => Value.int (cI a i)) := by
        funext i
        unfold hI
        rw [if_neg e, if_neg (by omega)]
      rw [e2, e3]
      rcases n4 with n4 | n4
      · rw [n4]; exact hE.2.2.2.2.2.1
      · rw [n4]; exact hE.2.2.2.2.2.2.1
    · repeat' split at h
      all_goals omega
/-- the script, as a given array -/
theorem scrT {Δ : AmbT} {s : State} {φ : Nat → Nat} {σ : HpT} {H : Heap} {locs : List Loc} {a : Nat} (hp : Rp Δ s φ σ H locs) (hE : Ev Δ s s.heap) (h : hK σ a = 20) (ha : BIG ≤ a) : a = BIG + 204 ∧ va_T .int (φ a) (hZ σ a) (fun i => .int (hI σ a i)) (AA Δ) s s.heap := by
  have hn := hp.2.2.2.2.1.1
  have hab : a = BIG + 204 := by
    rcases big_22 hp h ha (by decide) with e | e | e
    · rw [h] at e; cases e
    · cases e.2
    · exact e.1
  have e : ¬ a < σ.1 := fun q => by have : hN σ = σ.1 := rfl; omega
  refine ⟨hab, ?_⟩
  rw [hp.2.2.2.1 a ha]
  have hs := hp.2.2.2.2.2.2.2
  have e2 : hZ σ a = Δ.2.2.2.2.2.2.2.2.2.2.2.1 := by
    unfold hZ
    rw [if_neg e, if_pos hab, hs]
  have e3 : (fun i => Value.int (hI σ a i)) = (fun i => Value.int (Δ.2.2.2.2.2.2.2.2.2.2.2.2 i)) := by
    funext i
    unfold hI
    rw [if_neg e, if_pos hab, hs]
  rw [e2, e3, hab]
  exact hE.2.2.2.2.2.2.2.2.2.2.2.1
theorem empT {Δ : AmbT} {s : State} {φ : Nat → Nat} {σ : HpT} {H : Heap} {locs : List Loc} {a : Nat} (hp : Rp Δ s φ σ H locs) (hE : Ev Δ s s.heap) (h : hK σ a = 24) (ha : BIG ≤ a) : a = BIG + 203 ∧ hZ σ a = 0 ∧ va_T (.object "java/lang/Object") (φ a) 0 (fun _ => .null) (AA Δ) s s.heap := by
  have hn := hp.2.2.2.2.1.1
  have hab : a = BIG + 203 := by
    rcases big_22 hp h ha (by decide) with e | e | e
    · rw [h] at e; cases e
    · exact e.1
    · cases e.2
  have e : ¬ a < σ.1 := fun q => by have : hN σ = σ.1 := rfl; omega
  refine ⟨hab, ?_, ?_⟩
  · unfold hZ cZ
    rw [if_neg e, if_neg (by omega), if_neg (by omega), if_pos hab]
  · rw [hp.2.2.2.1 a ha, hab]
    exact hE.2.2.2.2.2.2.2.2.2.2.2.2.2.1
section GM
variable {Δ : AmbT} {Γ : CtxT} {own : String} {cc : ByteArray} {nL fr lo Kc Ks kc ks pc : Nat} {L : List (Nat × Value)} {st : List Value} {σ : HpT}
theorem at_lt {φ : Nat → Nat} {H : Heap} {locs : List Loc} {s : State} (hR : Rp Δ s φ σ H locs) {a κ : Nat} (h : hK σ a = κ) (h1 : κ < 15) : a < hN σ := by
  rcases hK_big hR.2.2.2.2.1 h (by omega) with q | q
  · exact q
  · by_cases e : a < σ.1
    · exact e
    · exfalso
      unfold hK cK at h
      rw [if_neg e, if_neg (by omega)] at h
      repeat' split at h
      all_goals omega
theorem at_lt2 {φ : Nat → Nat} {H : Heap} {locs : List Loc} {s : State} (hR : Rp Δ s φ σ H locs) {a κ : Nat} (h : hK σ a = κ) (h1 : κ ≠ 15) (h2 : κ ≠ 22) (h3 : κ ≠ 99) (h4 : κ ≠ 20) (h5 : κ ≠ 24) (h6 : κ ≠ 16) : a < hN σ := by
  rcases hK_big hR.2.2.2.2.1 h (by omega) with q | q
  · exact q
  · by_cases e : a < σ.1
    · exact e
    · exfalso
      unfold hK cK at h
      rw [if_neg e, if_neg (by omega)] at h
      repeat' split at h
      all_goals omega
theorem g_getI (B : Bd Δ Γ own cc nL fr lo Kc Ks) {r : Option Nat} {v : Int32} {idx κ k : Nat} {ty : FieldType} {fin : Bool} (f : Fl own idx κ k ty fin) (ht : fT κ k = 0 ∧ κ < 15) (d : decode cc pc = .ok (.getfield idx, 3)) (h : gI σ r κ k = some v) (kk : GW Δ Γ kc ks (pc + 3) L (.int v :: st) σ) : GW Δ Γ kc ks pc L (va_rf r :: st) σ := fun φ H locs ls hp hst hL hl => by
  obtain ⟨a, rfl, hk, rfl⟩ := gI_s h
  obtain ⟨C, T, N, ty0, f1, f2, f3, f4, f5, -⟩ := f
  have ha := at_lt hp hk ht.2
  have e := ws_at (aC := Δ.2.1) (φ := φ) ha
  rw [entC hk (by omega)] at e
  exact va_get B.1 B.2.1 B.2.2.2.2.1 f4 B.2.2.2.1 B.2.2.2.2.2.1 hp.1 a e f1 k f2 (B.2.2.2.2.1 _ f5) (fun _ q => q) (v := .int (hI σ a k)) (by rw [fl_at (by omega)]; unfold fv; rw [if_pos ht.1]) d (kk φ H locs ls hp (SC.c (v := .int _) True.intro hst.t) hL hl)
theorem g_getJ (B : Bd Δ Γ own cc nL fr lo Kc Ks) {r : Option Nat} {v : Int64} {idx κ k : Nat} {ty : FieldType} {fin : Bool} (f : Fl own idx κ k ty fin) (ht : fT κ k = 1 ∧ κ < 15) (d : decode cc pc = .ok (.getfield idx, 3)) (h : gJ σ r κ k = some v) (kk : GW Δ Γ kc ks (pc + 3) L (.long v :: st) σ) : GW Δ Γ kc ks pc L (va_rf r :: st) σ := fun φ H locs ls hp hst hL hl => by
  obtain ⟨a, rfl, hk, rfl⟩ := gJ_s h
  obtain ⟨C, T, N, ty0, f1, f2, f3, f4, f5, -⟩ := f
  have ha := at_lt hp hk ht.2
  have e := ws_at (aC := Δ.2.1) (φ := φ) ha
  rw [entC hk (by omega)] at e
  exact va_get B.1 B.2.1 B.2.2.2.2.1 f4 B.2.2.2.1 B.2.2.2.2.2.1 hp.1 a e f1 k f2 (B.2.2.2.2.1 _ f5) (fun _ q => q) (v := .long (hJ σ a k)) (by rw [fl_at (by omega)]; unfold fv; rw [if_neg (by omega), if_pos ht.1]) d (kk φ H locs ls hp (SC.c (v := .long _) True.intro hst.t) hL hl)
theorem CL_hR {σ : HpT} (hw : WFh σ) {a k : Nat} (ha : a < hN σ) : CL σ (va_rf (hR σ a k)) := by
  cases e : hR σ a k with
  | none => trivial
  | some j => exact hw.2.1 a k j ha e
theorem g_getR (B : Bd Δ Γ own cc nL fr lo Kc Ks) {r v : Option Nat} {idx κ k : Nat} {ty : FieldType} {fin : Bool} (f : Fl own idx κ k ty fin) (ht : fT κ k = 2 ∧ κ < 15) (d : decode cc pc = .ok (.getfield idx, 3)) (h : gR σ r κ k = some v) (kk : GW Δ Γ kc ks (pc + 3) L (va_rf v :: st) σ) : GW Δ Γ kc ks pc L (va_rf r :: st) σ := fun φ H locs ls hp hst hL hl => by
  obtain ⟨a, rfl, hk, rfl⟩ := gR_s h
  obtain ⟨C, T, N, ty0, f1, f2, f3, f4, f5, -⟩ := f
  have ha := at_lt hp hk ht.2
  have e := ws_at (aC := Δ.2.1) (φ := φ) ha
  rw [entC hk (by omega)] at e
  exact va_get B.1 B.2.1 B.2.2.2.2.1 f4 B.2.2.2.1 B.2.2.2.2.2.1 hp.1 a e f1 k f2 (B.2.2.2.2.1 _ f5) (fun _ q => q) (v := en φ (va_rf (hR σ a k))) (by rw [fl_at (by omega), en_rf]; unfold fv; rw [if_neg (by omega), if_neg (by omega)]) d (kk φ H locs ls hp (SC.c (CL_hR hp.2.2.2.2.1 ha) hst.t) hL hl)
theorem g_putI (B : Bd Δ Γ own cc nL fr lo Kc Ks) {r : Option Nat} {x : Int32} {σ' : HpT} {idx κ k : Nat} (f : Fl own idx κ k .int false) (ht : fT κ k = 0 ∧ κ < 16) (d : decode cc pc = .ok (.putfield idx, 3)) (h : pI σ r κ k x = some σ') (kk : GW Δ Γ kc ks (pc + 3) L st σ') : GW Δ Γ kc ks pc L (.int x :: va_rf r :: st) σ := fun φ H locs ls hp hst hL hl => by
  obtain ⟨a, rfl, hk, ha, rfl⟩ := pI_s h
  obtain ⟨C, T, N, ty0, f1, f2, f3, f4, f5, f6, f7, f8, f9, f10, f11⟩ := f
  have e := ws_at (aC := Δ.2.1) (φ := φ) ha
  rw [entC hk (by omega)] at e
  refine va_put B.1 B.2.1 B.2.2.2.2.1 f4 ty0 f6 f7 B.2.2.2.1 B.2.2.2.2.2.1 hp.1 hp.2.1 hp.2.2.1 a e f1 k f2 (B.2.2.2.2.1 _ f5) (fun _ q => q) f9 f8 (hn := rfl) (hfit := rfl) (by rw [fl_len]; omega) d (fun H1 locs1 hP hD hS => ?_)
  exact kk φ H1 locs1 ls (Rp_set hp rfl rfl (fun j _ => ent_wI x ha j) ((entC (σ := wI σ a k x) (κ := κ) hk (by omega)).trans (congrArg (fun l => Sum.inr (κ, l)) (fl_wI x ha ht.1))) (WF_wI hp.2.2.2.2.1 x ha (fun q => by omega)) hP hD hS) (CL_n rfl hst.t.t) (LC_n rfl hL) hl
theorem g_putZ (B : Bd Δ Γ own cc nL fr lo Kc Ks) {r : Option Nat} {x : Int32} {σ' : HpT} {idx κ k : Nat} (f : Fl own idx κ k .boolean false) (ht : fT κ k = 0 ∧ κ < 16) (d : decode cc pc = .ok (.putfield idx, 3)) (h : pZ σ r κ k x = some σ') (kk : GW Δ Γ kc ks (pc + 3) L st σ') : GW Δ Γ kc ks pc L (.int x :: va_rf r :: st) σ := fun φ H locs ls hp hst hL hl => by
  obtain ⟨hx, h⟩ := pZ_s h
  obtain ⟨a, rfl, hk, ha, rfl⟩ := pI_s h
  obtain ⟨C, T, N, ty0, f1, f2, f3, f4, f5, f6, f7, f8, f9, f10, f11⟩ := f
  have e := ws_at (aC := Δ.2.1) (φ := φ) ha
  rw [entC hk (by omega)] at e
  refine va_put B.1 B.2.1 B.2.2.2.2.1 f4 ty0 f6 f7 B.2.2.2.1 B.2.2.2.2.2.1 hp.1 hp.2.1 hp.2.2.1 a e f1 k f2 (B.2.2.2.2.1 _ f5) (fun _ q => q) f9 f8 (hn := by rcases hx with e | e <;> rw [e] <;> rfl) (hfit := by rcases hx with e | e <;> rw [e] <;> rfl) (by rw [fl_len]; omega) d (fun H1 locs1 hP hD hS => ?_)
  exact kk φ H1 locs1 ls (Rp_set hp rfl rfl (fun j _ => ent_wI x ha j) ((entC (σ := wI σ a k x) (κ := κ) hk (by omega)).trans (congrArg (fun l => Sum.inr (κ, l)) (fl_wI x ha ht.1))) (WF_wI hp.2.2.2.2.1 x ha (fun q => by omega)) hP hD hS) (CL_n rfl hst.t.t) (LC_n rfl hL) hl
theorem g_putB (B : Bd Δ Γ own cc nL fr lo Kc Ks) {r : Option Nat} {x : Int32} {σ' : HpT} {idx κ k : Nat} (f : Fl own idx κ k .byte false) (ht : fT κ k = 0 ∧ κ < 16) (d : decode cc pc = .ok (.putfield idx, 3)) (h : pB σ r κ k x = some σ') (kk : GW Δ Γ kc ks (pc + 3) L st σ') : GW Δ Γ kc ks pc L (.int x :: va_rf r :: st) σ := fun φ H locs ls hp hst hL hl => by
  obtain ⟨hx, h⟩ := pB_s h
  obtain ⟨a, rfl, hk, ha, rfl⟩ := pI_s h
  obtain ⟨C, T, N, ty0, f1, f2, f3, f4, f5, f6, f7, f8, f9, f10, f11⟩ := f
  have e := ws_at (aC := Δ.2.1) (φ := φ) ha
  rw [entC hk (by omega)] at e
  refine va_put B.1 B.2.1 B.2.2.2.2.1 f4 ty0 f6 f7 B.2.2.2.1 B.2.2.2.2.2.1 hp.1 hp.2.1 hp.2.2.1 a e f1 k f2 (B.2.2.2.2.1 _ f5) (fun _ q => q) f9 f8 (hn := by have := vp_nar_byte x; rw [hx] at this; exact nar_byte hx) (hfit := fit_byte hx) (by rw [fl_len]; omega) d (fun H1 locs1 hP hD hS => ?_)
  exact kk φ H1 locs1 ls (Rp_set hp rfl rfl (fun j _ => ent_wI x ha j) ((entC (σ := wI σ a k x) (κ := κ) hk (by omega)).trans (congrArg (fun l => Sum.inr (κ, l)) (fl_wI x ha ht.1))) (WF_wI hp.2.2.2.2.1 x ha (fun q => by omega)) hP hD hS) (CL_n rfl hst.t.t) (LC_n rfl hL) hl
theorem g_putJ (B : Bd Δ Γ own cc nL fr lo Kc Ks) {r : Option Nat} {x : Int64} {σ' : HpT} {idx κ k : Nat} (f : Fl own idx κ k .long false) (ht : fT κ k = 1 ∧ κ < 16) (d : decode cc pc = .ok (.putfield idx, 3)) (h : pJ σ r κ k x = some σ') (kk : GW Δ Γ kc ks (pc + 3) L st σ') : GW Δ Γ kc ks pc L (.long x :: va_rf r :: st) σ := fun φ H locs ls hp hst hL hl => by
  obtain ⟨a, rfl, hk, ha, rfl⟩ := pJ_s h
  obtain ⟨C, T, N, ty0, f1, f2, f3, f4, f5, f6, f7, f8, f9, f10, f11⟩ := f
  have e := ws_at (aC := Δ.2.1) (φ := φ) ha
  rw [entC hk (by omega)] at e
  refine va_put B.1 B.2.1 B.2.2.2.2.1 f4 ty0 f6 f7 B.2.2.2.1 B.2.2.2.2.2.1 hp.1 hp.2.1 hp.2.2.1 a e f1 k f2 (B.2.2.2.2.1 _ f5) (fun _ q => q) f9 f8 (hn := rfl) (hfit := rfl) (by rw [fl_len]; omega) d (fun H1 locs1 hP hD hS => ?_)
  exact kk φ H1 locs1 ls (Rp_set hp rfl rfl (fun j _ => ent_wJ x ha j) ((entC (σ := wJ σ a k x) (κ := κ) hk (by omega)).trans (congrArg (fun l => Sum.inr (κ, l)) (fl_wJ x ha ht.1))) (WF_wJ hp.2.2.2.2.1 x) hP hD hS) (CL_n rfl hst.t.t) (LC_n rfl hL) hl
theorem g_putR (B : Bd Δ Γ own cc nL fr lo Kc Ks) {r x : Option Nat} {σ' : HpT} {idx κ k : Nat} {ty : FieldType} (f : Fl own idx κ k ty false) (ht : fT κ k = 2 ∧ κ < 16) (hty : (∃ n, ty = .object n) ∨ ∃ t, ty = .array t) (d : decode cc pc = .ok (.putfield idx, 3)) (h : pR σ r κ k x = some σ') (kk : GW Δ Γ kc ks (pc + 3) L st σ') : GW Δ Γ kc ks pc L (va_rf x :: va_rf r :: st) σ := fun φ H locs ls hp hst hL hl => by
  obtain ⟨a, rfl, hk, ha, rfl⟩ := pR_s h
  obtain ⟨C, T, N, ty0, f1, f2, f3, f4, f5, f6, f7, f8, f9, f10, f11⟩ := f
  have e := ws_at (aC := Δ.2.1) (φ := φ) ha
  rw [entC hk (by omega)] at e
  have hx := CL_rf hst.h
  show W _ _ _ _ _ _ _ _ _ _ _ _ _ _ _ (F0 _ pc ls (en φ (va_rf x) :: _))
  rw [en_rf]
  refine va_put B.1 B.2.1 B.2.2.2.2.1 f4 ty0 f6 f7 B.2.2.2.1 B.2.2.2.2.2.1 hp.1 hp.2.1 hp.2.2.1 a e f1 k f2 (B.2.2.2.2.1 _ f5) (fun _ q => q) f9 f8 (hn := nar_ref hty _) (hfit := fit_ref hty _) (by rw [fl_len]; omega) d (fun H1 locs1 hP hD hS => ?_)
  exact kk φ H1 locs1 ls (Rp_set hp rfl rfl (fun j _ => ent_wR x ha j) ((entC (σ := wR σ a k x) (κ := κ) hk (by omega)).trans (congrArg (fun l => Sum.inr (κ, l)) (fl_wR x ha ht.1))) (WF_wR hp.2.2.2.2.1 x ha hx) hP hD hS) (CL_n rfl hst.t.t) (LC_n rfl hL) hl
theorem g_putIF (B : Bd Δ Γ own cc nL fr lo Kc Ks) {r : Option Nat} {x : Int32} {σ' : HpT} {idx κ k : Nat} (f : Fl own idx κ k .int true) (ht : fT κ k = 0 ∧ κ < 16) (hin : Γ.2.2.2.2.2.2.2.2.1.name = "<init>") (d : decode cc pc = .ok (.putfield idx, 3)) (h : pI σ r κ k x = some σ') (kk : GW Δ Γ kc ks (pc + 3) L st σ') : GW Δ Γ kc ks pc L (.int x :: va_rf r :: st) σ := fun φ H locs ls hp hst hL hl => by
  obtain ⟨a, rfl, hk, ha, rfl⟩ := pI_s h
  obtain ⟨C, T, N, ty0, f1, f2, f3, f4, f5, f6, f7, f8, f9, f10, f11⟩ := f
  have e := ws_at (aC := Δ.2.1) (φ := φ) ha
  rw [entC hk (by omega)] at e
  refine va_putF B.1 B.2.1 B.2.2.2.2.1 f4 ty0 f6 f7 B.2.2.2.1 B.2.2.2.2.2.1 hp.1 hp.2.1 hp.2.2.1 a e f1 k f2 (B.2.2.2.2.1 _ f5) (fun _ q => q) f9 hin (f11 rfl) f8 (hn := rfl) (hfit := rfl) (by rw [fl_len]; omega) d (fun H1 locs1 hP hD hS => ?_)
  exact kk φ H1 locs1 ls (Rp_set hp rfl rfl (fun j _ => ent_wI x ha j) ((entC (σ := wI σ a k x) (κ := κ) hk (by omega)).trans (congrArg (fun l => Sum.inr (κ, l)) (fl_wI x ha ht.1))) (WF_wI hp.2.2.2.2.1 x ha (fun q => by omega)) hP hD hS) (CL_n rfl hst.t.t) (LC_n rfl hL) hl
theorem g_putRF (B : Bd Δ Γ own cc nL fr lo Kc Ks) {r x : Option Nat} {σ' : HpT} {idx κ k : Nat} {ty : FieldType} (f : Fl own idx κ k ty true) (ht : fT κ k = 2 ∧ κ < 16) (hty : (∃ n, ty = .object n) ∨ ∃ t, ty = .array t) (hin : Γ.2.2.2.2.2.2.2.2.1.name = "<init>") (d : decode cc pc = .ok (.putfield idx, 3)) (h : pR σ r κ k x = some σ') (kk : GW Δ Γ kc ks (pc + 3) L st σ') : GW Δ Γ kc ks pc L (va_rf x :: va_rf r :: st) σ := fun φ H locs ls hp hst hL hl => by
  obtain ⟨a, rfl, hk, ha, rfl⟩ := pR_s h
  obtain ⟨C, T, N, ty0, f1, f2, f3, f4, f5, f6, f7, f8, f9, f10, f11⟩ := f
  have e := ws_at (aC := Δ.2.1) (φ := φ) ha
  rw [entC hk (by omega)] at e
  have hx := CL_rf hst.h
  show W _ _ _ _ _ _ _ _ _ _ _ _ _ _ _ (F0 _ pc ls (en φ (va_rf x) :: _))
  rw [en_rf]
  refine va_putF B.1 B.2.1 B.2.2.2.2.1 f4 ty0 f6 f7 B.2.2.2.1 B.2.2.2.2.2.1 hp.1 hp.2.1 hp.2.2.1 a e f1 k f2 (B.2.2.2.2.1 _ f5) (fun _ q => q) f9 hin (f11 rfl) f8 (hn := nar_ref hty _) (hfit := fit_ref hty _) (by rw [fl_len]; omega) d (fun H1 locs1 hP hD hS => ?_)
  exact kk φ H1 locs1 ls (Rp_set hp rfl rfl (fun j _ => ent_wR x ha j) ((entC (σ := wR σ a k x) (κ := κ) hk (by omega)).trans (congrArg (fun l => Sum.inr (κ, l)) (fl_wR x ha ht.1))) (WF_wR hp.2.2.2.2.1 x ha hx) hP hD hS) (CL_n rfl hst.t.t) (LC_n rfl hL) hl
theorem g_iald (B : Bd Δ Γ own cc nL fr lo Kc Ks) {r : Option Nat} {i : Int32} {v : Int32} (d : decode cc pc = .ok (.iaload, 1)) (h : aI σ r 20 i = some v) (kk : GW Δ Γ kc ks (pc + 1) L (.int v :: st) σ) : GW Δ Γ kc ks pc L (.int i :: va_rf r :: st) σ := fun φ H locs ls hp hst hL hl => by
  obtain ⟨a, rfl, hk, hi, rfl⟩ := aI_s h
  have kk := kk φ H locs ls hp (SC.c (v := .int _) True.intro hst.t.t) hL hl
  rcases hK_big hp.2.2.2.2.1 hk (by decide) with ha | ha
  · have e := ws_at (aC := Δ.2.1) (φ := φ) ha
    rw [entA hk (by decide)] at e
    exact va_iald B.1 B.2.1 B.2.2.2.2.2.1 hp.1 a 0 e rfl hi d kk
  · obtain ⟨-, hT⟩ := scrT hp B.2.2.2.2.2.2.2.1 hk ha
    exact va_ti B.1 B.2.1 hT hp.2.2.1 hi rfl d kk
theorem g_zald (B : Bd Δ Γ own cc nL fr lo Kc Ks) {r : Option Nat} {i : Int32} {v : Int32} (d : decode cc pc = .ok (.baload, 1)) (h : aI σ r 23 i = some v) (kk : GW Δ Γ kc ks (pc + 1) L (.int v :: st) σ) : GW Δ Γ kc ks pc L (.int i :: va_rf r :: st) σ := fun φ H locs ls hp hst hL hl => by
  obtain ⟨a, rfl, hk, hi, rfl⟩ := aI_s h
  have ha := at_lt2 hp hk (by decide) (by decide) (by decide) (by decide) (by decide) (by decide)
  have e := ws_at (aC := Δ.2.1) (φ := φ) ha
  rw [entA hk (by decide)] at e
  exact va_zald B.1 B.2.1 B.2.2.2.2.2.1 hp.1 a 3 e rfl hi d (kk φ H locs ls hp (SC.c (v := .int _) True.intro hst.t.t) hL hl)
theorem g_lald (B : Bd Δ Γ own cc nL fr lo Kc Ks) {r : Option Nat} {i : Int32} {v : Int64} (d : decode cc pc = .ok (.laload, 1)) (h : aJ σ r i = some v) (kk : GW Δ Γ kc ks (pc + 1) L (.long v :: st) σ) : GW Δ Γ kc ks pc L (.int i :: va_rf r :: st) σ := fun φ H locs ls hp hst hL hl => by
  obtain ⟨a, rfl, hk, hi, rfl⟩ := aJ_s h
  have ha := at_lt2 hp hk (by decide) (by decide) (by decide) (by decide) (by decide) (by decide)
  have e := ws_at (aC := Δ.2.1) (φ := φ) ha
  rw [entA hk (by decide)] at e
  exact va_lald B.1 B.2.1 B.2.2.2.2.2.1 hp.1 a 1 e rfl hi d (kk φ H locs ls hp (SC.c (v := .long _) True.intro hst.t.t) hL hl)
theorem g_bald (B : Bd Δ Γ own cc nL fr lo Kc Ks) {r : Option Nat} {i v : Int32} (d : decode cc pc = .ok (.baload, 1)) (h : aI σ r 22 i = some v) (kk : GW Δ Γ kc ks (pc + 1) L (.int v :: st) σ) : GW Δ Γ kc ks pc L (.int i :: va_rf r :: st) σ := fun φ H locs ls hp hst hL hl => by
  obtain ⟨a, rfl, hk, hi, rfl⟩ := aI_s h
  have kk := kk φ H locs ls hp (SC.c (v := .int _) True.intro hst.t.t) hL hl
  rcases hK_big hp.2.2.2.2.1 hk (by decide) with ha | ha
  · have e := ws_at (aC := Δ.2.1) (φ := φ) ha
    rw [entA hk (by decide)] at e
    exact va_bald B.1 B.2.1 B.2.2.2.2.2.1 hp.1 a 2 e rfl hi d kk
  · obtain ⟨hT, hz⟩ := byteT hp B.2.2.2.2.2.2.2.1 hk ha
    exact va_tb B.1 B.2.1 hT hp.2.2.1 hi rfl d kk
theorem g_ralds (B : Bd Δ Γ own cc nL fr lo Kc Ks) {r v : Option Nat} {i : Int32} {κ : Nat} {C : String} (hκ : 24 ≤ κ ∧ κ < 28) (hC : (tysOf Δ.2.1)[κ - 20]? = some (Δ.2.1 (κ - 20), .object C)) (d : decode cc pc = .ok (.aaload, 1)) (h : aR σ r κ i = some v) (kk : GW Δ Γ kc ks (pc + 1) L (va_rf v :: st) σ) : GW Δ Γ kc ks pc L (.int i :: va_rf r :: st) σ := fun φ H locs ls hp hst hL hl => by
  obtain ⟨a, rfl, hk, hi, rfl⟩ := aR_s h
  have ha : a < hN σ := by
    rcases hK_big hp.2.2.2.2.1 hk (by omega) with ha | ha
    · exact ha
    · exfalso
      rcases big_22 hp hk ha (by omega) with e | e | e
      · omega
      · obtain ⟨-, z, -⟩ := empT hp B.2.2.2.2.2.2.2.1 (hk.trans e.2) ha
        rw [z] at hi
        exact hi (Or.inr (Nat.zero_le _))
      · omega
  have e := ws_at (aC := Δ.2.1) (φ := φ) ha
  rw [entA hk (by omega)] at e
  unfold arrE at e
  rw [if_neg (by omega), if_neg (by omega), if_neg (by omega), if_neg (by omega), if_neg (by omega)] at e
  refine va_aldq B.1 B.2.1 B.2.2.2.2.2.1 hp.1 a (κ - 20) e hC hi d ?_
  have kk := kk φ H locs ls hp (SC.c (CL_hR hp.2.2.2.2.1 ha) hst.t.t) hL hl
  rw [List.map_cons, en_rf] at kk
  exact kk
theorem g_alen (B : Bd Δ Γ own cc nL fr lo Kc Ks) {r : Option Nat} {v : Int32} {κ : Nat} (hκ : 20 ≤ κ ∧ κ < 28) (d : decode cc pc = .ok (.arraylength, 1)) (h : aL σ r κ = some v) (kk : GW Δ Γ kc ks (pc + 1) L (.int v :: st) σ) : GW Δ Γ kc ks pc L (va_rf r :: st) σ := fun φ H locs ls hp hst hL hl => by
  obtain ⟨a, rfl, hk, rfl⟩ := aL_s h
  have kk := kk φ H locs ls hp (SC.c (v := .int _) True.intro hst.t) hL hl
  rcases hK_big hp.2.2.2.2.1 hk (by omega) with ha | ha
  · have e := ws_at (aC := Δ.2.1) (φ := φ) ha
    rw [entA hk hκ.1] at e
    obtain ⟨x, hx, hz⟩ := arrE_len Δ.2.1 φ σ a hκ
    rw [hx] at e
    obtain ⟨ty, hty⟩ := tys_at Δ.2.1 hκ
    exact va_alen B.1 B.2.1 B.2.2.2.2.2.1 hp.1 a (κ - 20) e hty (by rw [hz]) d kk
  · rcases big_22 hp hk ha (by omega) with hk2 | hk2 | hk2
    · obtain ⟨hT, hz⟩ := byteT hp B.2.2.2.2.2.2.2.1 hk2 ha
      exact va_tlen B.1 B.2.1 hT hp.2.2.1 rfl d kk
    · obtain ⟨-, z, hT⟩ := empT hp B.2.2.2.2.2.2.2.1 (hk.trans hk2.2) ha
      rw [z] at kk
      exact va_tlen B.1 B.2.1 hT hp.2.2.1 rfl d kk
    · obtain ⟨-, hT⟩ := scrT hp B.2.2.2.2.2.2.2.1 (hk.trans hk2.2) ha
      exact va_tlen B.1 B.2.1 hT hp.2.2.1 rfl d kk
theorem g_iast (B : Bd Δ Γ own cc nL fr lo Kc Ks) {r : Option Nat} {i : Int32} {x : Int32} {σ' : HpT} (d : decode cc pc = .ok (.iastore, 1)) (h : sI σ r i x = some σ') (kk : GW Δ Γ kc ks (pc + 1) L st σ') : GW Δ Γ kc ks pc L (.int x :: .int i :: va_rf r :: st) σ := fun φ H locs ls hp hst hL hl => by
  obtain ⟨a, rfl, hk, hi, ha, rfl⟩ := sI_s h
  have e := ws_at (aC := Δ.2.1) (φ := φ) ha
  rw [entA hk (by decide)] at e
  refine va_iast B.1 B.2.1 B.2.2.2.2.2.1 hp.1 hp.2.1 hp.2.2.1 a 0 e rfl hi d (fun H1 locs1 hP hD hS => ?_)
  skip
  exact kk φ H1 locs1 ls (Rp_set hp rfl rfl (fun j _ => ent_wI _ ha j) ((entA (σ := wI σ a i.toNatClampNeg x) (κ := 20) hk (by decide)).trans (arr_wI20 x ha)) (WF_wI hp.2.2.2.2.1 _ ha (fun q => by omega)) hP hD hS) (CL_n rfl hst.t.t.t) (LC_n rfl hL) hl
theorem g_bast (B : Bd Δ Γ own cc nL fr lo Kc Ks) {r : Option Nat} {i : Int32} {x : Int32} {σ' : HpT} (d : decode cc pc = .ok (.bastore, 1)) (h : sB σ r i x = some σ') (kk : GW Δ Γ kc ks (pc + 1) L st σ') : GW Δ Γ kc ks pc L (.int x :: .int i :: va_rf r :: st) σ := fun φ H locs ls hp hst hL hl => by
  obtain ⟨a, rfl, hk, hi, ha, rfl⟩ := sB_s h
  have e := ws_at (aC := Δ.2.1) (φ := φ) ha
  rw [entA hk (by decide)] at e
  refine va_bast B.1 B.2.1 B.2.2.2.2.2.1 hp.1 hp.2.1 hp.2.2.1 a 2 e rfl hi d (fun H1 locs1 hP hD hS => ?_)
  rw [vp_nar_byte] at hP hD
  exact kk φ H1 locs1 ls (Rp_set hp rfl rfl (fun j _ => ent_wI _ ha j) ((entA (σ := wI σ a i.toNatClampNeg x.toInt8.toInt32) (κ := 22) hk (by decide)).trans (arr_wI22 x.toInt8.toInt32 ha)) (WF_wI hp.2.2.2.2.1 _ ha (fun q => byte2 _)) hP hD hS) (CL_n rfl hst.t.t.t) (LC_n rfl hL) hl
theorem g_zast (B : Bd Δ Γ own cc nL fr lo Kc Ks) {r : Option Nat} {i : Int32} {x : Int32} {σ' : HpT} (d : decode cc pc = .ok (.bastore, 1)) (h : sZ σ r i x = some σ') (kk : GW Δ Γ kc ks (pc + 1) L st σ') : GW Δ Γ kc ks pc L (.int x :: .int i :: va_rf r :: st) σ := fun φ H locs ls hp hst hL hl => by
  obtain ⟨a, rfl, hk, hi, ha, rfl⟩ := sZ_s h
  have e := ws_at (aC := Δ.2.1) (φ := φ) ha
  rw [entA hk (by decide)] at e
  refine va_zast B.1 B.2.1 B.2.2.2.2.2.1 hp.1 hp.2.1 hp.2.2.1 a 3 e rfl hi d (fun H1 locs1 hP hD hS => ?_)
  skip
  exact kk φ H1 locs1 ls (Rp_set hp rfl rfl (fun j _ => ent_wI _ ha j) ((entA (σ := wI σ a i.toNatClampNeg (vp_nar .boolean x)) (κ := 23) hk (by decide)).trans (arr_wI23 (vp_nar .boolean x) ha)) (WF_wI hp.2.2.2.2.1 _ ha (fun q => by omega)) hP hD hS) (CL_n rfl hst.t.t.t) (LC_n rfl hL) hl
theorem g_last (B : Bd Δ Γ own cc nL fr lo Kc Ks) {r : Option Nat} {i : Int32} {x : Int64} {σ' : HpT} (d : decode cc pc = .ok (.lastore, 1)) (h : sJ σ r i x = some σ') (kk : GW Δ Γ kc ks (pc + 1) L st σ') : GW Δ Γ kc ks pc L (.long x :: .int i :: va_rf r :: st) σ := fun φ H locs ls hp hst hL hl => by
  obtain ⟨a, rfl, hk, hi, ha, rfl⟩ := sJ_s h
  have e := ws_at (aC := Δ.2.1) (φ := φ) ha
  rw [entA hk (by decide)] at e
  refine va_last B.1 B.2.1 B.2.2.2.2.2.1 hp.1 hp.2.1 hp.2.2.1 a 1 e rfl hi d (fun H1 locs1 hP hD hS => ?_)
  skip
  exact kk φ H1 locs1 ls (Rp_set hp rfl rfl (fun j _ => ent_wJ _ ha j) ((entA (σ := wJ σ a i.toNatClampNeg x) (κ := 21) hk (by decide)).trans (arr_wJ21 x ha)) (WF_wJ hp.2.2.2.2.1 _) hP hD hS) (CL_n rfl hst.t.t.t) (LC_n rfl hL) hl
theorem g_rast (B : Bd Δ Γ own cc nL fr lo Kc Ks) {r x : Option Nat} {i : Int32} {κ κ2 : Nat} {σ' : HpT} {q : vw_C} (hκ : 24 ≤ κ ∧ κ < 28) (hκ2 : κ2 < 16) (hq : gcl[κ2]? = some q) (hC : ∀ aC : Nat → ClassId, (tysOf aC)[κ - 20]? = some (aC (κ - 20), .object q.1)) (d : decode cc pc = .ok (.aastore, 1)) (h : sR σ r κ κ2 i x = some σ') (kk : GW Δ Γ kc ks (pc + 1) L st σ') : GW Δ Γ kc ks pc L (va_rf x :: .int i :: va_rf r :: st) σ := fun φ H locs ls hp hst hL hl => by
  obtain ⟨a, b, rfl, rfl, hk, hi, ha, hk2, hb, rfl⟩ := sR_s h
  have e := ws_at (aC := Δ.2.1) (φ := φ) ha
  rw [entA hk (by omega)] at e
  unfold arrE at e
  rw [if_neg (by omega), if_neg (by omega), if_neg (by omega), if_neg (by omega), if_neg (by omega)] at e
  have e2 := ws_at (aC := Δ.2.1) (φ := φ) hb
  rw [entC hk2 (by omega)] at e2
  refine va_astq B.1 B.2.1 B.2.2.2.2.2.1 hp.1 hp.2.1 hp.2.2.1 a (κ - 20) b κ2 e (hC _) e2 hq hi d (fun H1 locs1 hP hD hS => ?_)
  exact kk φ H1 locs1 ls (Rp_set hp rfl rfl (fun j _ => ent_wR _ ha j) ((entA (σ := wR σ a i.toNatClampNeg (some b)) (κ := κ) hk (by omega)).trans (arr_wR (some b) ha hκ)) (WF_wR hp.2.2.2.2.1 _ ha (fun j e => by cases e; exact Or.inl hb)) hP hD hS) (CL_n rfl hst.t.t.t) (LC_n rfl hL) hl
end GM
