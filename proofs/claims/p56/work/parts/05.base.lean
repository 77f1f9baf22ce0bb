/-- private methods of StringBuilder's class above it, chosen for a StringBuilder -/
def exW : List Cond := [.selects "java/lang/StringBuilder" yJ5_ensureCapacityInternal_d00df yJ5_ensureCapacityInternal_d00df, .selects "java/lang/StringBuilder" yJ5_newCapacity_0f7a4 yJ5_newCapacity_0f7a4, .selects "java/lang/StringBuilder" yJ5_putStringAt_47b60 yJ5_putStringAt_47b60, .selects "java/lang/StringBuilder" yJ5_inflateIfNeededFor_a7421 yJ5_inflateIfNeededFor_a7421]
def ALLw : List Cond := lw_tbl.filter goodWord ++ exW
theorem ALLw_good {w : Cond} (h : w ∈ ALLw) : goodWord w = true := by
  rcases List.mem_append.mp h with h | h
  · exact (List.mem_filter.mp h).2
  · exact List.all_eq_true.mp (show exW.all goodWord = true from rfl) w h
theorem mx0 : Cond.selects "java/lang/StringBuilder" yJ5_ensureCapacityInternal_d00df yJ5_ensureCapacityInternal_d00df ∈ ALLw := List.mem_append_right _ List.mem_cons_self
theorem mx1 : Cond.selects "java/lang/StringBuilder" yJ5_newCapacity_0f7a4 yJ5_newCapacity_0f7a4 ∈ ALLw := List.mem_append_right _ (List.mem_cons_of_mem _ List.mem_cons_self)
theorem mx2 : Cond.selects "java/lang/StringBuilder" yJ5_putStringAt_47b60 yJ5_putStringAt_47b60 ∈ ALLw := List.mem_append_right _ (List.mem_cons_of_mem _ (List.mem_cons_of_mem _ List.mem_cons_self))
theorem mx3 : Cond.selects "java/lang/StringBuilder" yJ5_inflateIfNeededFor_a7421 yJ5_inflateIfNeededFor_a7421 ∈ ALLw := List.mem_append_right _ (List.mem_cons_of_mem _ (List.mem_cons_of_mem _ (List.mem_cons_of_mem _ List.mem_cons_self)))
def nestWord : Cond → Bool
  | .methodLinkNest _ _ _ _ => true
  | .fieldLinkNest _ _ _ _ _ _ => true
  | .declares _ => true
  | .castable _ _ => true
  | .arrayOver (.object _) => true
  | _ => false
def ALLn : List Cond := lw_tbl.filter nestWord
theorem ALLn_warm {w : Cond} {s U : State} (hw : w ∈ ALLn) (hW : s.WarmedH U.vm) (h : va_Nw w s) : va_Nw w U := by
  have h2 := (List.mem_filter.mp hw).2
  cases w <;> first | exact va_Nw.warmM hW h | exact va_Nw.warmF hW h | exact va_Nw.warmD hW h | exact va_Nw.warmC hW h | exact absurd h2 Bool.false_ne_true | (rename_i t9; cases t9 <;> first | exact va_AO.moved hW.alike h | exact absurd h2 Bool.false_ne_true)
theorem mw {w : Cond} {i : Nat} (h : lw_tbl[i]? = some w) (hg : goodWord w = true) : w ∈ ALLw := List.mem_append_left _ (List.mem_filter.mpr ⟨List.mem_of_getElem? h, hg⟩)
theorem mn {w : Cond} {i : Nat} (h : lw_tbl[i]? = some w) (hg : nestWord w = true) : w ∈ ALLn := List.mem_filter.mpr ⟨List.mem_of_getElem? h, hg⟩
/-! THE CLEAN HEAP OVER THE MACHINE'S -/
def fv (φ : Nat → Nat) (σ : HpT) (i κ k : Nat) : Value := if fT κ k = 0 then .int (hI σ i k) else if fT κ k = 1 then .long (hJ σ i k) else va_rf ((hR σ i k).map φ)
def flds (φ : Nat → Nat) (σ : HpT) (i κ : Nat) : List Value := (List.range (nF κ)).map (fv φ σ i κ)
def arrE (aC : Nat → ClassId) (φ : Nat → Nat) (σ : HpT) (i κ : Nat) : va_E :=
  if κ = 20 then .inl (aC 0, hZ σ i, .inl (hI σ i)) else if κ = 21 then .inl (aC 1, hZ σ i, .inr (.inl (hJ σ i))) else if κ = 22 then .inl (aC 2, hZ σ i, .inl (hI σ i))
  else if κ = 23 then .inl (aC 3, hZ σ i, .inl (hI σ i)) else if κ = 99 then .inl (aC 4, hZ σ i, .inr (.inr (.inr (.inl (hD σ i))))) else .inl (aC (κ - 20), hZ σ i, .inr (.inr (.inr (.inr (fun k => (hR σ i k).map φ)))))
def ent (aC : Nat → ClassId) (φ : Nat → Nat) (σ : HpT) (i : Nat) : va_E := if hK σ i < 20 then .inr (hK σ i, flds φ σ i (hK σ i)) else arrE aC φ σ i (hK σ i)
def wsOf (aC : Nat → ClassId) (φ : Nat → Nat) (σ : HpT) : va_W := (List.range (hN σ)).map (fun i => (φ i, ent aC φ σ i))
abbrev tysOf (aC : Nat → ClassId) : List (ClassId × FieldType) := [(aC 0, .int), (aC 1, .long), (aC 2, .byte), (aC 3, .boolean), (aC 4, .object "java/lang/Object"), (aC 5, .object RX0), (aC 6, .object RX3), (aC 7, .object RX1)]
/-- D, the arrays' classes, where the constants lie, from where on cells are the law's own; the method's start: where its cells lie, its heap -/
abbrev AmbT : Type := va_G × (Nat → ClassId) × (Nat → Nat) × Nat × (Nat → Nat) × HpT
abbrev CtxT : Type := Program × Launch × Env × Room × State × MethodId × Array Value × List Frame × Method × Code × (State → Prop)
def en (φ : Nat → Nat) : Value → Value
  | .ref j => .ref (φ j)
  | v => v
def CLn (σ : HpT) (j : Nat) : Prop := j < hN σ ∨ BIG ≤ j
def CL (σ : HpT) : Value → Prop
  | .ref j => CLn σ j
  | _ => True
def AA (Δ : AmbT) : Nat → Prop := fun q => Δ.2.2.2.1 ≤ q
def WFh (σ : HpT) : Prop := hN σ ≤ BIG ∧ (∀ i k j, i < hN σ → hR σ i k = some j → CLn σ j) ∧ ∀ i k, hK σ i = 22 → (hI σ i k).toInt8.toInt32 = hI σ i k
def xCsLen : MethodName := ⟨"java/lang/CharSequence", "length", "()I"⟩
def xCsAt : MethodName := ⟨"java/lang/CharSequence", "charAt", "(I)C"⟩
/-- more that is given: the script, the empty row of objects, what the comparing of two rows of longs reads -/
def Ev2 (Δ : AmbT) (U : State) (H : Heap) : Prop :=
  va_T .int (Δ.2.2.1 (BIG + 204)) Δ.2.2.2.2.2.2.2.2.2.2.2.1 (fun i => .int (Δ.2.2.2.2.2.2.2.2.2.2.2.2 i)) (AA Δ) U H ∧
  va_Z "java/util/ArrayList" "DEFAULTCAPACITY_EMPTY_ELEMENTDATA" "[Ljava/lang/Object;" (.ref (Δ.2.2.1 (BIG + 203))) (AA Δ) U H ∧ va_T (.object "java/lang/Object") (Δ.2.2.1 (BIG + 203)) 0 (fun _ => .null) (AA Δ) U H ∧
  va_Z "jdk/internal/util/ArraysSupport" "U" "Ljdk/internal/misc/Unsafe;" (.ref (Δ.2.2.1 (BIG + 205))) (AA Δ) U H ∧ va_O "jdk/internal/misc/Unsafe" (Δ.2.2.1 (BIG + 205)) (AA Δ) U H ∧
  va_Z "jdk/internal/misc/Unsafe" "ARRAY_LONG_BASE_OFFSET" "I" (.int 16) (AA Δ) U H ∧ va_Z "jdk/internal/util/ArraysSupport" "LOG2_ARRAY_LONG_INDEX_SCALE" "I" (.int 3) (AA Δ) U H ∧ va_Z "jdk/internal/util/ArraysSupport" "LOG2_ARRAY_INT_INDEX_SCALE" "I" (.int 2) (AA Δ) U H ∧
  va_Fw "java/lang/String" xCsLen yJ0_length_8abf5 U ∧ va_Fw "java/lang/String" xCsAt yJ0_charAt_5068e U
theorem Ev2.moved {Δ : AmbT} {u U : State} {H : Heap} (hv : u.vm.Alike U.vm) (h : Ev2 Δ u H) : Ev2 Δ U H := by
  obtain ⟨h1, h2, h3, h4, h5, h6, h7, h8, h9, h10⟩ := h
  exact ⟨va_T.moved hv h1, va_Z.moved hv h2, va_T.moved hv h3, va_Z.moved hv h4, va_O.moved hv h5, va_Z.moved hv h6, va_Z.moved hv h7, va_Z.moved hv h8, va_Fw.moved (by decide +kernel) hv h9, va_Fw.moved (by decide +kernel) hv h10⟩
theorem Ev2.kept {Δ : AmbT} {U : State} {H H1 : Heap} (hq : ∀ a : Nat, a < H.size → ¬ AA Δ a → H1[a]? = H[a]?) (h : Ev2 Δ U H) : Ev2 Δ U H1 := by
  obtain ⟨h1, h2, h3, h4, h5, h6, h7, h8, h9, h10⟩ := h
  exact ⟨h1.kept hq, h2.kept hq, h3.kept hq, h4.kept hq, h5.kept hq, h6.kept hq, h7.kept hq, h8.kept hq, h9, h10⟩
/-- what is given of the constants: Strings, and statics that are never written -/
def Ev (Δ : AmbT) (U : State) (H : Heap) : Prop :=
  (∀ j, j < nSt → ∀ q, stT[j]? = some q → vk_R q.1 q.2.1 q.2.2 (Δ.2.2.1 (BIG + j)) U) ∧
  (∀ j, j < nSt → va_OF "java/lang/String" "coder" "B" (.int 0) (Δ.2.2.1 (BIG + j)) (AA Δ) U H ∧ va_OF "java/lang/String" "value" "[B" (.ref (Δ.2.2.1 (BIG + 100 + j))) (Δ.2.2.1 (BIG + j)) (AA Δ) U H ∧ va_O "java/lang/String" (Δ.2.2.1 (BIG + j)) (AA Δ) U H ∧ va_T .byte (Δ.2.2.1 (BIG + 100 + j)) (byS j).length (fun i => .int ((byS j).getD i 0)) (AA Δ) U H) ∧
  va_Z "java/lang/String" "COMPACT_STRINGS" "Z" (.int 1) (AA Δ) U H ∧ va_Z "java/lang/Integer" "DigitOnes" "[B" (.ref (Δ.2.2.1 (BIG + 200))) (AA Δ) U H ∧ va_Z "java/lang/Integer" "DigitTens" "[B" (.ref (Δ.2.2.1 (BIG + 201))) (AA Δ) U H ∧
  va_T .byte (Δ.2.2.1 (BIG + 200)) 100 (fun i => .int (cI (BIG + 200) i)) (AA Δ) U H ∧ va_T .byte (Δ.2.2.1 (BIG + 201)) 100 (fun i => .int (cI (BIG + 201) i)) (AA Δ) U H ∧
  (va_Z "jdk/internal/util/Preconditions" "SIOOBE_FORMATTER" "Ljava/util/function/BiFunction;" .null (AA Δ) U H ∨ va_Z "jdk/internal/util/Preconditions" "SIOOBE_FORMATTER" "Ljava/util/function/BiFunction;" (.ref (Δ.2.2.1 (BIG + 202))) (AA Δ) U H) ∧
  vx_Zq Bundle.tN "UNASSIGNED_STACK" Bundle.steD (AA Δ) U H ∧ vx_Zq Bundle.tN "SUPPRESSED_SENTINEL" Bundle.listD (AA Δ) U H ∧
  (∀ w ∈ ALLn, va_Nw w U) ∧ Ev2 Δ U H
theorem Ev.moved {Δ : AmbT} {u U : State} {H : Heap} (hW : u.WarmedH U.vm) (h : Ev Δ u H) : Ev Δ U H := by
  obtain ⟨h1, h2, h3, h4, h5, h6, h7, h8, h9, h10, h11, h12⟩ := h
  have hv := hW.alike
  exact ⟨fun j hj q hq => vk_R.warm hW (h1 j hj q hq), fun j hj => ⟨va_OF.moved hv (h2 j hj).1, va_OF.moved hv (h2 j hj).2.1, va_O.moved hv (h2 j hj).2.2.1, va_T.moved hv (h2 j hj).2.2.2⟩,
    va_Z.moved hv h3, va_Z.moved hv h4, va_Z.moved hv h5, va_T.moved hv h6, va_T.moved hv h7, h8.imp (va_Z.moved hv) (va_Z.moved hv), vx_Zq.moved hv h9, vx_Zq.moved hv h10, fun w hw => ALLn_warm hw hW (h11 w hw), h12.moved hv⟩
theorem Ev.kept {Δ : AmbT} {U : State} {H H1 : Heap} (hq : ∀ a : Nat, a < H.size → ¬ AA Δ a → H1[a]? = H[a]?) (h : Ev Δ U H) : Ev Δ U H1 := by
  obtain ⟨h1, h2, h3, h4, h5, h6, h7, h8, h9, h10, h11, h12⟩ := h
  exact ⟨h1, fun j hj => ⟨(h2 j hj).1.kept hq, (h2 j hj).2.1.kept hq, (h2 j hj).2.2.1.kept hq, (h2 j hj).2.2.2.kept hq⟩, h3.kept hq, h4.kept hq, h5.kept hq, h6.kept hq, h7.kept hq, h8.imp (fun h => h.kept hq) (fun h => h.kept hq), h9.kept hq, h10.kept hq, h11, h12.kept hq⟩
/-- a later heap: no cell gone, the same script -/
def hLe (σ0 σ : HpT) : Prop := hN σ0 ≤ hN σ ∧ σ.2.2.2.2.2.2 = σ0.2.2.2.2.2.2
theorem hLe.rf (σ : HpT) : hLe σ σ := ⟨Nat.le_refl _, rfl⟩
theorem hLe.tr {a b c : HpT} (h : hLe a b) (k : hLe b c) : hLe a c := ⟨Nat.le_trans h.1 k.1, k.2.trans h.2⟩
/-- where a walk stands: the heap H is the clean heap σ, its cells lie by φ -/
def Rp (Δ : AmbT) (s : State) (φ : Nat → Nat) (σ : HpT) (H : Heap) (locs : List Loc) : Prop :=
  va_P Δ.1 gcl (wsOf Δ.2.1 φ σ) H ∧ va_D (AA Δ) (wsOf Δ.2.1 φ σ) ∧ va_S (AA Δ) s.heap H locs ∧ (∀ j, BIG ≤ j → φ j = Δ.2.2.1 j) ∧ WFh σ ∧ (∀ j, CLn Δ.2.2.2.2.2 j → φ j = Δ.2.2.2.2.1 j) ∧ hLe Δ.2.2.2.2.2 σ
def SC (σ : HpT) (st : List Value) : Prop := ∀ v ∈ st, CL σ v
def enL (φ : Nat → Nat) (L : List (Nat × Value)) : List (Nat × Value) := L.map (fun q => (q.1, en φ q.2))
/-- THE WALK'S GOAL over the clean heap: at pc, with these locals, this stack, this heap, the method comes to its end -/
def GW (Δ : AmbT) (Γ : CtxT) (kc ks pc : Nat) (L : List (Nat × Value)) (st : List Value) (σ : HpT) : Prop :=
  ∀ (φ : Nat → Nat) (H : Heap) (locs : List Loc) (ls : Array Slot), Rp Δ Γ.2.2.2.2.1 φ σ H locs → SC σ st → (∀ q ∈ L, CL σ q.2) → lv_has ls Γ.2.2.2.2.2.2.2.2.2.1.maxLocals (enL φ L) →
    W Γ.1 Γ.2.1 Γ.2.2.1 Γ.2.2.2.1 Γ.2.2.2.2.1 Γ.2.2.2.2.2.1 Γ.2.2.2.2.2.2.1 Γ.2.2.2.2.2.2.2.1 Γ.2.2.2.2.2.2.2.2.1 Γ.2.2.2.2.2.2.2.2.2.1 H locs kc ks Γ.2.2.2.2.2.2.2.2.2.2 (F0 Γ.2.2.2.2.2.1 pc ls (st.map (en φ)))
/-- what is known throughout a method's body -/
def Bd (Δ : AmbT) (Γ : CtxT) (own : String) (cc : ByteArray) (nL fr lo Kc Ks : Nat) : Prop :=
  Γ.1.tables.exec = Jvm.exec ∧ Γ.2.2.2.2.2.2.2.2.2.1.code = cc ∧ Γ.2.2.2.2.2.2.2.2.2.1.maxLocals = nL ∧ Γ.2.2.2.2.1.vm.findClass own = some Γ.2.2.2.2.2.1.cls ∧ (∀ w ∈ ALLw, w.before Γ.2.2.2.2.2.2.1 Γ.2.2.2.2.1 = true) ∧
  va_K Δ.1 gcl (tysOf Δ.2.1) Γ.2.2.2.2.1 ∧ Δ.2.2.2.1 ≤ Γ.2.2.2.2.1.heap.size ∧ Ev Δ Γ.2.2.2.2.1 Γ.2.2.2.2.1.heap ∧ Γ.2.2.2.1.frames = fr ∧ Γ.2.2.2.1.locals = lo ∧ Γ.2.2.2.1.cells = Kc ∧ Γ.2.2.2.1.slots = Ks ∧ Γ.2.2.2.2.2.2.2.2.1.locks = false ∧ Γ.2.1.stackTraces = false
/-! the lists of it -/
theorem ws_at {aC : Nat → ClassId} {φ : Nat → Nat} {σ : HpT} {i : Nat} (h : i < hN σ) : (wsOf aC φ σ)[i]? = some (φ i, ent aC φ σ i) := by
  unfold wsOf
  rw [List.getElem?_map, List.getElem?_range h]
  rfl
theorem ws_len {aC : Nat → ClassId} {φ : Nat → Nat} {σ : HpT} : (wsOf aC φ σ).length = hN σ := by simp [wsOf]
theorem fl_at {φ : Nat → Nat} {σ : HpT} {i κ k : Nat} (h : k < nF κ) : (flds φ σ i κ)[k]? = some (fv φ σ i κ k) := by
  unfold flds
  rw [List.getElem?_map, List.getElem?_range h]
  rfl
theorem fl_len {φ : Nat → Nat} {σ : HpT} {i κ : Nat} : (flds φ σ i κ).length = nF κ := by simp [flds]
theorem rg_set {α : Type} (n i : Nat) (f : Nat → α) (x : α) : ((List.range n).map f).set i x = (List.range n).map (fun j => if j = i then x else f j) := by
  apply List.ext_getElem?
  intro j
  by_cases hj : j < n
  · by_cases e : j = i
    · subst e
      rw [List.getElem?_set_self (by simpa using hj), List.getElem?_map, List.getElem?_range hj]
      simp
    · rw [List.getElem?_set_ne (Ne.symm e), List.getElem?_map, List.getElem?_map, List.getElem?_range hj]
      simp [e]
  · rw [List.getElem?_eq_none (by simp; omega), List.getElem?_eq_none (by simp; omega)]
/-- one cell is another, the others as before -/
theorem ws_set {aC : Nat → ClassId} {φ : Nat → Nat} {σ σ' : HpT} {i : Nat} {e : va_E} (hn : hN σ' = hN σ) (ho : ∀ j, j < hN σ → j ≠ i → ent aC φ σ' j = ent aC φ σ j) (hi : i < hN σ → ent aC φ σ' i = e) : (wsOf aC φ σ).set i (φ i, e) = wsOf aC φ σ' := by
  unfold wsOf
  rw [rg_set, hn]
  apply List.map_congr_left
  intro j hj
  have hj : j < hN σ := List.mem_range.mp hj
  by_cases h : j = i
  · subst h
    rw [if_pos rfl, hi hj]
  · rw [if_neg h, ho j hj h]
theorem ws_push {aC : Nat → ClassId} {φ φ' : Nat → Nat} {σ σ' : HpT} {e : va_E} {q : Nat} (hn : hN σ' = hN σ + 1) (ho : ∀ j, j < hN σ → φ' j = φ j ∧ ent aC φ' σ' j = ent aC φ σ j) (hq : φ' (hN σ) = q) (hi : ent aC φ' σ' (hN σ) = e) : wsOf aC φ σ ++ [(q, e)] = wsOf aC φ' σ' := by
  unfold wsOf
  rw [hn, List.range_succ, List.map_append, List.map_cons, List.map_nil, hq, hi]
  congr 1
  apply List.map_congr_left
  intro j hj
  obtain ⟨h1, h2⟩ := ho j (List.mem_range.mp hj)
  rw [h1, h2]
theorem entC {aC : Nat → ClassId} {φ : Nat → Nat} {σ : HpT} {i κ : Nat} (h : hK σ i = κ) (hκ : κ < 20) : ent aC φ σ i = .inr (κ, flds φ σ i κ) := by
  unfold ent
  rw [h, if_pos hκ]
theorem entA {aC : Nat → ClassId} {φ : Nat → Nat} {σ : HpT} {i κ : Nat} (h : hK σ i = κ) (hκ : 20 ≤ κ) : ent aC φ σ i = arrE aC φ σ i κ := by
  unfold ent
  rw [h, if_neg (by omega)]
/-- an entry speaks of its own cell alone -/
theorem ent_same {aC : Nat → ClassId} {φ φ' : Nat → Nat} {σ σ' : HpT} {i : Nat} (h1 : hK σ' i = hK σ i) (h2 : hZ σ' i = hZ σ i) (h3 : ∀ k, hI σ' i k = hI σ i k) (h4 : ∀ k, hJ σ' i k = hJ σ i k) (h5 : ∀ k, (hR σ' i k).map φ' = (hR σ i k).map φ) (h6 : ∀ k, hD σ' i k = hD σ i k) : ent aC φ' σ' i = ent aC φ σ i := by
  have e3 : hI σ' i = hI σ i := funext h3
  have e4 : hJ σ' i = hJ σ i := funext h4
  have e5 : (fun k => (hR σ' i k).map φ') = (fun k => (hR σ i k).map φ) := funext h5
  have e6 : hD σ' i = hD σ i := funext h6
  have e7 : ∀ κ, flds φ' σ' i κ = flds φ σ i κ := by
    intro κ
    unfold flds
    apply List.map_congr_left
    intro k _
    unfold fv
    rw [h3, h4, h5]
  unfold ent arrE
  rw [h1, h2, e3, e4, e5, e6, e7]
theorem BIG_pos : 0 < BIG := by decide
theorem hK_big {σ : HpT} {i κ : Nat} (hw : WFh σ) (h : hK σ i = κ) (h2 : κ ≠ 99) : i < hN σ ∨ BIG ≤ i := by
  by_cases a : i < σ.1
  · exact Or.inl a
  · by_cases b : BIG ≤ i
    · exact Or.inr b
    · unfold hK cK at h
      rw [if_neg a, if_pos (by omega)] at h
      exact absurd h.symm h2
theorem en_of {φ φ' : Nat → Nat} {σ : HpT} {v : Value} (h : ∀ j, CLn σ j → φ' j = φ j) (hv : CL σ v) : en φ' v = en φ v := by
  cases v with
  | ref j => exact congrArg Value.ref (h j hv)
  | _ => rfl
theorem en_rf (φ : Nat → Nat) (r : Option Nat) : en φ (va_rf r) = va_rf (r.map φ) := by cases r <;> rfl
theorem en_cat (φ : Nat → Nat) (v : Value) : (en φ v).category = v.category := by cases v <;> rfl
theorem CL.mono {σ σ' : HpT} {v : Value} (h : hN σ ≤ hN σ') (hv : CL σ v) : CL σ' v := by
  cases v with
  | ref j =>
    rcases hv with a | a
    · exact Or.inl (Nat.lt_of_lt_of_le a h)
    · exact Or.inr a
  | _ => trivial
