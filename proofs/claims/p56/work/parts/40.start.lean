/-! WHAT IS GIVEN AT THE LAW'S ENTRY -/
def sbq : List Cond → List Cond → Bool
  | [], _ => true
  | _ :: _, [] => false
  | a :: as, b :: bs => if a = b then sbq as bs else sbq (a :: as) bs
theorem sbq_mem : ∀ (bs as : List Cond), sbq as bs = true → ∀ c ∈ as, c ∈ bs := by
  intro bs
  induction bs with
  | nil =>
    intro as h c hc
    cases as with
    | nil => exact hc
    | cons a as => cases h
  | cons b bs ih =>
    intro as h c hc
    cases as with
    | nil => exact absurd hc List.not_mem_nil
    | cons a as =>
      unfold sbq at h
      split at h
      · rename_i e
        rcases List.mem_cons.mp hc with q | q
        · rw [q, e]; exact List.mem_cons_self
        · exact List.mem_cons_of_mem _ (ih as h c q)
      · exact List.mem_cons_of_mem _ (ih (a :: as) h c hc)
def sTm (j : Nat) : Term := match stT[j]? with
  | some q => .string q.1 q.2.1
  | none => .string "" 0
abbrev sVl (j : Nat) : Term := .field (sTm j) "java/lang/String" "value" "[B"
def sCs (j : Nat) : List Cond := [.exactly (sTm j) "java/lang/String", .eq (.field (sTm j) "java/lang/String" "coder" "B") (.int 0), .arrayOf (sVl j) .byte, .eq (.length (sVl j)) (.int (Int32.ofNat (byS j).length))] ++ (List.range (byS j).length).map (fun i => .eq (.elem (sVl j) (.int (Int32.ofNat i))) (.int ((byS j).getD i 0)))
def dCs (n : String) (a : Nat) : List Cond := [.arrayOf (.static "java/lang/Integer" n "[B") .byte, .eq (.length (.static "java/lang/Integer" n "[B")) (.int (Int32.ofNat 100))] ++ (List.range 100).map (fun i => .eq (.elem (.static "java/lang/Integer" n "[B") (.int (Int32.ofNat i))) (.int (cI a i)))
def hCs : List Cond := [.eq (.static "java/lang/String" "COMPACT_STRINGS" "Z") (.int 1), .isRef (.static Bundle.tN "UNASSIGNED_STACK" Bundle.steD), .isRef (.static Bundle.tN "SUPPRESSED_SENTINEL" Bundle.listD), .isRef (.static "jdk/internal/util/Preconditions" "SIOOBE_FORMATTER" "Ljava/util/function/BiFunction;")]
def eCs : List Cond := [.arrayOf (.static "java/util/ArrayList" "DEFAULTCAPACITY_EMPTY_ELEMENTDATA" "[Ljava/lang/Object;") (.object "java/lang/Object"), .eq (.length (.static "java/util/ArrayList" "DEFAULTCAPACITY_EMPTY_ELEMENTDATA" "[Ljava/lang/Object;")) (.int 0)]
def uCs : List Cond := [.eq (.static "jdk/internal/misc/Unsafe" "ARRAY_LONG_BASE_OFFSET" "I") (.int 16), .eq (.static "jdk/internal/util/ArraysSupport" "LOG2_ARRAY_LONG_INDEX_SCALE" "I") (.int 3), .exactly (.static "jdk/internal/util/ArraysSupport" "U" "Ljdk/internal/misc/Unsafe;") "jdk/internal/misc/Unsafe", .eq (.static "jdk/internal/util/ArraysSupport" "LOG2_ARRAY_INT_INDEX_SCALE" "I") (.int 2)]
def sPm : List Nat := [0, 1, 2, 3, 4, 5, 6, 7, 8, 9, 10, 11, 12, 13, 14, 15, 16, 17, 18, 19, 20, 21, 22, 23, 24, 25, 26, 27, 28, 29, 30, 31, 32, 33, 34, 35, 36, 37, 38, 39, 40, 41, 42, 43, 44, 45, 46]
def needs : List Cond := (hCs ++ eCs) ++ (dCs "DigitOnes" (BIG + 200) ++ (dCs "DigitTens" (BIG + 201) ++ (uCs ++ sPm.flatMap sCs)))
set_option maxRecDepth 1000000 in
theorem needs_sub : sbq needs (flatC (Cond.and given_1 narrow_1)) = true := by decide +kernel
theorem needs_ok {A : Array Value} {s : State} (h : (Cond.and given_1 narrow_1).before A s = true) : ∀ c ∈ needs, c.before A s = true := fun c hc => flat_of_before _ h c (sbq_mem _ _ needs_sub c hc)
theorem sPm_all : ∀ j, j < 47 → j ∈ sPm := by decide +kernel
section ST
variable {A9 : Array Value} {s : State} {A : Nat → Prop}
theorem nd_h (h : ∀ c ∈ needs, c.before A9 s = true) {c : Cond} (hc : c ∈ hCs) : c.before A9 s = true := h c (List.mem_append_left _ (List.mem_append_left _ hc))
theorem nd_e (h : ∀ c ∈ needs, c.before A9 s = true) {c : Cond} (hc : c ∈ eCs) : c.before A9 s = true := h c (List.mem_append_left _ (List.mem_append_right _ hc))
theorem nd_o (h : ∀ c ∈ needs, c.before A9 s = true) {c : Cond} (hc : c ∈ dCs "DigitOnes" (BIG + 200)) : c.before A9 s = true := h c (List.mem_append_right _ (List.mem_append_left _ hc))
theorem nd_t (h : ∀ c ∈ needs, c.before A9 s = true) {c : Cond} (hc : c ∈ dCs "DigitTens" (BIG + 201)) : c.before A9 s = true := h c (List.mem_append_right _ (List.mem_append_right _ (List.mem_append_left _ hc)))
theorem nd_n (h : ∀ c ∈ needs, c.before A9 s = true) {c : Cond} (hc : c ∈ uCs) : c.before A9 s = true := h c (List.mem_append_right _ (List.mem_append_right _ (List.mem_append_right _ (List.mem_append_left _ hc))))
theorem nd_s (h : ∀ c ∈ needs, c.before A9 s = true) {j : Nat} (hj : j < 47) {c : Cond} (hc : c ∈ sCs j) : c.before A9 s = true := h c (List.mem_append_right _ (List.mem_append_right _ (List.mem_append_right _ (List.mem_append_right _ (List.mem_flatMap.mpr ⟨j, sPm_all j hj, hc⟩)))))
theorem byS_small : ∀ j, j < 47 → (byS j).length < 2 ^ 31 := by decide +kernel
/-- the Strings and their bytes -/
theorem st_str (h : ∀ c ∈ needs, c.before A9 s = true) (hA : ∀ a : Nat, a < s.heap.size → ¬ A a) (j : Nat) (hj : j < 47) : ∃ q : Nat × Nat, (sTm j).eval A9 s none [] s = some (.ref q.1) ∧ va_OF "java/lang/String" "coder" "B" (.int 0) q.1 A s s.heap ∧ va_OF "java/lang/String" "value" "[B" (.ref q.2) q.1 A s s.heap ∧ va_O "java/lang/String" q.1 A s s.heap ∧ va_T .byte q.2 (byS j).length (fun i => .int ((byS j).getD i 0)) A s s.heap := by
  have m : ∀ {c : Cond}, c ∈ ([.exactly (sTm j) "java/lang/String", .eq (.field (sTm j) "java/lang/String" "coder" "B") (.int 0), .arrayOf (sVl j) .byte, .eq (.length (sVl j)) (.int (Int32.ofNat (byS j).length))] : List Cond) → c.before A9 s = true := fun hc => nd_s h hj (List.mem_append_left _ hc)
  obtain ⟨a, c, cA, kA, q1, q2, q3, q4, q5, q6, -⟩ := Cond.exactly_spec (args := A9) (first := s) (o := none) (s := s) (idx := []) (t := sTm j) (cls := "java/lang/String") (m (by simp))
  obtain ⟨t, ht, hT⟩ := va_Tof (f := fun i => .int ((byS j).getD i 0)) (A := A) (byS_small j hj) (m (c := .arrayOf (sVl j) .byte) (by simp)) (va_eqt (m (c := .eq (.length (sVl j)) (.int (Int32.ofNat (byS j).length))) (by simp))) (fun i hi => va_eqt (nd_s h hj (List.mem_append_right _ (List.mem_map.mpr ⟨i, List.mem_range.mpr hi, rfl⟩)))) hA
  exact ⟨(a, t), q1, vk_OFof q1 (va_eqt (m (c := .eq (.field (sTm j) "java/lang/String" "coder" "B") (.int 0)) (by simp))) hA, vk_OFof q1 ht hA, ⟨cA, q3, q5, by rw [q6]; exact q2, hA a (Array.getElem?_eq_some_iff.mp q3).1⟩, hT⟩
theorem st_dig (n : String) (z : Nat) (h : ∀ c ∈ dCs n z, c.before A9 s = true) (hl : (Cond.laysStatic "java/lang/Integer" n "[B").before A9 s = true) (hi : (Cond.initialized "java/lang/Integer").before A9 s = true) (hA : ∀ a : Nat, a < s.heap.size → ¬ A a) : ∃ t : Nat, va_Z "java/lang/Integer" n "[B" (.ref t) A s s.heap ∧ va_T .byte t 100 (fun i => .int (cI z i)) A s s.heap := by
  obtain ⟨t, ht, hT⟩ := va_Tof (tm := .static "java/lang/Integer" n "[B") (ty := .byte) (N := 100) (f := fun i => .int (cI z i)) (A := A) (by decide) (h _ (List.mem_append_left _ (by simp))) (va_eqt (h (.eq (.length (.static "java/lang/Integer" n "[B")) (.int (Int32.ofNat 100))) (List.mem_append_left _ (by simp)))) (fun i hi => va_eqt (h _ (List.mem_append_right _ (List.mem_map.mpr ⟨i, List.mem_range.mpr hi, rfl⟩)))) hA
  exact ⟨t, va_Zof hl hi ht hA, hT⟩
/-- array classes -/
theorem st_arr {ty : FieldType} (h : (Cond.arrayClass ty).before A9 s = true) (ho : ∀ C, ty ≠ .object C) : ∃ c : ClassId, ArrOfT s c ty ∧ va_RA s c ty := by
  obtain ⟨c, k, comp, h1, h2, h3⟩ := Cond.arrayClass_spec h
  refine ⟨c, fun n z => ⟨fun k h => (by cases h), k, h2, comp, h3⟩, ?_⟩
  cases ty with
  | object C => exact absurd rfl (ho C)
  | _ => exact h1
theorem st_arrO {C : String} (h : (Cond.arrayOver (.object C)).before A9 s = true) : ∃ c : ClassId, ArrOfT s c (.object C) ∧ va_RA s c (.object C) := by
  obtain ⟨comp, c, k, h1, h2, h3, h4, h5⟩ := Cond.arrayOver_spec h
  exact ⟨c, fun n z => ⟨fun k h => (by cases h), k, h3, comp, h4⟩, k, comp, h3, h4, h1, h5⟩
theorem st_allw (hts : ∀ w ∈ lw_tbl, w.before A9 s = true) : ∀ w ∈ ALLw, w.before A9 s = true := by
  intro w h
  rcases List.mem_append.mp h with h | h
  · exact hts w (List.mem_filter.mp h).1
  · simp only [exW, List.mem_cons, List.not_mem_nil, or_false] at h
    rcases h with e | e | e | e
    · rw [e]
      exact sel_sub (y0 := yJ5_isLatin1_aae02) (y := yJ5_ensureCapacityInternal_d00df) (hts _ (List.mem_of_getElem? (i := 1420) (by decide +kernel))) rfl (hts _ (List.mem_of_getElem? (i := 1418) (by decide +kernel))) (hts _ (List.mem_of_getElem? (i := 1390) (by decide +kernel))) (hts _ (List.mem_of_getElem? (i := 1391) (by decide +kernel))) (by decide +kernel)
    · rw [e]
      exact sel_sub (y0 := yJ5_isLatin1_aae02) (y := yJ5_newCapacity_0f7a4) (hts _ (List.mem_of_getElem? (i := 1420) (by decide +kernel))) rfl (hts _ (List.mem_of_getElem? (i := 1418) (by decide +kernel))) (hts _ (List.mem_of_getElem? (i := 1394) (by decide +kernel))) (hts _ (List.mem_of_getElem? (i := 1395) (by decide +kernel))) (by decide +kernel)
    · rw [e]
      exact sel_sub (y0 := yJ5_isLatin1_aae02) (y := yJ5_putStringAt_47b60) (hts _ (List.mem_of_getElem? (i := 1420) (by decide +kernel))) rfl (hts _ (List.mem_of_getElem? (i := 1418) (by decide +kernel))) (hts _ (List.mem_of_getElem? (i := 1438) (by decide +kernel))) (hts _ (List.mem_of_getElem? (i := 1439) (by decide +kernel))) (by decide +kernel)
    · rw [e]
      exact sel_sub (y0 := yJ5_isLatin1_aae02) (y := yJ5_inflateIfNeededFor_a7421) (hts _ (List.mem_of_getElem? (i := 1420) (by decide +kernel))) rfl (hts _ (List.mem_of_getElem? (i := 1418) (by decide +kernel))) (hts _ (List.mem_of_getElem? (i := 1442) (by decide +kernel))) (hts _ (List.mem_of_getElem? (i := 1443) (by decide +kernel))) (by decide +kernel)
theorem st_alln (hts : ∀ w ∈ lw_tbl, w.before A9 s = true) : ∀ w ∈ ALLn, va_Nw w s := by
  intro w h
  obtain ⟨h1, h2⟩ := List.mem_filter.mp h
  have h3 := hts w h1
  cases w <;> first | exact va_Nw.of rfl h3 | exact absurd h2 Bool.false_ne_true | (rename_i t9; cases t9 <;> first | exact va_AO.of h3 | exact absurd h2 Bool.false_ne_true)
def tyL : List FieldType := [.int, .long, .byte, .boolean, .object "java/lang/Object", .object RX0, .object RX3, .object RX1]
theorem st_K (hts : ∀ w ∈ lw_tbl, w.before A9 s = true) : ∃ (D : va_G) (aC : Nat → ClassId), va_K D gcl (tysOf aC) s := by
  have hA := st_allw hts
  have h0 : ∀ k : Nat, ∃ r : ClassId × (Nat → Nat), ∀ q, gcl[k]? = some q → u_Kn s q.1 q.2.1 q.2.2 r.1 r.2 := by
    intro k
    match k with
    | 0 => exact (u_known (C := RX0) (T := TX0) (N := 8) (n := 8) hA lay_0 (hts _ (List.mem_of_getElem? (i := 211) (by decide +kernel)))).elim (fun cC h => h.elim (fun iS h => ⟨(cC, iS), fun q e => by cases e; exact h⟩))
    | 1 => exact (u_known (C := RX1) (T := TX1) (N := 12) (n := 12) hA lay_1 (hts _ (List.mem_of_getElem? (i := 84) (by decide +kernel)))).elim (fun cC h => h.elim (fun iS h => ⟨(cC, iS), fun q e => by cases e; exact h⟩))
    | 2 => exact (u_known (C := RX2) (T := TX2) (N := 4) (n := 4) hA lay_2 (hts _ (List.mem_of_getElem? (i := 162) (by decide +kernel)))).elim (fun cC h => h.elim (fun iS h => ⟨(cC, iS), fun q e => by cases e; exact h⟩))
    | 3 => exact (u_known (C := RX3) (T := TX3) (N := 5) (n := 5) hA lay_3 (hts _ (List.mem_of_getElem? (i := 184) (by decide +kernel)))).elim (fun cC h => h.elim (fun iS h => ⟨(cC, iS), fun q e => by cases e; exact h⟩))
    | 4 => exact (u_known (C := RX4) (T := TX4) (N := 4) (n := 4) hA lay_4 (hts _ (List.mem_of_getElem? (i := 138) (by decide +kernel)))).elim (fun cC h => h.elim (fun iS h => ⟨(cC, iS), fun q e => by cases e; exact h⟩))
    | 5 => exact (u_known (C := RX5) (T := TX5) (N := 5) (n := 5) hA lay_5 (hts _ (List.mem_of_getElem? (i := 315) (by decide +kernel)))).elim (fun cC h => h.elim (fun iS h => ⟨(cC, iS), fun q e => by cases e; exact h⟩))
    | 6 => exact (u_known (C := RX6) (T := TX6) (N := 1) (n := 1) hA lay_6 (hts _ (List.mem_of_getElem? (i := 375) (by decide +kernel)))).elim (fun cC h => h.elim (fun iS h => ⟨(cC, iS), fun q e => by cases e; exact h⟩))
    | 7 => exact (u_known (C := RX7) (T := TX7) (N := 7) (n := 7) hA lay_7 (hts _ (List.mem_of_getElem? (i := 321) (by decide +kernel)))).elim (fun cC h => h.elim (fun iS h => ⟨(cC, iS), fun q e => by cases e; exact h⟩))
    | 8 => exact (u_known (C := RX8) (T := TX8) (N := 7) (n := 7) hA lay_8 (hts _ (List.mem_of_getElem? (i := 94) (by decide +kernel)))).elim (fun cC h => h.elim (fun iS h => ⟨(cC, iS), fun q e => by cases e; exact h⟩))
    | 9 => exact (u_known (C := RX9) (T := TX9) (N := 15) (n := 15) hA lay_9 (hts _ (List.mem_of_getElem? (i := 76) (by decide +kernel)))).elim (fun cC h => h.elim (fun iS h => ⟨(cC, iS), fun q e => by cases e; exact h⟩))
    | 10 => exact (u_known (C := RX10) (T := TX10) (N := 8) (n := 8) hA lay_10 (hts _ (List.mem_of_getElem? (i := 1513) (by decide +kernel)))).elim (fun cC h => h.elim (fun iS h => ⟨(cC, iS), fun q e => by cases e; exact h⟩))
    | 11 => exact (u_known (C := RJ4) (T := TJ4) (N := 4) (n := 4) hA lay_11 (hts _ (List.mem_of_getElem? (i := 381) (by decide +kernel)))).elim (fun cC h => h.elim (fun iS h => ⟨(cC, iS), fun q e => by cases e; exact h⟩))
    | 12 => exact (u_known (C := RJx4a65c) (T := TJx4a65c) (N := 3) (n := 3) hA lay_12 (hts _ (List.mem_of_getElem? (i := 1251) (by decide +kernel)))).elim (fun cC h => h.elim (fun iS h => ⟨(cC, iS), fun q e => by cases e; exact h⟩))
    | 13 => exact (u_known (C := RX11) (T := TX11) (N := 7) (n := 7) hA lay_13 (hts _ (List.mem_of_getElem? (i := 1245) (by decide +kernel)))).elim (fun cC h => h.elim (fun iS h => ⟨(cC, iS), fun q e => by cases e; exact h⟩))
    | 14 => exact (u_known (C := RX12) (T := TX12) (N := 4) (n := 4) hA lay_14 (hts _ (List.mem_of_getElem? (i := 1668) (by decide +kernel)))).elim (fun cC h => h.elim (fun iS h => ⟨(cC, iS), fun q e => by cases e; exact h⟩))
    | 15 => exact (u_known (C := RJ0) (T := TJ0) (N := 4) (n := 4) hA lay_15 (hts _ (List.mem_of_getElem? (i := 1625) (by decide +kernel)))).elim (fun cC h => h.elim (fun iS h => ⟨(cC, iS), fun q e => by cases e; exact h⟩))
    | n + 16 => exact ⟨((0 : Nat), fun _ => 0), fun q e => by simp [gcl] at e⟩
  have h1 : ∀ k : Nat, ∃ c : ClassId, ∀ ty, tyL[k]? = some ty → ArrOfT s c ty ∧ va_RA s c ty := by
    intro k
    match k with
    | 0 => exact (st_arr (ty := .int) (hts _ (List.mem_of_getElem? (i := 135) (by decide +kernel))) (by intro C e; cases e)).elim (fun c h => ⟨c, fun q e => by cases e; exact h⟩)
    | 1 => exact (st_arr (ty := .long) (hts _ (List.mem_of_getElem? (i := 134) (by decide +kernel))) (by intro C e; cases e)).elim (fun c h => ⟨c, fun q e => by cases e; exact h⟩)
    | 2 => exact (st_arr (ty := .byte) (hts _ (List.mem_of_getElem? (i := 133) (by decide +kernel))) (by intro C e; cases e)).elim (fun c h => ⟨c, fun q e => by cases e; exact h⟩)
    | 3 => exact (st_arr (ty := .boolean) (hts _ (List.mem_of_getElem? (i := 136) (by decide +kernel))) (by intro C e; cases e)).elim (fun c h => ⟨c, fun q e => by cases e; exact h⟩)
    | 4 => exact (st_arrO (C := "java/lang/Object") (hts _ (List.mem_of_getElem? (i := 1600) (by decide +kernel)))).elim (fun c h => ⟨c, fun q e => by cases e; exact h⟩)
    | 5 => exact (st_arrO (C := RX0) (hts _ (List.mem_of_getElem? (i := 90) (by decide +kernel)))).elim (fun c h => ⟨c, fun q e => by cases e; exact h⟩)
    | 6 => exact (st_arrO (C := RX3) (hts _ (List.mem_of_getElem? (i := 92) (by decide +kernel)))).elim (fun c h => ⟨c, fun q e => by cases e; exact h⟩)
    | 7 => exact (st_arrO (C := RX1) (hts _ (List.mem_of_getElem? (i := 371) (by decide +kernel)))).elim (fun c h => ⟨c, fun q e => by cases e; exact h⟩)
    | n + 8 => exact ⟨(0 : Nat), fun q e => by simp [tyL] at e⟩
  obtain ⟨f, hf⟩ := Classical.axiomOfChoice h0
  obtain ⟨g, hg⟩ := Classical.axiomOfChoice h1
  refine ⟨(fun k => (f k).1, fun k => (f k).2), g, fun k q hq => hf k q hq, fun k q hq => ?_⟩
  match k, hq with
  | 0, hq => cases hq; exact hg 0 _ rfl
  | 1, hq => cases hq; exact hg 1 _ rfl
  | 2, hq => cases hq; exact hg 2 _ rfl
  | 3, hq => cases hq; exact hg 3 _ rfl
  | 4, hq => cases hq; exact hg 4 _ rfl
  | 5, hq => cases hq; exact hg 5 _ rfl
  | 6, hq => cases hq; exact hg 6 _ rfl
  | 7, hq => cases hq; exact hg 7 _ rfl
  | n + 8, hq => simp [tysOf] at hq
theorem st_refs (hts : ∀ w ∈ lw_tbl, w.before A9 s = true) (j : Nat) (q : String × Nat × String) (hq : stT[j]? = some q) : (Cond.stringRef q.1 q.2.1 q.2.2).before A9 s = true := by
  have hj : j < 47 := (List.getElem?_eq_some_iff.mp hq).1
  match j, hj, hq with
  | 0, _, hq => cases hq; exact hts _ (List.mem_of_getElem? (i := 510) (by decide +kernel))
  | 1, _, hq => cases hq; exact hts _ (List.mem_of_getElem? (i := 579) (by decide +kernel))
  | 2, _, hq => cases hq; exact hts _ (List.mem_of_getElem? (i := 656) (by decide +kernel))
  | 3, _, hq => cases hq; exact hts _ (List.mem_of_getElem? (i := 669) (by decide +kernel))
  | 4, _, hq => cases hq; exact hts _ (List.mem_of_getElem? (i := 670) (by decide +kernel))
  | 5, _, hq => cases hq; exact hts _ (List.mem_of_getElem? (i := 671) (by decide +kernel))
  | 6, _, hq => cases hq; exact hts _ (List.mem_of_getElem? (i := 734) (by decide +kernel))
  | 7, _, hq => cases hq; exact hts _ (List.mem_of_getElem? (i := 760) (by decide +kernel))
  | 8, _, hq => cases hq; exact hts _ (List.mem_of_getElem? (i := 790) (by decide +kernel))
  | 9, _, hq => cases hq; exact hts _ (List.mem_of_getElem? (i := 808) (by decide +kernel))
  | 10, _, hq => cases hq; exact hts _ (List.mem_of_getElem? (i := 833) (by decide +kernel))
  | 11, _, hq => cases hq; exact hts _ (List.mem_of_getElem? (i := 842) (by decide +kernel))
  | 12, _, hq => cases hq; exact hts _ (List.mem_of_getElem? (i := 880) (by decide +kernel))
  | 13, _, hq => cases hq; exact hts _ (List.mem_of_getElem? (i := 893) (by decide +kernel))
  | 14, _, hq => cases hq; exact hts _ (List.mem_of_getElem? (i := 894) (by decide +kernel))
  | 15, _, hq => cases hq; exact hts _ (List.mem_of_getElem? (i := 895) (by decide +kernel))
  | 16, _, hq => cases hq; exact hts _ (List.mem_of_getElem? (i := 921) (by decide +kernel))
  | 17, _, hq => cases hq; exact hts _ (List.mem_of_getElem? (i := 949) (by decide +kernel))
  | 18, _, hq => cases hq; exact hts _ (List.mem_of_getElem? (i := 959) (by decide +kernel))
  | 19, _, hq => cases hq; exact hts _ (List.mem_of_getElem? (i := 989) (by decide +kernel))
  | 20, _, hq => cases hq; exact hts _ (List.mem_of_getElem? (i := 1011) (by decide +kernel))
  | 21, _, hq => cases hq; exact hts _ (List.mem_of_getElem? (i := 1028) (by decide +kernel))
  | 22, _, hq => cases hq; exact hts _ (List.mem_of_getElem? (i := 1056) (by decide +kernel))
  | 23, _, hq => cases hq; exact hts _ (List.mem_of_getElem? (i := 1134) (by decide +kernel))
  | 24, _, hq => cases hq; exact hts _ (List.mem_of_getElem? (i := 1137) (by decide +kernel))
  | 25, _, hq => cases hq; exact hts _ (List.mem_of_getElem? (i := 1143) (by decide +kernel))
  | 26, _, hq => cases hq; exact hts _ (List.mem_of_getElem? (i := 1174) (by decide +kernel))
  | 27, _, hq => cases hq; exact hts _ (List.mem_of_getElem? (i := 1186) (by decide +kernel))
  | 28, _, hq => cases hq; exact hts _ (List.mem_of_getElem? (i := 1192) (by decide +kernel))
  | 29, _, hq => cases hq; exact hts _ (List.mem_of_getElem? (i := 1199) (by decide +kernel))
  | 30, _, hq => cases hq; exact hts _ (List.mem_of_getElem? (i := 1205) (by decide +kernel))
  | 31, _, hq => cases hq; exact hts _ (List.mem_of_getElem? (i := 1216) (by decide +kernel))
  | 32, _, hq => cases hq; exact hts _ (List.mem_of_getElem? (i := 1238) (by decide +kernel))
  | 33, _, hq => cases hq; exact hts _ (List.mem_of_getElem? (i := 1243) (by decide +kernel))
  | 34, _, hq => cases hq; exact hts _ (List.mem_of_getElem? (i := 1362) (by decide +kernel))
  | 35, _, hq => cases hq; exact hts _ (List.mem_of_getElem? (i := 1520) (by decide +kernel))
  | 36, _, hq => cases hq; exact hts _ (List.mem_of_getElem? (i := 1613) (by decide +kernel))
  | 37, _, hq => cases hq; exact hts _ (List.mem_of_getElem? (i := 1623) (by decide +kernel))
  | 38, _, hq => cases hq; exact hts _ (List.mem_of_getElem? (i := 1653) (by decide +kernel))
  | 39, _, hq => cases hq; exact hts _ (List.mem_of_getElem? (i := 1673) (by decide +kernel))
  | 40, _, hq => cases hq; exact hts _ (List.mem_of_getElem? (i := 1739) (by decide +kernel))
  | 41, _, hq => cases hq; exact hts _ (List.mem_of_getElem? (i := 1741) (by decide +kernel))
  | 42, _, hq => cases hq; exact hts _ (List.mem_of_getElem? (i := 1745) (by decide +kernel))
  | 43, _, hq => cases hq; exact hts _ (List.mem_of_getElem? (i := 1746) (by decide +kernel))
  | 44, _, hq => cases hq; exact hts _ (List.mem_of_getElem? (i := 1747) (by decide +kernel))
  | 45, _, hq => cases hq; exact hts _ (List.mem_of_getElem? (i := 1761) (by decide +kernel))
  | 46, _, hq => cases hq; exact hts _ (List.mem_of_getElem? (i := 1884) (by decide +kernel))
  | n + 47, hj, _ => exact absurd hj (by omega)
theorem st_Ev (hts : ∀ w ∈ lw_tbl, w.before A9 s = true) (h : ∀ c ∈ needs, c.before A9 s = true) {b L : Nat} {xs : Nat → Int32} (hX : va_X b L xs s s.heap) (hbl : b < s.heap.size) (D : va_G) (aC : Nat → ClassId) (σ : HpT) (hσ : σ.2.2.2.2.2.2 = (L, xs)) : ∃ φ0 : Nat → Nat, φ0 (BIG + 204) = b ∧ ∀ φ, Ev (D, aC, φ0, s.heap.size, φ, σ) s s.heap := by
  have hA : ∀ a : Nat, a < s.heap.size → ¬ (fun q : Nat => s.heap.size ≤ q) a := fun a h1 h2 => Nat.not_lt.mpr h2 h1
  have h0 : ∀ j : Nat, ∃ q : Nat × Nat, j < 47 → (sTm j).eval A9 s none [] s = some (.ref q.1) ∧ va_OF "java/lang/String" "coder" "B" (.int 0) q.1 (fun q : Nat => s.heap.size ≤ q) s s.heap ∧ va_OF "java/lang/String" "value" "[B" (.ref q.2) q.1 (fun q : Nat => s.heap.size ≤ q) s s.heap ∧ va_O "java/lang/String" q.1 (fun q : Nat => s.heap.size ≤ q) s s.heap ∧ va_T .byte q.2 (byS j).length (fun i => .int ((byS j).getD i 0)) (fun q : Nat => s.heap.size ≤ q) s s.heap := by
    intro j
    by_cases hj : j < 47
    · obtain ⟨q, hq⟩ := st_str h hA j hj
      exact ⟨q, fun _ => hq⟩
    · exact ⟨(0, 0), fun q => absurd q hj⟩
  obtain ⟨f, hf⟩ := Classical.axiomOfChoice h0
  obtain ⟨t1, hz1, ht1⟩ := st_dig "DigitOnes" (BIG + 200) (fun c hc => nd_o h hc) (hts _ (List.mem_of_getElem? (i := 1484) (by decide +kernel))) (hts _ (List.mem_of_getElem? (i := 62) (by decide +kernel))) hA
  obtain ⟨t2, hz2, ht2⟩ := st_dig "DigitTens" (BIG + 201) (fun c hc => nd_t h hc) (hts _ (List.mem_of_getElem? (i := 1486) (by decide +kernel))) (hts _ (List.mem_of_getElem? (i := 62) (by decide +kernel))) hA
  have hS : ∃ t3 : Nat, va_Z "jdk/internal/util/Preconditions" "SIOOBE_FORMATTER" "Ljava/util/function/BiFunction;" .null (fun q : Nat => s.heap.size ≤ q) s s.heap ∨ va_Z "jdk/internal/util/Preconditions" "SIOOBE_FORMATTER" "Ljava/util/function/BiFunction;" (.ref t3) (fun q : Nat => s.heap.size ≤ q) s s.heap := by
    have h1 := nd_h h (c := .isRef (.static "jdk/internal/util/Preconditions" "SIOOBE_FORMATTER" "Ljava/util/function/BiFunction;")) (by simp [hCs])
    cases hv : (Term.static "jdk/internal/util/Preconditions" "SIOOBE_FORMATTER" "Ljava/util/function/BiFunction;").eval A9 s none [] s with
    | none => simp [Cond.before, Cond.holds, Cond.value, hv] at h1
    | some w =>
      have hz := va_Zof (hts _ (List.mem_of_getElem? (i := 611) (by decide +kernel))) (hts _ (List.mem_of_getElem? (i := 59) (by decide +kernel))) hv hA
      simp only [Cond.before, Cond.holds, Cond.value, hv] at h1
      cases w with
      | null => exact ⟨0, Or.inl hz⟩
      | ref a => exact ⟨a, Or.inr hz⟩
      | _ => simp at h1
  obtain ⟨t3, hS⟩ := hS
  obtain ⟨t4, ht4, hT4⟩ := va_Tof (tm := .static "java/util/ArrayList" "DEFAULTCAPACITY_EMPTY_ELEMENTDATA" "[Ljava/lang/Object;") (ty := .object "java/lang/Object") (N := 0) (f := fun _ => .null) (A := fun q : Nat => s.heap.size ≤ q) (by decide) (nd_e h (c := .arrayOf (.static "java/util/ArrayList" "DEFAULTCAPACITY_EMPTY_ELEMENTDATA" "[Ljava/lang/Object;") (.object "java/lang/Object")) (by simp [eCs])) (va_eqt (nd_e h (c := .eq (.length (.static "java/util/ArrayList" "DEFAULTCAPACITY_EMPTY_ELEMENTDATA" "[Ljava/lang/Object;")) (.int 0)) (by simp [eCs]))) (fun i hi => absurd hi (Nat.not_lt_zero i)) hA
  obtain ⟨t5, c5, cA5, kA5, q1, q2, q3, q4, q5, q6, -⟩ := Cond.exactly_spec (args := A9) (first := s) (o := none) (s := s) (idx := []) (t := .static "jdk/internal/util/ArraysSupport" "U" "Ljdk/internal/misc/Unsafe;") (cls := "jdk/internal/misc/Unsafe") (nd_n h (c := .exactly (.static "jdk/internal/util/ArraysSupport" "U" "Ljdk/internal/misc/Unsafe;") "jdk/internal/misc/Unsafe") (by simp [uCs]))
  obtain ⟨scr, hs1, hs2, hs3, hs4, hs5⟩ := hX
  refine ⟨fun a => if a < BIG + 100 then (f (a - BIG)).1 else if a < BIG + 200 then (f (a - (BIG + 100))).2 else if a = BIG + 200 then t1 else if a = BIG + 201 then t2 else if a = BIG + 202 then t3 else if a = BIG + 203 then t4 else if a = BIG + 205 then t5 else b, rfl, fun φ => ?_⟩
  have e1 : ∀ j, j < 47 → (if BIG + j < BIG + 100 then (f (BIG + j - BIG)).1 else if BIG + j < BIG + 200 then (f (BIG + j - (BIG + 100))).2 else if BIG + j = BIG + 200 then t1 else if BIG + j = BIG + 201 then t2 else if BIG + j = BIG + 202 then t3 else if BIG + j = BIG + 203 then t4 else if BIG + j = BIG + 205 then t5 else b) = (f j).1 := fun j hj => by rw [if_pos (by omega), Nat.add_sub_cancel_left]
  have e2 : ∀ j, j < 47 → (if BIG + 100 + j < BIG + 100 then (f (BIG + 100 + j - BIG)).1 else if BIG + 100 + j < BIG + 200 then (f (BIG + 100 + j - (BIG + 100))).2 else if BIG + 100 + j = BIG + 200 then t1 else if BIG + 100 + j = BIG + 201 then t2 else if BIG + 100 + j = BIG + 202 then t3 else if BIG + 100 + j = BIG + 203 then t4 else if BIG + 100 + j = BIG + 205 then t5 else b) = (f j).2 := fun j hj => by rw [if_neg (by omega), if_pos (by omega), Nat.add_sub_cancel_left]
  refine ⟨fun j hj q hq => ?_, fun j hj => ?_, ?_, hz1, hz2, ht1, ht2, hS, ?_, ?_, st_alln hts, ?_⟩
  · have hj2 : j < 47 := hj
    show vk_R q.1 q.2.1 q.2.2 (if BIG + j < BIG + 100 then _ else _) s
    rw [e1 j hj2]
    have h5 := (hf j hj2).1
    unfold sTm at h5
    rw [hq] at h5
    exact vk_R.of (st_refs hts j q hq) h5
  · have hj2 : j < 47 := hj
    show va_OF _ _ _ _ (if BIG + j < BIG + 100 then _ else _) _ _ _ ∧ va_OF _ _ _ (.ref (if BIG + 100 + j < BIG + 100 then _ else _)) (if BIG + j < BIG + 100 then _ else _) _ _ _ ∧ va_O _ (if BIG + j < BIG + 100 then _ else _) _ _ _ ∧ va_T _ (if BIG + 100 + j < BIG + 100 then _ else _) _ _ _ _ _
    rw [e1 j hj2, e2 j hj2]
    exact (hf j hj2).2
  · exact va_Zof (hts _ (List.mem_of_getElem? (i := 390) (by decide +kernel))) (hts _ (List.mem_of_getElem? (i := 49) (by decide +kernel))) (va_eqi (nd_h h (by simp [hCs]))) hA
  · exact vx_Zqof (hts _ (List.mem_of_getElem? (i := 496) (by decide +kernel))) (hts _ (List.mem_of_getElem? (i := 66) (by decide +kernel))) (nd_h h (by simp [hCs])) hA
  · exact vx_Zqof (hts _ (List.mem_of_getElem? (i := 498) (by decide +kernel))) (hts _ (List.mem_of_getElem? (i := 66) (by decide +kernel))) (nd_h h (by simp [hCs])) hA
  · refine ⟨?_, va_Zof (hts _ (List.mem_of_getElem? (i := 1263) (by decide +kernel))) (hts _ (List.mem_of_getElem? (i := 54) (by decide +kernel))) ht4 hA, hT4, va_Zof (hts _ (List.mem_of_getElem? (i := 1793) (by decide +kernel))) (hts _ (List.mem_of_getElem? (i := 55) (by decide +kernel))) q1 hA, ⟨cA5, q3, q5, by rw [q6]; exact q2, hA t5 (Array.getElem?_eq_some_iff.mp q3).1⟩, va_Zof (hts _ (List.mem_of_getElem? (i := 1786) (by decide +kernel))) (hts _ (List.mem_of_getElem? (i := 72) (by decide +kernel))) (va_eqi (nd_n h (by simp [uCs]))) hA, va_Zof (hts _ (List.mem_of_getElem? (i := 1788) (by decide +kernel))) (hts _ (List.mem_of_getElem? (i := 55) (by decide +kernel))) (va_eqi (nd_n h (by simp [uCs]))) hA, va_Zof (hts _ (List.mem_of_getElem? (i := 1864) (by decide +kernel))) (hts _ (List.mem_of_getElem? (i := 55) (by decide +kernel))) (va_eqi (nd_n h (by simp [uCs]))) hA, va_Fw.of (hts _ (List.mem_of_getElem? (i := 1309) (by decide +kernel))) (hts _ (List.mem_of_getElem? (i := 1308) (by decide +kernel))) (hts _ (List.mem_of_getElem? (i := 1313) (by decide +kernel))) (hts _ (List.mem_of_getElem? (i := 1312) (by decide +kernel))) (hts _ (List.mem_of_getElem? (i := 1310) (by decide +kernel))), va_Fw.of (hts _ (List.mem_of_getElem? (i := 1326) (by decide +kernel))) (hts _ (List.mem_of_getElem? (i := 1325) (by decide +kernel))) (hts _ (List.mem_of_getElem? (i := 1329) (by decide +kernel))) (hts _ (List.mem_of_getElem? (i := 1328) (by decide +kernel))) (hts _ (List.mem_of_getElem? (i := 1310) (by decide +kernel)))⟩
    show va_T .int b σ.2.2.2.2.2.2.1 (fun i => .int (σ.2.2.2.2.2.2.2 i)) _ s s.heap
    rw [hσ]
    exact ⟨scr, hs1, hs2, hs3, Nat.le_of_eq hs4.symm, by rw [hs4], hs5, hA b hbl⟩
end ST
/-! THE CLAIM OUT OF ONE WALK OF THE LAW'S BODY. Your part is whole_start (and what it stands on); all else here is the same for every law, but numbers. -/
def R_law : String := "NotaryBookLaw"
def lw_P (b : Addr) (xs : List Int32) (args : Array Value) (s : State) : Prop := args = #[.ref b] ∧ s.IntsAt b xs ∧ xs.length ≤ 260 ∧ (Jvm.Cond.and given_1 narrow_1).before args s = true
def lw_Q (_ : Array Value) (s : State) (o : Outcome) (t : State) : Prop := o = .returned (some (.int 1)) ∧ Framed s o t [] 600086 7301442
def lw_Z (below : List Frame) (a : Array Value) (s : State) : State → Prop := fun t => ∃ o, t.status = .running ∧ Ended t below o ∧ lw_Q a s o t
/-- the law's own end, with 1 on the stack, nothing written that was there before, its room as the claim has it -/
theorem lw_ret {p : Program} {l : Launch} {e : Env} {s : State} {m : MethodId} {below : List Frame} {meth : Method} {c : Code} {b : Nat} (hx : p.tables.exec = Jvm.exec) (hb : c.code = code) (hr : meth.sig.returnType = ret) (hlocks : meth.locks = false) {pc : Nat} {H : Heap} {ls : Array Slot} (hdg : decode code pc = .ok (.ireturn, 1)) : W p l e room_1 s m #[Value.ref b] below meth c H [] 600086 7301442 (lw_Z below #[Value.ref b] s) (F0 m pc ls [.int 1]) := by
  intro T hT X
  obtain ⟨fs, hret, hrun, hended, hW, hframe⟩ := X.leave (v := some (.int 1)) (hlocks := hlocks) (fun h => by rw [hr] at h; cases h)
  have hmeth' : T.vm.method? m = some meth := X.method'
  refine ⟨T.setFrames fs, ?_, .returned (some (.int 1)), hrun, hended, rfl, ⟨_, rfl⟩, hW, hframe⟩
  jvm_step X.here [X.here.top, hx, hb, hdg, hmeth', hr, ret, narrow_b1]
  (try refine ⟨rfl, ?_⟩); (try refine ⟨rfl, ?_⟩)
  first | (intro acts; rw [hret _ acts rfl rfl rfl]) | rw [hret _ _ rfl rfl rfl]
  exact Steps.refl _
/-- what holds at the law's entry: the machine, the code, the tables' words (any of lw_tbl by 'hts w (by decide +kernel)'), the script of L ints xs at the cell b, what the Statement gives of the start (any of its parts by flat_of_before) -/
def lw_At (p : Program) (s : State) (m : MethodId) (meth : Method) (c : Code) (b L : Nat) (xs : Nat → Int32) : Prop :=
  p.tables.exec = Jvm.exec ∧ c.code = code ∧ meth.sig.returnType = ret ∧ c.maxLocals = 18 ∧ s.vm.findClass R_law = some m.cls ∧ (∀ w ∈ lw_tbl, w.before #[Value.ref b] s = true) ∧ va_X b L xs s s.heap ∧ b < s.heap.size ∧ meth.locks = false ∧ (Jvm.Cond.and given_1 narrow_1).before #[Value.ref b] s = true
theorem dL_law_866 : decode cL_law 866 = .ok (.ireturn, 1) := by decide +kernel
theorem byS_byte : ∀ j, j < 47 → ∀ v ∈ byS j, v.toInt8.toInt32 = v := by decide +kernel
theorem dig_byte : ∀ n, n < 10 → (Int32.ofNat (48 + n)).toInt8.toInt32 = Int32.ofNat (48 + n) := by decide +kernel
/-- the empty clean heap -/
def σE (L : Nat) (xs : Nat → Int32) : HpT := (0, fun _ => 99, fun _ => 0, fun _ _ => 0, fun _ _ => 0, fun _ _ => none, L, xs)
theorem cI_byte {L : Nat} {xs : Nat → Int32} (i k : Nat) (h : hK (σE L xs) i = 22) : (hI (σE L xs) i k).toInt8.toInt32 = hI (σE L xs) i k := by
  have hk : cK i = 22 := (if_neg (Nat.not_lt_zero _)).symm.trans h
  have hne : ¬ i = BIG + 204 := by
    intro e
    rw [e] at hk
    exact absurd hk (by decide +kernel)
  have e : hI (σE L xs) i k = cI i k := (if_neg (Nat.not_lt_zero _)).trans (if_neg hne)
  rw [e]
  unfold cI
  split
  · decide
  · rename_i h1
    split
    · rename_i h2
      have hj : i - (BIG + 100) < 47 := by
        unfold cK at hk
        rw [if_neg (by omega), if_neg (by unfold nSt; omega), if_neg (by omega)] at hk
        split at hk
        · rename_i h3
          unfold nSt at h3
          omega
        · repeat' split at hk
          all_goals omega
      generalize i - (BIG + 100) = j at hj ⊢
      by_cases hl : k < (byS j).length
      · rw [List.getD_eq_getElem?_getD, List.getElem?_eq_getElem hl, Option.getD_some]
        exact byS_byte _ hj _ (List.getElem_mem hl)
      · rw [List.getD_eq_getElem?_getD, List.getElem?_eq_none (Nat.not_lt.mp hl)]
        decide
    · split
      · exact dig_byte _ (Nat.mod_lt _ (by decide))
      · exact dig_byte _ (Nat.mod_lt _ (by decide))
set_option maxRecDepth 100000 in
theorem whole_of {p : Program} {e : Env} {s : State} {m : MethodId} {below : List Frame} {meth : Method} {c : Code} (l : Launch) (hflags : l.flags = flags0) {b L : Nat} {xs : Nat → Int32} {σ' : HpT} {o : Except Nat Unit} {a9 b9 : Nat} (hlaw : fL_law (σE L xs) = some (o, σ', a9, b9)) (ha9 : a9 ≤ 600086) (hb9 : b9 ≤ 7301442) (C0 : lw_At p s m meth c b L xs) : W p l e room_1 s m #[Value.ref b] below meth c s.heap [] 0 0 (lw_Z below #[Value.ref b] s) (entryFrame m ([Value.ref b] : List Value).toArray 18) := by
  obtain ⟨hx, hb, hr, hml, hown, hts, hX, hbl, hlocks, hgv⟩ := id C0
  have hneed := needs_ok hgv
  obtain ⟨D, aC, hK⟩ := st_K hts
  obtain ⟨φ0, h204, hEv⟩ := st_Ev hts hneed hX hbl D aC (σE L xs) rfl
  have hl := lv_entry ([.ref b]) (n := 18) (Nat.le_of_ble_eq_true rfl)
  rw [lg_entry_eq]
  generalize (lg_sl ([.ref b]) ++ List.replicate (18 - (lg_sl ([.ref b])).length) Slot.unset).toArray = ls at hl ⊢
  have hl : lv_has ls 18 [(0, .ref b)] := hl
  have hst : l.stackTraces = false := by
    unfold Launch.stackTraces
    rw [hflags]
    decide
  have B : Bd (D, aC, φ0, s.heap.size, φ0, σE L xs) (p, l, e, room_1, s, m, #[Value.ref b], below, meth, c, lw_Z below #[Value.ref b] s) RL cL_law 18 16 630 600086 7301442 :=
    ⟨hx, hb, hml, hown, st_allw hts, hK, Nat.le_refl _, hEv φ0, rfl, rfl, rfl, rfl, hlocks, hst⟩
  have k := cL_lawc B (fun kc ks L9 σ9 hc hs φ H locs ls9 hp hst9 hL9 hl9 => ?_) hlaw ha9 hb9
  · refine k φ0 s.heap [] ls ⟨fun k q h => by simp [wsOf, hN, σE] at h, ⟨fun i j p q h => by simp [wsOf, hN, σE] at h, fun k q h => by simp [wsOf, hN, σE] at h⟩, va_S.rf, fun _ _ => rfl, ⟨Nat.zero_le _, fun i k j h => absurd h (Nat.not_lt_zero _), fun i k h => ?_⟩, fun _ _ => rfl, hLe.rf _⟩ (fun _ h => absurd h List.not_mem_nil) (fun q hq => ?_) ?_
    · exact cI_byte i k h
    · cases List.mem_singleton.mp hq
      exact Or.inr (Nat.le_add_right _ _)
    · show lv_has ls c.maxLocals [(0, .ref (φ0 (BIG + 204)))]
      rw [h204, hml]
      exact hl
  · show W p l e room_1 s m #[Value.ref b] below meth c H locs kc ks (lw_Z below #[Value.ref b] s) (F0 m 866 ls9 [.int 1])
    refine va_forget (fun q hq => hp.2.2.1.2.2 q hq) (W.widen hc hs ?_)
    exact lw_ret hx hb hr hlocks dL_law_866
