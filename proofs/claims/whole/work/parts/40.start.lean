/-! WHAT IS GIVEN AT THE LAW'S ENTRY -/
def sbq : List Cond → List Cond → Bool
  | [], _ => true
  | _ :: _, [] => false
  | a :: as, b :: bs => if a = b then sbq as bs else sbq (a :: as) bs
theorem sbq_mem : ∀ (bs as : List Cond), sbq as bs = true → ∀ c ∈ as, c ∈ bs := by
  intro bs
  induction bs with
  | nil =>
    intro as h c hc
    cases as with
    | nil => exact hc
    | cons a as => cases h
  | cons b bs ih =>
    intro as h c hc
    cases as with
    | nil => exact absurd hc List.not_mem_nil
    | cons a as =>
      unfold sbq at h
      split at h
      · rename_i e
        rcases List.mem_cons.mp hc with q | q
        · rw [q, e]; exact List.mem_cons_self
        · exact List.mem_cons_of_mem _ (ih as h c q)
      · exact List.mem_cons_of_mem _ (ih (a :: as) h c hc)
def sTm (j : Nat) : Term := match stT[j]? with
  | some q => .string q.1 q.2.1
  | none => .string "" 0
abbrev sVl (j : Nat) : Term := .field (sTm j) "java/lang/String" "value" "[B"
def sCs (j : Nat) : List Cond := [.exactly (sTm j) "java/lang/String", .eq (.field (sTm j) "java/lang/String" "coder" "B") (.int 0), .arrayOf (sVl j) .byte, .eq (.length (sVl j)) (.int (Int32.ofNat (byS j).length))] ++ (List.range (byS j).length).map (fun i => .eq (.elem (sVl j) (.int (Int32.ofNat i))) (.int ((byS j).getD i 0)))
def dCs (n : String) (a : Nat) : List Cond := [.arrayOf (.static "java/lang/Integer" n "[B") .byte, .eq (.length (.static "java/lang/Integer" n "[B")) (.int (Int32.ofNat 100))] ++ (List.range 100).map (fun i => .eq (.elem (.static "java/lang/Integer" n "[B") (.int (Int32.ofNat i))) (.int (cI a i)))
def hCs : List Cond := [.eq (.static "java/lang/String" "COMPACT_STRINGS" "Z") (.int 1), .isRef (.static Bundle.tN "UNASSIGNED_STACK" Bundle.steD), .isRef (.static Bundle.tN "SUPPRESSED_SENTINEL" Bundle.listD), .isRef (.static "jdk/internal/util/Preconditions" "SIOOBE_FORMATTER" "Ljava/util/function/BiFunction;")]
def nCs : List Cond := [.not (.castable (exN 2) (exN 1)), .not (.castable (exN 0) (exN 1)), .not (.castable (exN 1) (exN 0)), .not (.castable (exN 2) (exN 0))]
def sPm : List Nat := [0, 1, 2, 3, 4, 5, 6, 7, 8, 9, 10, 11, 12, 13, 14, 15, 16, 17, 18, 19, 20, 21, 22, 23, 24, 25, 26, 27, 28, 29, 30, 31, 32, 33, 34, 35, 36, 37, 38, 39, 40, 41, 42, 43, 44, 45, 46, 47, 48, 49, 50, 51, 52, 53, 54, 55, 56, 57, 58, 59]
def needs : List Cond := hCs ++ (dCs "DigitOnes" (BIG + 200) ++ (dCs "DigitTens" (BIG + 201) ++ (nCs ++ sPm.flatMap sCs)))
set_option maxRecDepth 1000000 in
theorem needs_sub : sbq needs (flatC (Cond.and given_1 narrow_1)) = true := by decide +kernel
theorem needs_ok {A : Array Value} {s : State} (h : (Cond.and given_1 narrow_1).before A s = true) : ∀ c ∈ needs, c.before A s = true := fun c hc => flat_of_before _ h c (sbq_mem _ _ needs_sub c hc)
theorem sPm_all : ∀ j, j < 60 → j ∈ sPm := by decide +kernel
section ST
variable {A9 : Array Value} {s : State} {A : Nat → Prop}
theorem nd_h (h : ∀ c ∈ needs, c.before A9 s = true) {c : Cond} (hc : c ∈ hCs) : c.before A9 s = true := h c (List.mem_append_left _ hc)
theorem nd_o (h : ∀ c ∈ needs, c.before A9 s = true) {c : Cond} (hc : c ∈ dCs "DigitOnes" (BIG + 200)) : c.before A9 s = true := h c (List.mem_append_right _ (List.mem_append_left _ hc))
theorem nd_t (h : ∀ c ∈ needs, c.before A9 s = true) {c : Cond} (hc : c ∈ dCs "DigitTens" (BIG + 201)) : c.before A9 s = true := h c (List.mem_append_right _ (List.mem_append_right _ (List.mem_append_left _ hc)))
theorem nd_n (h : ∀ c ∈ needs, c.before A9 s = true) {c : Cond} (hc : c ∈ nCs) : c.before A9 s = true := h c (List.mem_append_right _ (List.mem_append_right _ (List.mem_append_right _ (List.mem_append_left _ hc))))
theorem nd_s (h : ∀ c ∈ needs, c.before A9 s = true) {j : Nat} (hj : j < 60) {c : Cond} (hc : c ∈ sCs j) : c.before A9 s = true := h c (List.mem_append_right _ (List.mem_append_right _ (List.mem_append_right _ (List.mem_append_right _ (List.mem_flatMap.mpr ⟨j, sPm_all j hj, hc⟩)))))
theorem byS_small : ∀ j, j < 60 → (byS j).length < 2 ^ 31 := by decide +kernel
/-- the Strings and their bytes -/
theorem st_str (h : ∀ c ∈ needs, c.before A9 s = true) (hA : ∀ a : Nat, a < s.heap.size → ¬ A a) (j : Nat) (hj : j < 60) : ∃ q : Nat × Nat, (sTm j).eval A9 s none [] s = some (.ref q.1) ∧ va_OF "java/lang/String" "coder" "B" (.int 0) q.1 A s s.heap ∧ va_OF "java/lang/String" "value" "[B" (.ref q.2) q.1 A s s.heap ∧ va_O "java/lang/String" q.1 A s s.heap ∧ va_T .byte q.2 (byS j).length (fun i => .int ((byS j).getD i 0)) A s s.heap := by
  have m : ∀ {c : Cond}, c ∈ ([.exactly (sTm j) "java/lang/String", .eq (.field (sTm j) "java/lang/String" "coder" "B") (.int 0), .arrayOf (sVl j) .byte, .eq (.length (sVl j)) (.int (Int32.ofNat (byS j).length))] : List Cond) → c.before A9 s = true := fun hc => nd_s h hj (List.mem_append_left _ hc)
  obtain ⟨a, c, cA, kA, q1, q2, q3, q4, q5, q6, -⟩ := Cond.exactly_spec (args := A9) (first := s) (o := none) (s := s) (idx := []) (t := sTm j) (cls := "java/lang/String") (m (by simp))
  obtain ⟨t, ht, hT⟩ := va_Tof (f := fun i => .int ((byS j).getD i 0)) (A := A) (byS_small j hj) (m (c := .arrayOf (sVl j) .byte) (by simp)) (va_eqt (m (c := .eq (.length (sVl j)) (.int (Int32.ofNat (byS j).length))) (by simp))) (fun i hi => va_eqt (nd_s h hj (List.mem_append_right _ (List.mem_map.mpr ⟨i, List.mem_range.mpr hi, rfl⟩)))) hA
  exact ⟨(a, t), q1, vk_OFof q1 (va_eqt (m (c := .eq (.field (sTm j) "java/lang/String" "coder" "B") (.int 0)) (by simp))) hA, vk_OFof q1 ht hA, ⟨cA, q3, q5, by rw [q6]; exact q2, hA a (Array.getElem?_eq_some_iff.mp q3).1⟩, hT⟩
theorem st_dig (n : String) (z : Nat) (h : ∀ c ∈ dCs n z, c.before A9 s = true) (hl : (Cond.laysStatic "java/lang/Integer" n "[B").before A9 s = true) (hi : (Cond.initialized "java/lang/Integer").before A9 s = true) (hA : ∀ a : Nat, a < s.heap.size → ¬ A a) : ∃ t : Nat, va_Z "java/lang/Integer" n "[B" (.ref t) A s s.heap ∧ va_T .byte t 100 (fun i => .int (cI z i)) A s s.heap := by
  obtain ⟨t, ht, hT⟩ := va_Tof (tm := .static "java/lang/Integer" n "[B") (ty := .byte) (N := 100) (f := fun i => .int (cI z i)) (A := A) (by decide) (h _ (List.mem_append_left _ (by simp))) (va_eqt (h (.eq (.length (.static "java/lang/Integer" n "[B")) (.int (Int32.ofNat 100))) (List.mem_append_left _ (by simp)))) (fun i hi => va_eqt (h _ (List.mem_append_right _ (List.mem_map.mpr ⟨i, List.mem_range.mpr hi, rfl⟩)))) hA
  exact ⟨t, va_Zof hl hi ht hA, hT⟩
/-- array classes -/
theorem st_arr {ty : FieldType} (h : (Cond.arrayClass ty).before A9 s = true) (ho : ∀ C, ty ≠ .object C) : ∃ c : ClassId, ArrOfT s c ty ∧ va_RA s c ty := by
  obtain ⟨c, k, comp, h1, h2, h3⟩ := Cond.arrayClass_spec h
  refine ⟨c, fun n z => ⟨fun k h => (by cases h), k, h2, comp, h3⟩, ?_⟩
  cases ty with
  | object C => exact absurd rfl (ho C)
  | _ => exact h1
theorem st_arrO {C : String} (h : (Cond.arrayOver (.object C)).before A9 s = true) : ∃ c : ClassId, ArrOfT s c (.object C) ∧ va_RA s c (.object C) := by
  obtain ⟨comp, c, k, h1, h2, h3, h4, h5⟩ := Cond.arrayOver_spec h
  exact ⟨c, fun n z => ⟨fun k h => (by cases h), k, h3, comp, h4⟩, k, comp, h3, h4, h1, h5⟩
theorem st_allw (hts : ∀ w ∈ lw_tbl, w.before A9 s = true) : ∀ w ∈ ALLw, w.before A9 s = true := by
  intro w h
  rcases List.mem_append.mp h with h | h
  · exact hts w (List.mem_filter.mp h).1
  · rcases List.mem_cons.mp h with e | h
    · rw [e]
      exact sel_sub (y0 := yJ5_isLatin1_aae02) (y := yJ5_ensureCapacityInternal_d00df) (hts _ (List.mem_of_getElem? (i := 1541) (by decide +kernel))) rfl (hts _ (List.mem_of_getElem? (i := 1539) (by decide +kernel))) (hts _ (List.mem_of_getElem? (i := 1510) (by decide +kernel))) (hts _ (List.mem_of_getElem? (i := 1511) (by decide +kernel))) (by decide +kernel)
    · rcases List.mem_cons.mp h with e | h
      · rw [e]
        exact sel_sub (y0 := yJ5_isLatin1_aae02) (y := yJ5_newCapacity_0f7a4) (hts _ (List.mem_of_getElem? (i := 1541) (by decide +kernel))) rfl (hts _ (List.mem_of_getElem? (i := 1539) (by decide +kernel))) (hts _ (List.mem_of_getElem? (i := 1514) (by decide +kernel))) (hts _ (List.mem_of_getElem? (i := 1515) (by decide +kernel))) (by decide +kernel)
      · cases h
theorem st_alln (hts : ∀ w ∈ lw_tbl, w.before A9 s = true) : ∀ w ∈ ALLn, va_Nw w s := by
  intro w h
  obtain ⟨h1, h2⟩ := List.mem_filter.mp h
  have h3 := hts w h1
  cases w <;> first | exact va_Nw.of rfl h3 | exact absurd h2 Bool.false_ne_true | (rename_i t9; cases t9 <;> first | exact va_AO.of h3 | exact absurd h2 Bool.false_ne_true)
def tyL : List FieldType := [.int, .long, .byte, .boolean, .double, .object RX0, .object RX3, .object RX1]
theorem st_K (hts : ∀ w ∈ lw_tbl, w.before A9 s = true) : ∃ (D : va_G) (aC : Nat → ClassId), va_K D gcl (tysOf aC) s := by
  have hA := st_allw hts
  have h0 : ∀ k : Nat, ∃ r : ClassId × (Nat → Nat), ∀ q, gcl[k]? = some q → u_Kn s q.1 q.2.1 q.2.2 r.1 r.2 := by
    intro k
    match k with
    | 0 => exact (u_known (C := RX0) (T := TX0) (N := 8) (n := 8) hA lay_0 (hts _ (List.mem_of_getElem? (i := 332) (by decide +kernel)))).elim (fun cC h => h.elim (fun iS h => ⟨(cC, iS), fun q e => by cases e; exact h⟩))
    | 1 => exact (u_known (C := RX1) (T := TX1) (N := 12) (n := 12) hA lay_1 (hts _ (List.mem_of_getElem? (i := 201) (by decide +kernel)))).elim (fun cC h => h.elim (fun iS h => ⟨(cC, iS), fun q e => by cases e; exact h⟩))
    | 2 => exact (u_known (C := RX2) (T := TX2) (N := 4) (n := 4) hA lay_2 (hts _ (List.mem_of_getElem? (i := 281) (by decide +kernel)))).elim (fun cC h => h.elim (fun iS h => ⟨(cC, iS), fun q e => by cases e; exact h⟩))
    | 3 => exact (u_known (C := RX3) (T := TX3) (N := 5) (n := 5) hA lay_3 (hts _ (List.mem_of_getElem? (i := 305) (by decide +kernel)))).elim (fun cC h => h.elim (fun iS h => ⟨(cC, iS), fun q e => by cases e; exact h⟩))
    | 4 => exact (u_known (C := RX4) (T := TX4) (N := 4) (n := 4) hA lay_4 (hts _ (List.mem_of_getElem? (i := 257) (by decide +kernel)))).elim (fun cC h => h.elim (fun iS h => ⟨(cC, iS), fun q e => by cases e; exact h⟩))
    | 5 => exact (u_known (C := RX5) (T := TX5) (N := 5) (n := 5) hA lay_5 (hts _ (List.mem_of_getElem? (i := 438) (by decide +kernel)))).elim (fun cC h => h.elim (fun iS h => ⟨(cC, iS), fun q e => by cases e; exact h⟩))
    | 6 => exact (u_known (C := RX6) (T := TX6) (N := 1) (n := 1) hA lay_6 (hts _ (List.mem_of_getElem? (i := 499) (by decide +kernel)))).elim (fun cC h => h.elim (fun iS h => ⟨(cC, iS), fun q e => by cases e; exact h⟩))
    | 7 => exact (u_known (C := RX7) (T := TX7) (N := 7) (n := 7) hA lay_7 (hts _ (List.mem_of_getElem? (i := 444) (by decide +kernel)))).elim (fun cC h => h.elim (fun iS h => ⟨(cC, iS), fun q e => by cases e; exact h⟩))
    | 8 => exact (u_known (C := RX8) (T := TX8) (N := 7) (n := 7) hA lay_8 (hts _ (List.mem_of_getElem? (i := 211) (by decide +kernel)))).elim (fun cC h => h.elim (fun iS h => ⟨(cC, iS), fun q e => by cases e; exact h⟩))
    | 9 => exact (u_known (C := RX9) (T := TX9) (N := 15) (n := 15) hA lay_9 (hts _ (List.mem_of_getElem? (i := 193) (by decide +kernel)))).elim (fun cC h => h.elim (fun iS h => ⟨(cC, iS), fun q e => by cases e; exact h⟩))
    | 10 => exact (u_known (C := RX10) (T := TX10) (N := 24) (n := 24) hA lay_10 (hts _ (List.mem_of_getElem? (i := 1995) (by decide +kernel)))).elim (fun cC h => h.elim (fun iS h => ⟨(cC, iS), fun q e => by cases e; exact h⟩))
    | 11 => exact (u_known (C := RJ4) (T := TJ4) (N := 4) (n := 4) hA lay_11 (hts _ (List.mem_of_getElem? (i := 505) (by decide +kernel)))).elim (fun cC h => h.elim (fun iS h => ⟨(cC, iS), fun q e => by cases e; exact h⟩))
    | n + 12 => exact ⟨((0 : Nat), fun _ => 0), fun q e => by simp [gcl] at e⟩
  have h1 : ∀ k : Nat, ∃ c : ClassId, ∀ ty, tyL[k]? = some ty → ArrOfT s c ty ∧ va_RA s c ty := by
    intro k
    match k with
    | 0 => exact (st_arr (ty := .int) (hts _ (List.mem_of_getElem? (i := 254) (by decide +kernel))) (by intro C e; cases e)).elim (fun c h => ⟨c, fun q e => by cases e; exact h⟩)
    | 1 => exact (st_arr (ty := .long) (hts _ (List.mem_of_getElem? (i := 253) (by decide +kernel))) (by intro C e; cases e)).elim (fun c h => ⟨c, fun q e => by cases e; exact h⟩)
    | 2 => exact (st_arr (ty := .byte) (hts _ (List.mem_of_getElem? (i := 252) (by decide +kernel))) (by intro C e; cases e)).elim (fun c h => ⟨c, fun q e => by cases e; exact h⟩)
    | 3 => exact (st_arr (ty := .boolean) (hts _ (List.mem_of_getElem? (i := 255) (by decide +kernel))) (by intro C e; cases e)).elim (fun c h => ⟨c, fun q e => by cases e; exact h⟩)
    | 4 => exact (st_arr (ty := .double) (hts _ (List.mem_of_getElem? (i := 2837) (by decide +kernel))) (by intro C e; cases e)).elim (fun c h => ⟨c, fun q e => by cases e; exact h⟩)
    | 5 => exact (st_arrO (C := RX0) (hts _ (List.mem_of_getElem? (i := 207) (by decide +kernel)))).elim (fun c h => ⟨c, fun q e => by cases e; exact h⟩)
    | 6 => exact (st_arrO (C := RX3) (hts _ (List.mem_of_getElem? (i := 209) (by decide +kernel)))).elim (fun c h => ⟨c, fun q e => by cases e; exact h⟩)
    | 7 => exact (st_arrO (C := RX1) (hts _ (List.mem_of_getElem? (i := 495) (by decide +kernel)))).elim (fun c h => ⟨c, fun q e => by cases e; exact h⟩)
    | n + 8 => exact ⟨(0 : Nat), fun q e => by simp [tyL] at e⟩
  obtain ⟨f, hf⟩ := Classical.axiomOfChoice h0
  obtain ⟨g, hg⟩ := Classical.axiomOfChoice h1
  refine ⟨(fun k => (f k).1, fun k => (f k).2), g, fun k q hq => hf k q hq, fun k q hq => ?_⟩
  match k, hq with
  | 0, hq => cases hq; exact hg 0 _ rfl
  | 1, hq => cases hq; exact hg 1 _ rfl
  | 2, hq => cases hq; exact hg 2 _ rfl
  | 3, hq => cases hq; exact hg 3 _ rfl
  | 4, hq => cases hq; exact hg 4 _ rfl
  | 5, hq => cases hq; exact hg 5 _ rfl
  | 6, hq => cases hq; exact hg 6 _ rfl
  | 7, hq => cases hq; exact hg 7 _ rfl
  | n + 8, hq => simp [tysOf] at hq
theorem st_refs (hts : ∀ w ∈ lw_tbl, w.before A9 s = true) (j : Nat) (q : String × Nat × String) (hq : stT[j]? = some q) : (Cond.stringRef q.1 q.2.1 q.2.2).before A9 s = true := by
  have hj : j < 60 := (List.getElem?_eq_some_iff.mp hq).1
  match j, hj, hq with
  | 0, _, hq => cases hq; exact hts _ (List.mem_of_getElem? (i := 667) (by decide +kernel))
  | 1, _, hq => cases hq; exact hts _ (List.mem_of_getElem? (i := 736) (by decide +kernel))
  | 2, _, hq => cases hq; exact hts _ (List.mem_of_getElem? (i := 813) (by decide +kernel))
  | 3, _, hq => cases hq; exact hts _ (List.mem_of_getElem? (i := 826) (by decide +kernel))
  | 4, _, hq => cases hq; exact hts _ (List.mem_of_getElem? (i := 827) (by decide +kernel))
  | 5, _, hq => cases hq; exact hts _ (List.mem_of_getElem? (i := 828) (by decide +kernel))
  | 6, _, hq => cases hq; exact hts _ (List.mem_of_getElem? (i := 891) (by decide +kernel))
  | 7, _, hq => cases hq; exact hts _ (List.mem_of_getElem? (i := 917) (by decide +kernel))
  | 8, _, hq => cases hq; exact hts _ (List.mem_of_getElem? (i := 947) (by decide +kernel))
  | 9, _, hq => cases hq; exact hts _ (List.mem_of_getElem? (i := 965) (by decide +kernel))
  | 10, _, hq => cases hq; exact hts _ (List.mem_of_getElem? (i := 990) (by decide +kernel))
  | 11, _, hq => cases hq; exact hts _ (List.mem_of_getElem? (i := 999) (by decide +kernel))
  | 12, _, hq => cases hq; exact hts _ (List.mem_of_getElem? (i := 1037) (by decide +kernel))
  | 13, _, hq => cases hq; exact hts _ (List.mem_of_getElem? (i := 1050) (by decide +kernel))
  | 14, _, hq => cases hq; exact hts _ (List.mem_of_getElem? (i := 1051) (by decide +kernel))
  | 15, _, hq => cases hq; exact hts _ (List.mem_of_getElem? (i := 1052) (by decide +kernel))
  | 16, _, hq => cases hq; exact hts _ (List.mem_of_getElem? (i := 1078) (by decide +kernel))
  | 17, _, hq => cases hq; exact hts _ (List.mem_of_getElem? (i := 1110) (by decide +kernel))
  | 18, _, hq => cases hq; exact hts _ (List.mem_of_getElem? (i := 1120) (by decide +kernel))
  | 19, _, hq => cases hq; exact hts _ (List.mem_of_getElem? (i := 1153) (by decide +kernel))
  | 20, _, hq => cases hq; exact hts _ (List.mem_of_getElem? (i := 1178) (by decide +kernel))
  | 21, _, hq => cases hq; exact hts _ (List.mem_of_getElem? (i := 1215) (by decide +kernel))
  | 22, _, hq => cases hq; exact hts _ (List.mem_of_getElem? (i := 1229) (by decide +kernel))
  | 23, _, hq => cases hq; exact hts _ (List.mem_of_getElem? (i := 1260) (by decide +kernel))
  | 24, _, hq => cases hq; exact hts _ (List.mem_of_getElem? (i := 1410) (by decide +kernel))
  | 25, _, hq => cases hq; exact hts _ (List.mem_of_getElem? (i := 1413) (by decide +kernel))
  | 26, _, hq => cases hq; exact hts _ (List.mem_of_getElem? (i := 1497) (by decide +kernel))
  | 27, _, hq => cases hq; exact hts _ (List.mem_of_getElem? (i := 1658) (by decide +kernel))
  | 28, _, hq => cases hq; exact hts _ (List.mem_of_getElem? (i := 1700) (by decide +kernel))
  | 29, _, hq => cases hq; exact hts _ (List.mem_of_getElem? (i := 1701) (by decide +kernel))
  | 30, _, hq => cases hq; exact hts _ (List.mem_of_getElem? (i := 1702) (by decide +kernel))
  | 31, _, hq => cases hq; exact hts _ (List.mem_of_getElem? (i := 1719) (by decide +kernel))
  | 32, _, hq => cases hq; exact hts _ (List.mem_of_getElem? (i := 1813) (by decide +kernel))
  | 33, _, hq => cases hq; exact hts _ (List.mem_of_getElem? (i := 1832) (by decide +kernel))
  | 34, _, hq => cases hq; exact hts _ (List.mem_of_getElem? (i := 1837) (by decide +kernel))
  | 35, _, hq => cases hq; exact hts _ (List.mem_of_getElem? (i := 1871) (by decide +kernel))
  | 36, _, hq => cases hq; exact hts _ (List.mem_of_getElem? (i := 1880) (by decide +kernel))
  | 37, _, hq => cases hq; exact hts _ (List.mem_of_getElem? (i := 1890) (by decide +kernel))
  | 38, _, hq => cases hq; exact hts _ (List.mem_of_getElem? (i := 1899) (by decide +kernel))
  | 39, _, hq => cases hq; exact hts _ (List.mem_of_getElem? (i := 1908) (by decide +kernel))
  | 40, _, hq => cases hq; exact hts _ (List.mem_of_getElem? (i := 1917) (by decide +kernel))
  | 41, _, hq => cases hq; exact hts _ (List.mem_of_getElem? (i := 1941) (by decide +kernel))
  | 42, _, hq => cases hq; exact hts _ (List.mem_of_getElem? (i := 1974) (by decide +kernel))
  | 43, _, hq => cases hq; exact hts _ (List.mem_of_getElem? (i := 1985) (by decide +kernel))
  | 44, _, hq => cases hq; exact hts _ (List.mem_of_getElem? (i := 1993) (by decide +kernel))
  | 45, _, hq => cases hq; exact hts _ (List.mem_of_getElem? (i := 2139) (by decide +kernel))
  | 46, _, hq => cases hq; exact hts _ (List.mem_of_getElem? (i := 2166) (by decide +kernel))
  | 47, _, hq => cases hq; exact hts _ (List.mem_of_getElem? (i := 2183) (by decide +kernel))
  | 48, _, hq => cases hq; exact hts _ (List.mem_of_getElem? (i := 2184) (by decide +kernel))
  | 49, _, hq => cases hq; exact hts _ (List.mem_of_getElem? (i := 2185) (by decide +kernel))
  | 50, _, hq => cases hq; exact hts _ (List.mem_of_getElem? (i := 2237) (by decide +kernel))
  | 51, _, hq => cases hq; exact hts _ (List.mem_of_getElem? (i := 2274) (by decide +kernel))
  | 52, _, hq => cases hq; exact hts _ (List.mem_of_getElem? (i := 2290) (by decide +kernel))
  | 53, _, hq => cases hq; exact hts _ (List.mem_of_getElem? (i := 2299) (by decide +kernel))
  | 54, _, hq => cases hq; exact hts _ (List.mem_of_getElem? (i := 2320) (by decide +kernel))
  | 55, _, hq => cases hq; exact hts _ (List.mem_of_getElem? (i := 2325) (by decide +kernel))
  | 56, _, hq => cases hq; exact hts _ (List.mem_of_getElem? (i := 2385) (by decide +kernel))
  | 57, _, hq => cases hq; exact hts _ (List.mem_of_getElem? (i := 2402) (by decide +kernel))
  | 58, _, hq => cases hq; exact hts _ (List.mem_of_getElem? (i := 2411) (by decide +kernel))
  | 59, _, hq => cases hq; exact hts _ (List.mem_of_getElem? (i := 2416) (by decide +kernel))
  | n + 60, hj, _ => exact absurd hj (by omega)
theorem st_Ev (hts : ∀ w ∈ lw_tbl, w.before A9 s = true) (h : ∀ c ∈ needs, c.before A9 s = true) (b : Nat) (D : va_G) (aC : Nat → ClassId) (φ : Nat → Nat) (σ : HpT) : ∃ φ0 : Nat → Nat, φ0 (BIG + 203) = b ∧ ∀ φ, Ev (D, aC, φ0, s.heap.size, φ, σ) s s.heap := by
  have hA : ∀ a : Nat, a < s.heap.size → ¬ (fun q : Nat => s.heap.size ≤ q) a := fun a h1 h2 => Nat.not_lt.mpr h2 h1
  have h0 : ∀ j : Nat, ∃ q : Nat × Nat, j < 60 → (sTm j).eval A9 s none [] s = some (.ref q.1) ∧ va_OF "java/lang/String" "coder" "B" (.int 0) q.1 (fun q : Nat => s.heap.size ≤ q) s s.heap ∧ va_OF "java/lang/String" "value" "[B" (.ref q.2) q.1 (fun q : Nat => s.heap.size ≤ q) s s.heap ∧ va_O "java/lang/String" q.1 (fun q : Nat => s.heap.size ≤ q) s s.heap ∧ va_T .byte q.2 (byS j).length (fun i => .int ((byS j).getD i 0)) (fun q : Nat => s.heap.size ≤ q) s s.heap := by
    intro j
    by_cases hj : j < 60
    · obtain ⟨q, hq⟩ := st_str h hA j hj
      exact ⟨q, fun _ => hq⟩
    · exact ⟨(0, 0), fun q => absurd q hj⟩
  obtain ⟨f, hf⟩ := Classical.axiomOfChoice h0
  obtain ⟨t1, hz1, ht1⟩ := st_dig "DigitOnes" (BIG + 200) (fun c hc => nd_o h hc) (hts _ (List.mem_of_getElem? (i := 1607) (by decide +kernel))) (hts _ (List.mem_of_getElem? (i := 190) (by decide +kernel))) hA
  obtain ⟨t2, hz2, ht2⟩ := st_dig "DigitTens" (BIG + 201) (fun c hc => nd_t h hc) (hts _ (List.mem_of_getElem? (i := 1609) (by decide +kernel))) (hts _ (List.mem_of_getElem? (i := 190) (by decide +kernel))) hA
  have hS : ∃ t3 : Nat, va_Z "jdk/internal/util/Preconditions" "SIOOBE_FORMATTER" "Ljava/util/function/BiFunction;" .null (fun q : Nat => s.heap.size ≤ q) s s.heap ∨ va_Z "jdk/internal/util/Preconditions" "SIOOBE_FORMATTER" "Ljava/util/function/BiFunction;" (.ref t3) (fun q : Nat => s.heap.size ≤ q) s s.heap := by
    have h1 := nd_h h (c := .isRef (.static "jdk/internal/util/Preconditions" "SIOOBE_FORMATTER" "Ljava/util/function/BiFunction;")) (by simp [hCs])
    cases hv : (Term.static "jdk/internal/util/Preconditions" "SIOOBE_FORMATTER" "Ljava/util/function/BiFunction;").eval A9 s none [] s with
    | none => simp [Cond.before, Cond.holds, Cond.value, hv] at h1
    | some w =>
      have hz := va_Zof (hts _ (List.mem_of_getElem? (i := 768) (by decide +kernel))) (hts _ (List.mem_of_getElem? (i := 183) (by decide +kernel))) hv hA
      simp only [Cond.before, Cond.holds, Cond.value, hv] at h1
      cases w with
      | null => exact ⟨0, Or.inl hz⟩
      | ref a => exact ⟨a, Or.inr hz⟩
      | _ => simp at h1
  obtain ⟨t3, hS⟩ := hS
  refine ⟨fun a => if a < BIG + 100 then (f (a - BIG)).1 else if a < BIG + 200 then (f (a - (BIG + 100))).2 else if a = BIG + 200 then t1 else if a = BIG + 201 then t2 else if a = BIG + 202 then t3 else b, rfl, fun φ => ?_⟩
  have e1 : ∀ j, j < 60 → (if BIG + j < BIG + 100 then (f (BIG + j - BIG)).1 else if BIG + j < BIG + 200 then (f (BIG + j - (BIG + 100))).2 else if BIG + j = BIG + 200 then t1 else if BIG + j = BIG + 201 then t2 else if BIG + j = BIG + 202 then t3 else b) = (f j).1 := fun j hj => by rw [if_pos (by omega), Nat.add_sub_cancel_left]
  have e2 : ∀ j, j < 60 → (if BIG + 100 + j < BIG + 100 then (f (BIG + 100 + j - BIG)).1 else if BIG + 100 + j < BIG + 200 then (f (BIG + 100 + j - (BIG + 100))).2 else if BIG + 100 + j = BIG + 200 then t1 else if BIG + 100 + j = BIG + 201 then t2 else if BIG + 100 + j = BIG + 202 then t3 else b) = (f j).2 := fun j hj => by rw [if_neg (by omega), if_pos (by omega), Nat.add_sub_cancel_left]
  refine ⟨fun j hj q hq => ?_, fun j hj => ?_, ?_, hz1, hz2, ht1, ht2, hS, ?_, ?_, st_alln hts⟩
  · have hj2 : j < 60 := hj
    show vk_R q.1 q.2.1 q.2.2 (if BIG + j < BIG + 100 then _ else _) s
    rw [e1 j hj2]
    have h5 := (hf j hj2).1
    unfold sTm at h5
    rw [hq] at h5
    exact vk_R.of (st_refs hts j q hq) h5
  · have hj2 : j < 60 := hj
    show va_OF _ _ _ _ (if BIG + j < BIG + 100 then _ else _) _ _ _ ∧ va_OF _ _ _ (.ref (if BIG + 100 + j < BIG + 100 then _ else _)) (if BIG + j < BIG + 100 then _ else _) _ _ _ ∧ va_O _ (if BIG + j < BIG + 100 then _ else _) _ _ _ ∧ va_T _ (if BIG + 100 + j < BIG + 100 then _ else _) _ _ _ _ _
    rw [e1 j hj2, e2 j hj2]
    exact (hf j hj2).2
  · exact va_Zof (hts _ (List.mem_of_getElem? (i := 514) (by decide +kernel))) (hts _ (List.mem_of_getElem? (i := 174) (by decide +kernel))) (va_eqi (nd_h h (by simp [hCs]))) hA
  · exact vx_Zqof (hts _ (List.mem_of_getElem? (i := 651) (by decide +kernel))) (hts _ (List.mem_of_getElem? (i := 177) (by decide +kernel))) (nd_h h (by simp [hCs])) hA
  · exact vx_Zqof (hts _ (List.mem_of_getElem? (i := 653) (by decide +kernel))) (hts _ (List.mem_of_getElem? (i := 177) (by decide +kernel))) (nd_h h (by simp [hCs])) hA
theorem st_NCs (h : ∀ c ∈ needs, c.before A9 s = true) : NCs s := ⟨va_Nc.of (nd_n h (by simp [nCs])), va_Nc.of (nd_n h (by simp [nCs])), va_Nc.of (nd_n h (by simp [nCs])), va_Nc.of (nd_n h (by simp [nCs]))⟩
end ST
/-! THE CLAIM OUT OF ONE WALK OF THE LAW'S BODY. Your part is whole_start (and what it stands on); all else here is the same for every law, but numbers. -/
def R_law : String := "NotaryBookLaw"
def lw_P (b : Addr) (xs : List Int32) (args : Array Value) (s : State) : Prop := args = #[.ref b] ∧ s.IntsAt b xs ∧ xs.length ≤ 3072 ∧ (Jvm.Cond.and given_1 narrow_1).before args s = true
/-- what a walk over the start with the record d0 says of its end, said of the start itself -/
theorem lw_closed {s t : State} {o : Outcome} {d0 : Drawn} {L : List Loc} {k n : Nat} (hd0 : s.drawn.sameBut d0 lw_cs) (hv : ∃ v, o = .returned v) (hW : (s.setDrawn d0).WarmedH t.vm) (hs : (s.setDrawn d0).sameButNew ({ t with vm := s.vm } : State) L k n) : State.butDraws s t lw_cs (fun t1 => Framed s o t1 L k n) := by
  have h2 : t.drawn = d0 := congrArg State.drawn hs.1
  refine ⟨⟨hv, hW, State.sameButNew.setDrawn hs s.drawn⟩, ?_, by decide⟩
  rw [h2]
  exact hd0
def lw_Q (_ : Array Value) (s : State) (o : Outcome) (t : State) : Prop := o = .returned (some (.int 1)) ∧ State.butDraws s t lw_cs (fun t1 => Framed s o t1 [] 601024 7293034)
def lw_Z (below : List Frame) (a : Array Value) (s : State) : State → Prop := fun t => ∃ o, t.status = .running ∧ Ended t below o ∧ lw_Q a s o t
/-- the law's own end, with 1 on the stack, nothing written that was there before, its room as the claim has it; d0: the record of draws at this point (at the entry s.drawn: begin with 'refine W.base ?_' and 'have hd0 := Drawn.sameBut.refl s.drawn lw_cs') -/
theorem lw_ret {p : Program} {l : Launch} {e : Env} {s : State} {m : MethodId} {below : List Frame} {meth : Method} {c : Code} {b : Nat} {d0 : Drawn} (hd0 : s.drawn.sameBut d0 lw_cs) (hx : p.tables.exec = Jvm.exec) (hb : c.code = code) (hr : meth.sig.returnType = ret) (hlocks : meth.locks = false) {pc : Nat} {H : Heap} {ls : Array Slot} (hdg : decode code pc = .ok (.ireturn, 1)) : W p l e room_1 (s.setDrawn d0) m #[Value.ref b] below meth c H [] 601024 7293034 (lw_Z below #[Value.ref b] s) (F0 m pc ls [.int 1]) := by
  intro T hT X
  obtain ⟨fs, hret, hrun, hended, hW, hframe⟩ := X.leave (v := some (.int 1)) (hlocks := hlocks) (fun h => by rw [hr] at h; cases h)
  have hmeth' : T.vm.method? m = some meth := X.method'
  refine ⟨T.setFrames fs, ?_, .returned (some (.int 1)), hrun, hended, rfl, lw_closed hd0 ⟨_, rfl⟩ hW hframe⟩
  jvm_step X.here [X.here.top, hx, hb, hdg, hmeth', hr, ret, narrow_b1]
  (try refine ⟨rfl, ?_⟩); (try refine ⟨rfl, ?_⟩)
  first | (intro acts; rw [hret _ acts rfl rfl rfl]) | rw [hret _ _ rfl rfl rfl]
  exact Steps.refl _
/-- what holds at the law's entry: the machine, the code, the tables' words (any of lw_tbl by 'hts w (by decide +kernel)'), the script of L ints xs at the cell b, what the Statement gives of the start (any of its parts by flat_of_before) -/
def lw_At (p : Program) (s : State) (m : MethodId) (meth : Method) (c : Code) (b L : Nat) (xs : Nat → Int32) : Prop :=
  p.tables.exec = Jvm.exec ∧ c.code = code ∧ meth.sig.returnType = ret ∧ c.maxLocals = 9 ∧ s.vm.findClass R_law = some m.cls ∧ (∀ w ∈ lw_tbl, w.before #[Value.ref b] s = true) ∧ va_X b L xs s s.heap ∧ b < s.heap.size ∧ meth.locks = false ∧ (Jvm.Cond.and given_1 narrow_1).before #[Value.ref b] s = true
theorem dL_law_3326 : decode cL_law 3326 = .ok (.ireturn, 1) := by decide +kernel
theorem byS_byte : ∀ j, j < 60 → ∀ v ∈ byS j, v.toInt8.toInt32 = v := by decide +kernel
theorem dig_byte : ∀ n, n < 10 → (Int32.ofNat (48 + n)).toInt8.toInt32 = Int32.ofNat (48 + n) := by decide +kernel
/-- the empty clean heap -/
def σE : HpT := (0, fun _ => 99, fun _ => 0, fun _ _ => 0, fun _ _ => 0, fun _ _ => none, fun _ _ => 0)
theorem cI_byte (i k : Nat) (h : hK σE i = 22) : (hI σE i k).toInt8.toInt32 = hI σE i k := by
  have e : hI σE i k = cI i k := if_neg (Nat.not_lt_zero _)
  rw [e]
  unfold cI
  split
  · decide
  · rename_i h1
    split
    · rename_i h2
      have hk : cK i = 22 := (if_neg (Nat.not_lt_zero _)).symm.trans h
      have hj : i - (BIG + 100) < 60 := by
        unfold cK at hk
        rw [if_neg (by omega), if_neg (by unfold nSt; omega), if_neg (by omega)] at hk
        split at hk
        · rename_i h3
          unfold nSt at h3
          omega
        · split at hk
          · omega
          · cases hk
      generalize i - (BIG + 100) = j at hj ⊢
      by_cases hl : k < (byS j).length
      · rw [List.getD_eq_getElem?_getD, List.getElem?_eq_getElem hl, Option.getD_some]
        exact byS_byte _ hj _ (List.getElem_mem hl)
      · rw [List.getD_eq_getElem?_getD, List.getElem?_eq_none (Nat.not_lt.mp hl)]
        decide
    · split
      · exact dig_byte _ (Nat.mod_lt _ (by decide))
      · exact dig_byte _ (Nat.mod_lt _ (by decide))
set_option maxRecDepth 100000 in
theorem whole_of {p : Program} {e : Env} {s : State} {m : MethodId} {below : List Frame} {meth : Method} {c : Code} (l : Launch) (hflags : l.flags = flags0) {b L : Nat} {xs : Nat → Int32} {σ' : HpT} {o : Except Nat Unit} {a9 b9 : Nat} (hlaw : fL_law L xs σE = some (o, σ', a9, b9)) (ha9 : a9 ≤ 601024) (hb9 : b9 ≤ 7293034) (C0 : lw_At p s m meth c b L xs) : W p l e room_1 s m #[Value.ref b] below meth c s.heap [] 0 0 (lw_Z below #[Value.ref b] s) (entryFrame m ([Value.ref b] : List Value).toArray 9) := by
  obtain ⟨hx, hb, hr, hml, hown, hts, hX, hbl, hlocks, hgv⟩ := id C0
  have hneed := needs_ok hgv
  obtain ⟨D, aC, hK⟩ := st_K hts
  obtain ⟨φ0, h203, hEv⟩ := st_Ev hts hneed b D aC (fun _ => 0) σE
  have hl := lv_entry ([.ref b]) (n := 9) (Nat.le_of_ble_eq_true rfl)
  rw [lg_entry_eq]
  generalize (lg_sl ([.ref b]) ++ List.replicate (9 - (lg_sl ([.ref b])).length) Slot.unset).toArray = ls at hl ⊢
  have hl : lv_has ls 9 [(0, .ref b)] := hl
  have hst : l.stackTraces = false := by
    unfold Launch.stackTraces
    rw [hflags]
    decide
  have B : Bd (D, aC, φ0, s.heap.size, φ0, σE) (p, l, e, room_1, s, m, #[Value.ref b], below, meth, c, lw_Z below #[Value.ref b] s) RL cL_law 9 2048 84000 601024 7293034 :=
    ⟨hx, hb, hml, hown, st_allw hts, hK, Nat.le_refl _, hEv φ0, rfl, rfl, rfl, rfl, hlocks, hst⟩
  have hX9 : Scr (D, aC, φ0, s.heap.size, φ0, σE) (p, l, e, room_1, s, m, #[Value.ref b], below, meth, c, lw_Z below #[Value.ref b] s) L xs := by
    refine ⟨?_, ?_, Nat.le_refl _⟩
    · show va_X (φ0 (BIG + 203)) L xs s s.heap
      rw [h203]; exact hX
    · show φ0 (BIG + 203) < s.heap.size
      rw [h203]; exact hbl
  have k := cL_lawc B hX9 (st_NCs hneed) (fun kc ks L9 σ9 hc hs φ H locs ls9 hp hst9 hL9 hl9 => ?_) hlaw ha9 hb9
  · refine k φ0 s.heap [] ls ⟨fun k q h => by simp [wsOf, hN, σE] at h, ⟨fun i j p q h => by simp [wsOf, hN, σE] at h, fun k q h => by simp [wsOf, hN, σE] at h⟩, va_S.rf, fun _ _ => rfl, ⟨Nat.zero_le _, fun i k j h => absurd h (Nat.not_lt_zero _), fun i k h => ?_⟩, fun _ _ => rfl, Nat.le_refl _⟩ (fun _ h => absurd h List.not_mem_nil) (fun q hq => ?_) ?_
    · exact cI_byte i k h
    · cases List.mem_singleton.mp hq
      exact Or.inr (Nat.le_add_right _ _)
    · show lv_has ls c.maxLocals [(0, .ref (φ0 (BIG + 203)))]
      rw [h203, hml]
      exact hl
  · show W p l e room_1 s m #[Value.ref b] below meth c H locs kc ks (lw_Z below #[Value.ref b] s) (F0 m 3326 ls9 [.int 1])
    refine va_forget (fun q hq => hp.2.2.1.2.2 q hq) (W.widen hc hs ?_)
    exact W.base (lw_ret (Drawn.sameBut.refl s.drawn lw_cs) hx hb hr hlocks dL_law_3326)
