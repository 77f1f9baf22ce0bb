/-! LOCALS BEHIND A STORE; small things for the printed walks -/
section FIL
variable {i j : Nat} {v w : Value} {t t' : List (Nat × Value)}
theorem f1_n : ([] : List (Nat × Value)).filter (fun q => !(q.1 == i) && !(q.1 + 1 == i && q.2.category == 2)) = [] := rfl
theorem f1_k (h : (j == i || j + 1 == i) = false) (k : t.filter (fun q => !(q.1 == i) && !(q.1 + 1 == i && q.2.category == 2)) = t') : ((j, v) :: t).filter (fun q => !(q.1 == i) && !(q.1 + 1 == i && q.2.category == 2)) = (j, v) :: t' := by
  have h2 := Bool.or_eq_false_iff.mp h
  rw [List.filter_cons_of_pos (by simp only [h2.1, h2.2]; rfl), k]
theorem f1_1 (h : (j == i) = false) (hc : v.category = 1) (k : t.filter (fun q => !(q.1 == i) && !(q.1 + 1 == i && q.2.category == 2)) = t') : ((j, v) :: t).filter (fun q => !(q.1 == i) && !(q.1 + 1 == i && q.2.category == 2)) = (j, v) :: t' := by
  rw [List.filter_cons_of_pos (by simp [h, hc]), k]
theorem f1_x (k : t.filter (fun q => !(q.1 == i) && !(q.1 + 1 == i && q.2.category == 2)) = t') : ((i, v) :: t).filter (fun q => !(q.1 == i) && !(q.1 + 1 == i && q.2.category == 2)) = t' := by
  rw [List.filter_cons_of_neg (by simp), k]
theorem f1_w (hc : v.category = 2) (k : t.filter (fun q => !(q.1 == j + 1) && !(q.1 + 1 == j + 1 && q.2.category == 2)) = t') : ((j, v) :: t).filter (fun q => !(q.1 == j + 1) && !(q.1 + 1 == j + 1 && q.2.category == 2)) = t' := by
  rw [List.filter_cons_of_neg (by simp [hc]), k]
theorem s1_c (k : t.filter (fun q => !(q.1 == i) && !(q.1 + 1 == i && q.2.category == 2)) = t') : st1 i w t = (i, w) :: t' := by
  unfold st1
  rw [k]
theorem f2_n : ([] : List (Nat × Value)).filter (fun q => !(q.1 == i) && (!(q.1 == i + 1) && !(q.1 + 1 == i && q.2.category == 2))) = [] := rfl
theorem f2_k (h : (j == i || (j == i + 1 || j + 1 == i)) = false) (k : t.filter (fun q => !(q.1 == i) && (!(q.1 == i + 1) && !(q.1 + 1 == i && q.2.category == 2))) = t') : ((j, v) :: t).filter (fun q => !(q.1 == i) && (!(q.1 == i + 1) && !(q.1 + 1 == i && q.2.category == 2))) = (j, v) :: t' := by
  have h2 := Bool.or_eq_false_iff.mp h
  have h3 := Bool.or_eq_false_iff.mp h2.2
  rw [List.filter_cons_of_pos (by simp only [h2.1, h3.1, h3.2]; rfl), k]
theorem f2_1 (h : (j == i || j == i + 1) = false) (hc : v.category = 1) (k : t.filter (fun q => !(q.1 == i) && (!(q.1 == i + 1) && !(q.1 + 1 == i && q.2.category == 2))) = t') : ((j, v) :: t).filter (fun q => !(q.1 == i) && (!(q.1 == i + 1) && !(q.1 + 1 == i && q.2.category == 2))) = (j, v) :: t' := by
  have h2 := Bool.or_eq_false_iff.mp h
  rw [List.filter_cons_of_pos (by simp only [h2.1, h2.2, hc]; simp), k]
theorem f2_x (k : t.filter (fun q => !(q.1 == i) && (!(q.1 == i + 1) && !(q.1 + 1 == i && q.2.category == 2))) = t') : ((i, v) :: t).filter (fun q => !(q.1 == i) && (!(q.1 == i + 1) && !(q.1 + 1 == i && q.2.category == 2))) = t' := by
  rw [List.filter_cons_of_neg (by simp), k]
theorem f2_y (k : t.filter (fun q => !(q.1 == i) && (!(q.1 == i + 1) && !(q.1 + 1 == i && q.2.category == 2))) = t') : ((i + 1, v) :: t).filter (fun q => !(q.1 == i) && (!(q.1 == i + 1) && !(q.1 + 1 == i && q.2.category == 2))) = t' := by
  rw [List.filter_cons_of_neg (by simp), k]
theorem s2_c (k : t.filter (fun q => !(q.1 == i) && (!(q.1 == i + 1) && !(q.1 + 1 == i && q.2.category == 2))) = t') : st2 i w t = (i, w) :: t' := by
  unfold st2
  rw [k]
end FIL
theorem ifp {α : Type} {c : Prop} {hd : Decidable c} (hc : c) {a b y : α} (h : (if c then a else b) = y) : a = y := by rw [if_pos hc] at h; exact h
theorem ifn {α : Type} {c : Prop} {hd : Decidable c} (hc : ¬ c) {a b y : α} (h : (if c then a else b) = y) : b = y := by rw [if_neg hc] at h; exact h
theorem bI0 {b : Bool} (h : bI b = 0) : ¬ b = true := by intro e; subst e; exact absurd h (by decide)
theorem bI1 {b : Bool} (h : ¬ bI b = 0) : b = true := by
  cases b with
  | false => exact absurd rfl h
  | true => rfl
theorem bk {k a1 a2 A : Nat} (h : k + (a1 + a2) = A) : k + a1 + a2 = A := (Nat.add_assoc _ _ _).trans h
theorem bl {k a1 a2 A : Nat} (h : k + (a1 + a2) = A) : k + a1 ≤ A := by omega
theorem bl0 {k a A : Nat} (h : k + a = A) : k + 0 ≤ A := by omega
def oU : Except Nat Unit → Except Nat (Option Value)
  | .ok _ => .ok none
  | .error e => .error e
def oI : Except Nat Int32 → Except Nat (Option Value)
  | .ok v => .ok (some (.int v))
  | .error e => .error e
def oB : Except Nat Bool → Except Nat (Option Value)
  | .ok v => .ok (some (.int (bI v)))
  | .error e => .error e
def oJ : Except Nat Int64 → Except Nat (Option Value)
  | .ok v => .ok (some (.long v))
  | .error e => .error e
def oF : Except Nat UInt32 → Except Nat (Option Value)
  | .ok v => .ok (some (.float v))
  | .error e => .error e
def oD : Except Nat UInt64 → Except Nat (Option Value)
  | .ok v => .ok (some (.double v))
  | .error e => .error e
def oA : Except Nat (Option Nat) → Except Nat (Option Value)
  | .ok v => .ok (some (va_rf v))
  | .error e => .error e
theorem tne {x y : Int32} (h : ¬ x = y) {k : Int} (hk : y.toInt = k) : x.toInt ≠ k := fun q => h (Int32.toInt_inj.mp (q.trans hk.symm))
