/-! p56, pure: the law's objects are made -/
def mS (q : Nat × (Nat → Int32)) (σ : HpT) : HpT := (σ.1, σ.2.1, σ.2.2.1, σ.2.2.2.1, σ.2.2.2.2.1, σ.2.2.2.2.2.1, q)
def PA {α : Type} (q : Nat × (Nat → Int32)) (o1 o2 : AT α) : Prop := o1 = o2.map (fun p => (p.1, mS q p.2.1, p.2.2))
def PH (q : Nat × (Nat → Int32)) (o1 o2 : Option HpT) : Prop := o1 = o2.map (mS q)
section P56V
variable {α β : Type} {q : Nat × (Nat → Int32)} {σ : HpT} {r x : Option Nat} {κ k : Nat} {v : Int32}
theorem pm_A {o1 o2 : AT α} {f g : α → HpT → AT β} (h : PA q o1 o2) (hf : ∀ v σ, PA q (f v (mS q σ)) (g v σ)) : PA q (bnA o1 f) (bnA o2 g) := by
  unfold PA at h ⊢
  rw [h]
  match o2 with
  | none => rfl
  | some (.error e, σ, i, j) => rfl
  | some (.ok w, σ, i, j) =>
    have e := hf w σ
    unfold PA at e
    show (match f w (mS q σ) with
      | none => none
      | some (y, σ2, a2, b2) => some (y, σ2, i + a2, j + b2)) = Option.map _ (match g w σ with
      | none => none
      | some (y, σ2, a2, b2) => some (y, σ2, i + a2, j + b2))
    rw [e]
    match g w σ with
    | none => rfl
    | some (y, σ2, a2, b2) => rfl
theorem pm_O {o1 o2 : AT α} {f g : α → HpT → AT β} (h : PA q o1 o2) (hf : ∀ v σ, PA q (f v (mS q σ)) (g v σ)) : PA q (bnO o1 f) (bnO o2 g) := by
  unfold PA at h ⊢
  rw [h]
  match o2 with
  | none => rfl
  | some (.error e, σ, i, j) => rfl
  | some (.ok w, σ, i, j) =>
    have e := hf w σ
    unfold PA at e
    show (match f w (mS q σ) with
      | none => none
      | some (y, σ2, a2, b2) => some (y, σ2, i + a2, j + b2)) = Option.map _ (match g w σ with
      | none => none
      | some (y, σ2, a2, b2) => some (y, σ2, i + a2, j + b2))
    rw [e]
    match g w σ with
    | none => rfl
    | some (y, σ2, a2, b2) => rfl
theorem pm_H {o1 o2 : Option HpT} {f g : HpT → AT β} (h : PH q o1 o2) (hf : ∀ σ, PA q (f (mS q σ)) (g σ)) : PA q (bnP o1 f) (bnP o2 g) := by
  unfold PH at h
  rw [h]
  cases o2 with
  | none => rfl
  | some σ => exact hf σ
theorem pm_HH {o1 o2 : Option HpT} {f g : HpT → Option HpT} (h : PH q o1 o2) (hf : ∀ σ, PH q (f (mS q σ)) (g σ)) : PH q (bnP o1 f) (bnP o2 g) := by
  unfold PH at h
  rw [h]
  cases o2 with
  | none => rfl
  | some σ => exact hf σ
theorem pm_U {f g : Unit → AT β} (hf : ∀ u, PA q (f u) (g u)) : PA q (bnP (isK (mS q σ) r κ) f) (bnP (isK σ r κ) g) := by
  rw [show isK (mS q σ) r κ = isK σ r κ from rfl]
  cases isK σ r κ with
  | none => rfl
  | some u => exact hf u
theorem pm_UH {f g : Unit → Option HpT} (hf : ∀ u, PH q (f u) (g u)) : PH q (bnP (isK (mS q σ) r κ) f) (bnP (isK σ r κ) g) := by
  rw [show isK (mS q σ) r κ = isK σ r κ from rfl]
  cases isK σ r κ with
  | none => rfl
  | some u => exact hf u
theorem pm_UU {f g : Unit → Option HpT} (hf : ∀ u, PH q (f u) (g u)) : PH q (bnP (fJxa1e45_init_da8c8 r (mS q σ)) f) (bnP (fJxa1e45_init_da8c8 r σ) g) := by
  rw [show fJxa1e45_init_da8c8 r (mS q σ) = fJxa1e45_init_da8c8 r σ from rfl]
  cases fJxa1e45_init_da8c8 r σ with
  | none => rfl
  | some u => exact hf u
theorem pm_nA : PA q (nwA κ (mS q σ)) (nwA κ σ) := by
  unfold PA nwA
  rw [show hN (mS q σ) = hN σ from rfl]
  by_cases h : hN σ < BIG
  · rw [if_pos h, if_pos h]; rfl
  · rw [if_neg h, if_neg h]; rfl
theorem pm_nR : PA q (nwR κ v (mS q σ)) (nwR κ v σ) := by
  unfold PA nwR
  rw [show hN (mS q σ) = hN σ from rfl]
  by_cases h : hN σ < BIG ∧ 0 ≤ v.toInt ∧ v.toInt ≤ 1000000
  · rw [if_pos h, if_pos h]; rfl
  · rw [if_neg h, if_neg h]; rfl
theorem pm_pR : PH q (pR (mS q σ) r κ k x) (pR σ r κ k x) := by
  unfold PH
  cases r with
  | none => rfl
  | some a =>
    show (if hK σ a = κ ∧ a < hN σ then some (wR (mS q σ) a k x) else none) = Option.map (mS q) (if hK σ a = κ ∧ a < hN σ then some (wR σ a k x) else none)
    by_cases h : hK σ a = κ ∧ a < hN σ
    · rw [if_pos h, if_pos h]; rfl
    · rw [if_neg h, if_neg h]; rfl
theorem pm_pI : PH q (pI (mS q σ) r κ k v) (pI σ r κ k v) := by
  unfold PH
  cases r with
  | none => rfl
  | some a =>
    show (if hK σ a = κ ∧ a < hN σ then some (wI (mS q σ) a k v) else none) = Option.map (mS q) (if hK σ a = κ ∧ a < hN σ then some (wI σ a k v) else none)
    by_cases h : hK σ a = κ ∧ a < hN σ
    · rw [if_pos h, if_pos h]; rfl
    · rw [if_neg h, if_neg h]; rfl
theorem pm_pB : PH q (pB (mS q σ) r κ k v) (pB σ r κ k v) := by
  unfold pB
  by_cases h : v.toInt8.toInt32 = v
  · rw [if_pos h, if_pos h]; exact pm_pI
  · rw [if_neg h, if_neg h]; rfl
theorem pm_sR {κ2 : Nat} {i : Int32} : PH q (sR (mS q σ) r κ κ2 i x) (sR σ r κ κ2 i x) := by
  unfold PH
  cases r with
  | none => rfl
  | some a =>
    cases x with
    | none => rfl
    | some b =>
      have hz : a < hN σ → hZ (mS q σ) a = hZ σ a := fun h => (if_pos h).trans (if_pos h).symm
      show (if ((hK σ a = κ ∧ inbB i (hZ (mS q σ) a) = true) ∧ a < hN σ) ∧ hK σ b = κ2 ∧ b < hN σ then some (wR (mS q σ) a i.toNatClampNeg (some b)) else none) = Option.map (mS q) (if ((hK σ a = κ ∧ inbB i (hZ σ a) = true) ∧ a < hN σ) ∧ hK σ b = κ2 ∧ b < hN σ then some (wR σ a i.toNatClampNeg (some b)) else none)
      by_cases ha : a < hN σ
      · rw [hz ha]
        by_cases h : ((hK σ a = κ ∧ inbB i (hZ σ a) = true) ∧ a < hN σ) ∧ hK σ b = κ2 ∧ b < hN σ
        · rw [if_pos h, if_pos h]; rfl
        · rw [if_neg h, if_neg h]; rfl
      · rw [if_neg (fun h => ha h.1.2), if_neg (fun h => ha h.1.2)]; rfl
theorem pm_rA {w : α} {i j : Nat} : PA q (some (.ok w, mS q σ, i, j)) (some (.ok w, σ, i, j)) := rfl
theorem pm_rH : PH q (some (mS q σ)) (some σ) := rfl
theorem pm_if {c : Prop} [Decidable c] {o1 o2 p1 p2 : AT α} (h1 : PA q o1 o2) (h2 : PA q p1 p2) : PA q (if c then o1 else p1) (if c then o2 else p2) := by
  by_cases h : c
  · rw [if_pos h, if_pos h]; exact h1
  · rw [if_neg h, if_neg h]; exact h2
theorem pm_lp {f : α → HpT → AT (α ⊕ β)} (hf : ∀ a σ, PA q (f a (mS q σ)) (f a σ)) : ∀ F a σ, PA q (lpA f F a (mS q σ)) (lpA f F a σ) := by
  intro F
  induction F with
  | zero => intro a σ; rfl
  | succ F ih =>
    intro a σ
    have e := hf a σ
    unfold PA at e ⊢
    unfold lpA
    rw [e]
    match f a σ with
    | none => rfl
    | some (.error w, σ', i, j) => rfl
    | some (.ok (.inr w), σ', i, j) => rfl
    | some (.ok (.inl w), σ', i, j) =>
      have e2 := ih w σ'
      unfold PA at e2
      show (match lpA f F w (mS q σ') with
        | none => none
        | some (y, σ2, i2, j2) => some (y, σ2, i + i2, j + j2)) = Option.map _ (match lpA f F w σ' with
        | none => none
        | some (y, σ2, i2, j2) => some (y, σ2, i + i2, j + j2))
      rw [e2]
      match lpA f F w σ' with
      | none => rfl
      | some (y, σ2, a2, b2) => rfl
theorem pm_UP {γ : Type} {o1 o2 : Option γ} {f g : γ → AT β} (h : o1 = o2) (hf : ∀ u, PA q (f u) (g u)) : PA q (bnP o1 f) (bnP o2 g) := by
  rw [h]
  cases o2 with
  | none => rfl
  | some u => exact hf u
theorem pmi_8 : PA q (fX8_init r (mS q σ)) (fX8_init r σ) := by
  unfold fX8_init
  repeat (first | exact pm_rA | exact pm_rH | exact pm_nA | exact pm_nR | exact pm_pR | exact pm_pI | exact pm_pB | exact pm_sR | (refine pm_A ?_ (fun _ _ => ?_)) | (refine pm_O ?_ (fun _ _ => ?_)) | (refine pm_U (fun _ => ?_)) | (refine pm_UH (fun _ => ?_)) | (refine pm_UU (fun _ => ?_)) | (refine pm_H ?_ (fun _ => ?_)) | (refine pm_HH ?_ (fun _ => ?_)) | (refine pm_UP rfl (fun _ => ?_)) | (refine pm_if ?_ ?_) | (refine pm_lp (fun _ _ => ?_) _ _ _))
theorem pmi_4 : PA q (fX4_init r (mS q σ)) (fX4_init r σ) := by
  unfold fX4_init
  repeat (first | exact pm_rA | exact pm_rH | exact pm_nA | exact pm_nR | exact pm_pR | exact pm_pI | exact pm_pB | exact pm_sR | exact pmi_8 | (refine pm_A ?_ (fun _ _ => ?_)) | (refine pm_O ?_ (fun _ _ => ?_)) | (refine pm_U (fun _ => ?_)) | (refine pm_UH (fun _ => ?_)) | (refine pm_UU (fun _ => ?_)) | (refine pm_H ?_ (fun _ => ?_)) | (refine pm_HH ?_ (fun _ => ?_)) | (refine pm_UP rfl (fun _ => ?_)) | (refine pm_if ?_ ?_) | (refine pm_lp (fun _ _ => ?_) _ _ _))
theorem pmi_11 {a : Int32} : PA q (fX1_init_l1 r a (mS q σ)) (fX1_init_l1 r a σ) := by
  unfold fX1_init_l1
  repeat (first | exact pm_rA | exact pm_rH | exact pm_nA | exact pm_nR | exact pm_pR | exact pm_pI | exact pm_pB | exact pm_sR | (refine pm_A ?_ (fun _ _ => ?_)) | (refine pm_O ?_ (fun _ _ => ?_)) | (refine pm_U (fun _ => ?_)) | (refine pm_UH (fun _ => ?_)) | (refine pm_UU (fun _ => ?_)) | (refine pm_H ?_ (fun _ => ?_)) | (refine pm_HH ?_ (fun _ => ?_)) | (refine pm_UP rfl (fun _ => ?_)) | (refine pm_if ?_ ?_) | (refine pm_lp (fun _ _ => ?_) _ _ _))
theorem pmi_12 {a : Int32} : PA q (fX1_init_l2 r a (mS q σ)) (fX1_init_l2 r a σ) := by
  unfold fX1_init_l2
  repeat (first | exact pm_rA | exact pm_rH | exact pm_nA | exact pm_nR | exact pm_pR | exact pm_pI | exact pm_pB | exact pm_sR | (refine pm_A ?_ (fun _ _ => ?_)) | (refine pm_O ?_ (fun _ _ => ?_)) | (refine pm_U (fun _ => ?_)) | (refine pm_UH (fun _ => ?_)) | (refine pm_UU (fun _ => ?_)) | (refine pm_H ?_ (fun _ => ?_)) | (refine pm_HH ?_ (fun _ => ?_)) | (refine pm_UP rfl (fun _ => ?_)) | (refine pm_if ?_ ?_) | (refine pm_lp (fun _ _ => ?_) _ _ _))
theorem pmi_1 : PA q (fX1_init r (mS q σ)) (fX1_init r σ) := by
  unfold fX1_init
  repeat (first | exact pm_rA | exact pm_rH | exact pm_nA | exact pm_nR | exact pm_pR | exact pm_pI | exact pm_pB | exact pm_sR | exact pmi_8 | exact pmi_4 | exact pmi_11 | exact pmi_12 | (refine pm_A ?_ (fun _ _ => ?_)) | (refine pm_O ?_ (fun _ _ => ?_)) | (refine pm_U (fun _ => ?_)) | (refine pm_UH (fun _ => ?_)) | (refine pm_UU (fun _ => ?_)) | (refine pm_H ?_ (fun _ => ?_)) | (refine pm_HH ?_ (fun _ => ?_)) | (refine pm_UP rfl (fun _ => ?_)) | (refine pm_if ?_ ?_) | (refine pm_lp (fun _ _ => ?_) _ _ _))
theorem pmi_7 : PA q (fX7_init r (mS q σ)) (fX7_init r σ) := by
  unfold fX7_init
  repeat (first | exact pm_rA | exact pm_rH | exact pm_nA | exact pm_nR | exact pm_pR | exact pm_pI | exact pm_pB | exact pm_sR | exact pmi_8 | exact pmi_4 | exact pmi_1 | (refine pm_A ?_ (fun _ _ => ?_)) | (refine pm_O ?_ (fun _ _ => ?_)) | (refine pm_U (fun _ => ?_)) | (refine pm_UH (fun _ => ?_)) | (refine pm_UU (fun _ => ?_)) | (refine pm_H ?_ (fun _ => ?_)) | (refine pm_HH ?_ (fun _ => ?_)) | (refine pm_UP rfl (fun _ => ?_)) | (refine pm_if ?_ ?_) | (refine pm_lp (fun _ _ => ?_) _ _ _))
theorem pmi_5 : PA q (fX5_init r (mS q σ)) (fX5_init r σ) := by
  unfold fX5_init
  repeat (first | exact pm_rA | exact pm_rH | exact pm_nA | exact pm_nR | exact pm_pR | exact pm_pI | exact pm_pB | exact pm_sR | exact pmi_8 | exact pmi_4 | exact pmi_1 | exact pmi_7 | (refine pm_A ?_ (fun _ _ => ?_)) | (refine pm_O ?_ (fun _ _ => ?_)) | (refine pm_U (fun _ => ?_)) | (refine pm_UH (fun _ => ?_)) | (refine pm_UU (fun _ => ?_)) | (refine pm_H ?_ (fun _ => ?_)) | (refine pm_HH ?_ (fun _ => ?_)) | (refine pm_UP rfl (fun _ => ?_)) | (refine pm_if ?_ ?_) | (refine pm_lp (fun _ _ => ?_) _ _ _))
theorem pmi_J4 : PA q (fJ4_init_da8c8 r (mS q σ)) (fJ4_init_da8c8 r σ) := by
  unfold fJ4_init_da8c8 fJ5_init_d00df
  repeat (first | exact pm_rA | exact pm_rH | exact pm_nA | exact pm_nR | exact pm_pR | exact pm_pI | exact pm_pB | exact pm_sR | exact pmi_8 | exact pmi_4 | exact pmi_1 | exact pmi_7 | exact pmi_5 | (refine pm_A ?_ (fun _ _ => ?_)) | (refine pm_O ?_ (fun _ _ => ?_)) | (refine pm_U (fun _ => ?_)) | (refine pm_UH (fun _ => ?_)) | (refine pm_UU (fun _ => ?_)) | (refine pm_H ?_ (fun _ => ?_)) | (refine pm_HH ?_ (fun _ => ?_)) | (refine pm_UP rfl (fun _ => ?_)) | (refine pm_if ?_ ?_) | (refine pm_lp (fun _ _ => ?_) _ _ _))
theorem pmi_6 : PA q (fX6_init r (mS q σ)) (fX6_init r σ) := by
  unfold fX6_init
  repeat (first | exact pm_rA | exact pm_rH | exact pm_nA | exact pm_nR | exact pm_pR | exact pm_pI | exact pm_pB | exact pm_sR | exact pmi_8 | exact pmi_4 | exact pmi_1 | exact pmi_7 | exact pmi_5 | exact pmi_J4 | (refine pm_A ?_ (fun _ _ => ?_)) | (refine pm_O ?_ (fun _ _ => ?_)) | (refine pm_U (fun _ => ?_)) | (refine pm_UH (fun _ => ?_)) | (refine pm_UU (fun _ => ?_)) | (refine pm_H ?_ (fun _ => ?_)) | (refine pm_HH ?_ (fun _ => ?_)) | (refine pm_UP rfl (fun _ => ?_)) | (refine pm_if ?_ ?_) | (refine pm_lp (fun _ _ => ?_) _ _ _))
theorem pmi_9 : PA q (fX9_init r (mS q σ)) (fX9_init r σ) := by
  unfold fX9_init
  repeat (first | exact pm_rA | exact pm_rH | exact pm_nA | exact pm_nR | exact pm_pR | exact pm_pI | exact pm_pB | exact pm_sR | exact pmi_8 | exact pmi_4 | exact pmi_1 | exact pmi_7 | exact pmi_5 | exact pmi_J4 | exact pmi_6 | (refine pm_A ?_ (fun _ _ => ?_)) | (refine pm_O ?_ (fun _ _ => ?_)) | (refine pm_U (fun _ => ?_)) | (refine pm_UH (fun _ => ?_)) | (refine pm_UU (fun _ => ?_)) | (refine pm_H ?_ (fun _ => ?_)) | (refine pm_HH ?_ (fun _ => ?_)) | (refine pm_UP rfl (fun _ => ?_)) | (refine pm_if ?_ ?_) | (refine pm_lp (fun _ _ => ?_) _ _ _))
theorem pmi_c : PH q (fJxc12de_init_da8c8 r (mS q σ)) (fJxc12de_init_da8c8 r σ) := by
  unfold fJxc12de_init_da8c8
  repeat (first | exact pm_rA | exact pm_rH | exact pm_nA | exact pm_nR | exact pm_pR | exact pm_pI | exact pm_pB | exact pm_sR | exact pmi_8 | exact pmi_4 | exact pmi_1 | exact pmi_7 | exact pmi_5 | exact pmi_J4 | exact pmi_6 | exact pmi_9 | (refine pm_A ?_ (fun _ _ => ?_)) | (refine pm_O ?_ (fun _ _ => ?_)) | (refine pm_U (fun _ => ?_)) | (refine pm_UH (fun _ => ?_)) | (refine pm_UU (fun _ => ?_)) | (refine pm_H ?_ (fun _ => ?_)) | (refine pm_HH ?_ (fun _ => ?_)) | (refine pm_UP rfl (fun _ => ?_)) | (refine pm_if ?_ ?_) | (refine pm_lp (fun _ _ => ?_) _ _ _))
theorem pmi_l : PH q (fJx4a65c_init_da8c8 r (mS q σ)) (fJx4a65c_init_da8c8 r σ) := by
  unfold fJx4a65c_init_da8c8
  repeat (first | exact pm_rA | exact pm_rH | exact pm_nA | exact pm_nR | exact pm_pR | exact pm_pI | exact pm_pB | exact pm_sR | exact pmi_8 | exact pmi_4 | exact pmi_1 | exact pmi_7 | exact pmi_5 | exact pmi_J4 | exact pmi_6 | exact pmi_9 | exact pmi_c | (refine pm_A ?_ (fun _ _ => ?_)) | (refine pm_O ?_ (fun _ _ => ?_)) | (refine pm_U (fun _ => ?_)) | (refine pm_UH (fun _ => ?_)) | (refine pm_UU (fun _ => ?_)) | (refine pm_H ?_ (fun _ => ?_)) | (refine pm_HH ?_ (fun _ => ?_)) | (refine pm_UP rfl (fun _ => ?_)) | (refine pm_if ?_ ?_) | (refine pm_lp (fun _ _ => ?_) _ _ _))
theorem pmi_D : PA q (fX11_init r (mS q σ)) (fX11_init r σ) := by
  unfold fX11_init
  repeat (first | exact pm_rA | exact pm_rH | exact pm_nA | exact pm_nR | exact pm_pR | exact pm_pI | exact pm_pB | exact pm_sR | exact pmi_8 | exact pmi_4 | exact pmi_1 | exact pmi_7 | exact pmi_5 | exact pmi_J4 | exact pmi_6 | exact pmi_9 | exact pmi_c | exact pmi_l | (refine pm_A ?_ (fun _ _ => ?_)) | (refine pm_O ?_ (fun _ _ => ?_)) | (refine pm_U (fun _ => ?_)) | (refine pm_UH (fun _ => ?_)) | (refine pm_UU (fun _ => ?_)) | (refine pm_H ?_ (fun _ => ?_)) | (refine pm_HH ?_ (fun _ => ?_)) | (refine pm_UP rfl (fun _ => ?_)) | (refine pm_if ?_ ?_) | (refine pm_lp (fun _ _ => ?_) _ _ _))
def prC (σ : HpT) : AT (Option Nat × Option Nat × Option Nat) := bnA (nwA 9 σ) (fun x1 s3 => bnO (fX9_init x1 s3) (fun _ s10 => bnA (nwR 20 7 s10) (fun x15 s17 => bnA (nwA 13 s17) (fun x22 s24 => bnO (fX11_init x22 s24) (fun _ s31 => some (.ok (x1, x15, x22), s31, 0, 0))))))
theorem pmi_C : PA q (prC (mS q σ)) (prC σ) := by
  unfold prC
  repeat (first | exact pm_rA | exact pm_rH | exact pm_nA | exact pm_nR | exact pm_pR | exact pm_pI | exact pm_pB | exact pm_sR | exact pmi_8 | exact pmi_4 | exact pmi_1 | exact pmi_7 | exact pmi_5 | exact pmi_J4 | exact pmi_6 | exact pmi_9 | exact pmi_c | exact pmi_l | exact pmi_D | (refine pm_A ?_ (fun _ _ => ?_)) | (refine pm_O ?_ (fun _ _ => ?_)) | (refine pm_U (fun _ => ?_)) | (refine pm_UH (fun _ => ?_)) | (refine pm_UU (fun _ => ?_)) | (refine pm_H ?_ (fun _ => ?_)) | (refine pm_HH ?_ (fun _ => ?_)) | (refine pm_UP rfl (fun _ => ?_)) | (refine pm_if ?_ ?_) | (refine pm_lp (fun _ _ => ?_) _ _ _))
end P56V
