/-! THE PURE LEVEL, 116: what the prologue leaves in the row -/
def Z81 (S : HpT) : Prop := 82 ≤ S.1 ∧ ∀ k, S.2.2.2.1 81 k = 0
section ZZ
variable {S T : HpT} {y : Type}
theorem z_wN (h : Z81 S) (κ z : Nat) : Z81 (wN S κ z) := ⟨by show 82 ≤ S.1 + 1; have := h.1; omega, fun k => by
  show (if 81 = S.1 then 0 else S.2.2.2.1 81 k) = 0
  rw [h.2]
  split <;> rfl⟩
theorem z_wR (h : Z81 S) (a k : Nat) (x : Option Nat) : Z81 (wR S a k x) := h
theorem z_wI (h : Z81 S) {a : Nat} (ha : a ≠ 81) (k : Nat) (x : Int32) : Z81 (wI S a k x) := ⟨h.1, fun k' => by
  show (if 81 = a ∧ k' = k then x else S.2.2.2.1 81 k') = 0
  rw [if_neg (fun q => ha q.1.symm), h.2]⟩
theorem zA {α : Type} {κ : Nat} {f : Option Nat → HpT → AT α} {v : α} {a b : Nat} (h : bnA (nwA κ S) f = some (.ok v, T, a, b)) : ∃ a2 b2, f (some (hN S)) (wN S κ 0) = some (.ok v, T, a2, b2) := by
  rcases bnA_s h with ⟨e, -, q⟩ | ⟨w, S1, a1, b1, a2, b2, h1, h2, -, -⟩
  · cases q
  · unfold nwA at h1
    split at h1
    · cases h1
      exact ⟨a2, b2, h2⟩
    · cases h1
theorem zR {α : Type} {κ : Nat} {n : Int32} {f : Option Nat → HpT → AT α} {v : α} {a b : Nat} (h : bnA (nwR κ n S) f = some (.ok v, T, a, b)) : ∃ z a2 b2, f (some (hN S)) (wN S κ z) = some (.ok v, T, a2, b2) := by
  rcases bnA_s h with ⟨e, -, q⟩ | ⟨w, S1, a1, b1, a2, b2, h1, h2, -, -⟩
  · cases q
  · unfold nwR at h1
    split at h1
    · cases h1
      exact ⟨_, a2, b2, h2⟩
    · cases h1
theorem zP {γ : Type} {r : Option Nat} {κ k : Nat} {x : Option Nat} {f : HpT → Option γ} {v : γ} (h : bnP (pR S r κ k x) f = some v) : ∃ a, f (wR S a k x) = some v := by
  obtain ⟨S1, h1, h2⟩ := bnP_s h
  obtain ⟨a, -, -, -, rfl⟩ := pR_s h1
  exact ⟨a, h2⟩
theorem zI {γ : Type} {c κ k : Nat} {x : Int32} {f : HpT → Option γ} {v : γ} (h : bnP (pI S (some c) κ k x) f = some v) : f (wI S c k x) = some v := by
  obtain ⟨S1, h1, h2⟩ := bnP_s h
  obtain ⟨a, h3, -, -, rfl⟩ := pI_s h1
  cases h3
  exact h2
theorem fX10_z (hn : hN S = 81) {a b : Nat} (h : fX10_init (some 80) S = some (.ok (), T, a, b)) : Z81 T := by
  unfold fX10_init at h
  obtain ⟨-, -, h⟩ := bnP_s h
  obtain ⟨z, a2, b2, h⟩ := zR h
  have v1 : Z81 (wN S 20 z) := ⟨by show 82 ≤ S.1 + 1; have : S.1 = 81 := hn; omega, fun k => by
    show (if 81 = S.1 then 0 else S.2.2.2.1 81 k) = 0
    rw [if_pos (show 81 = S.1 from hn.symm)]⟩
  generalize wN S 20 z = S1 at h v1
  obtain ⟨_, h⟩ := zP h
  have v2 := z_wR v1
  obtain ⟨_, _, _, h⟩ := zR h
  obtain ⟨_, h⟩ := zP h
  obtain ⟨_, _, _, h⟩ := zR h
  obtain ⟨_, h⟩ := zP h
  obtain ⟨_, _, _, h⟩ := zR h
  obtain ⟨_, h⟩ := zP h
  obtain ⟨_, _, _, h⟩ := zR h
  obtain ⟨_, h⟩ := zP h
  obtain ⟨_, _, _, h⟩ := zR h
  obtain ⟨_, h⟩ := zP h
  have h := zI h
  obtain ⟨_, _, _, h⟩ := zR h
  obtain ⟨_, h⟩ := zP h
  obtain ⟨_, _, _, h⟩ := zR h
  obtain ⟨_, h⟩ := zP h
  cases h
  exact z_wR (z_wN (z_wR (z_wN (z_wI (z_wR (z_wN (z_wR (z_wN (z_wR (z_wN (z_wR (z_wN (z_wR (z_wN (z_wR v1 _ _ _) _ _) _ _ _) _ _) _ _ _) _ _) _ _ _) _ _) _ _ _) _ _) _ _ _) (by decide) _ _) _ _) _ _ _) _ _) _ _ _
theorem prB_z (hn : hN S = 80) {x : Option Nat × Option Nat × Option Nat} {a b : Nat} (h : prB S = some (.ok x, T, a, b)) : Z81 T := by
  unfold prB at h
  obtain ⟨a2, b2, h⟩ := zA h
  rw [hn] at h
  obtain ⟨u, S1, a3, b3, a4, b4, h1, h, -, -⟩ := bnO_s h
  have v := fX10_z (S := wN S 10 0) (by show S.1 + 1 = 81; have : S.1 = 80 := hn; omega) h1
  obtain ⟨z1, a5, b5, h⟩ := zR h
  obtain ⟨z2, a6, b6, h⟩ := zR h
  cases h
  exact z_wN (z_wN v _ _) _ _
end ZZ
theorem pro_2 : ∃ S S2 i j i2 j2, pr9 = some (.ok (some 0), S, i, j) ∧ prB S = some (.ok (some 80, some 89, some 90), S2, i2, j2) ∧ i ≤ 1000 ∧ j ≤ 100000 ∧ i2 ≤ 1000 ∧ j2 ≤ 200000 ∧ proF S2 = true ∧ Z81 S2 := by
  have h := pro_1
  cases e1 : pr9 with
  | none =>
    rw [e1] at h
    cases h
  | some r =>
    obtain ⟨o, S, i, j⟩ := r
    rw [e1] at h
    cases o with
    | error n => cases h
    | ok x1 =>
      dsimp only at h
      cases e2 : prB S with
      | none =>
        rw [e2] at h
        cases h
      | some r2 =>
        obtain ⟨o2, S2, i2, j2⟩ := r2
        rw [e2] at h
        cases o2 with
        | error n => cases h
        | ok x =>
          dsimp only at h
          simp only [Bool.and_eq_true, decide_eq_true_eq] at h
          obtain ⟨rfl, rfl, h3, h4, h5, h6, h7, h8⟩ := h
          exact ⟨S, S2, i, j, i2, j2, rfl, e2, h4, h5, h6, h7, h8, prB_z h3 e2⟩
