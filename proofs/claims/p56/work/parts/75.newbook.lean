/-! THE PURE LEVEL, 35: a new Book (written by mk75.py) -/
def addC {β : Type} (i j : Nat) (o : AT β) : AT β := match o with
  | none => none
  | some (y, σ, i2, j2) => some (y, σ, i + i2, j + j2)
section AL
variable {α β : Type}
theorem bnA_ok {a : α} {σ : HpT} {i j : Nat} {f : α → HpT → AT β} : bnA (some (.ok a, σ, i, j)) f = addC i j (f a σ) := rfl
theorem addC_1 {y : Except Nat β} {σ : HpT} {i j i2 j2 : Nat} : addC i j (some (y, σ, i2, j2)) = some (y, σ, i + i2, j + j2) := rfl
theorem lpA_ok {f : α → HpT → AT (α ⊕ β)} {a b : α} {σ σ2 : HpT} {i j : Nat} (F : Nat) (h : f a σ = some (.ok (.inl b), σ2, i, j)) : lpA f (F + 1) a σ = addC i j (lpA f F b σ2) := by
  show (match f a σ with | none => none | some (Except.error e, σ', i, j) => some (Except.error e, σ', i, j) | some (Except.ok (Sum.inl a'), σ', i, j) => (match lpA f F a' σ' with | none => none | some (o2, σ2, i2, j2) => some (o2, σ2, i + i2, j + j2)) | some (Except.ok (Sum.inr b), σ', i, j) => some (Except.ok b, σ', i, j)) = _
  rw [h]
  rfl
theorem lpA_e {f : α → HpT → AT (α ⊕ β)} {a : α} {r : β} {σ σ2 : HpT} {i j : Nat} (F : Nat) (h : f a σ = some (.ok (.inr r), σ2, i, j)) : lpA f (F + 1) a σ = some (.ok r, σ2, i, j) := by
  show (match f a σ with | none => none | some (Except.error e, σ', i, j) => some (Except.error e, σ', i, j) | some (Except.ok (Sum.inl a'), σ', i, j) => (match lpA f F a' σ' with | none => none | some (o2, σ2, i2, j2) => some (o2, σ2, i + i2, j + j2)) | some (Except.ok (Sum.inr b), σ', i, j) => some (Except.ok b, σ', i, j)) = _
  rw [h]
end AL
/-- a heap S over sigma: cells from h on, told by tables of offsets -/
def fU (f : Nat → Nat) (n x : Nat) : Nat → Nat := fun i => if i = n then x else f i
def rN (f : Nat → Nat → Option Nat) (n : Nat) : Nat → Nat → Option Nat := fun i k => if i = n then none else f i k
def rU (f : Nat → Nat → Option Nat) (n k x : Nat) : Nat → Nat → Option Nat := fun i k' => if i = n ∧ k' = k then some x else f i k'
def VW (σ S : HpT) (h n : Nat) (kt zt : Nat → Nat) (rt : Nat → Nat → Option Nat) : Prop := hN S = h + n ∧ (∀ a, a < h → hK S a = hK σ a ∧ hZ S a = hZ σ a ∧ (∀ k, hR S a k = hR σ a k) ∧ S.2.2.2.1 a = σ.2.2.2.1 a ∧ S.2.2.2.2.1 a = σ.2.2.2.2.1 a) ∧ (∀ i, i < n → hK S (h + i) = kt i) ∧ (∀ i, i < n → hZ S (h + i) = zt i) ∧ ∀ i k, i < n → hR S (h + i) k = (rt i k).map (fun j => h + j)
section VWS
variable {σ S : HpT} {h n : Nat} {kt zt : Nat → Nat} {rt : Nat → Nat → Option Nat}
theorem vw_0 (hh : hN σ = h) (kt zt : Nat → Nat) (rt : Nat → Nat → Option Nat) : VW σ σ h 0 kt zt rt := ⟨hh, fun a _ => ⟨rfl, rfl, fun _ => rfl, rfl, rfl⟩, fun i hi => absurd hi (Nat.not_lt_zero _), fun i hi => absurd hi (Nat.not_lt_zero _), fun i _ hi => absurd hi (Nat.not_lt_zero _)⟩
theorem vw_new (v : VW σ S h n kt zt rt) (κ z : Nat) : VW σ (wN S κ z) h (n + 1) (fU kt n κ) (fU zt n z) (rN rt n) := by
  obtain ⟨v1, v2, v3, v4, v5⟩ := v
  refine ⟨by rw [hN_wN, v1]; rfl, fun a ha => ?_, fun i hi => ?_, fun i hi => ?_, fun i k hi => ?_⟩
  · have q : ¬ a = hN S := by omega
    refine ⟨by rw [hK_wN, if_neg q]; exact (v2 a ha).1, by rw [hZ_wN, if_neg q]; exact (v2 a ha).2.1, fun k => by rw [hR_wN, if_neg q]; exact (v2 a ha).2.2.1 k, ?_, ?_⟩
    · rw [← (v2 a ha).2.2.2.1]
      exact funext fun _ => if_neg q
    · rw [← (v2 a ha).2.2.2.2]
      exact funext fun _ => if_neg q
  · rw [hK_wN, v1]
    unfold fU
    by_cases q : i = n
    · rw [if_pos (by rw [q]), if_pos q]
    · rw [if_neg (by omega), if_neg q]
      exact v3 i (by omega)
  · rw [hZ_wN, v1]
    unfold fU
    by_cases q : i = n
    · rw [if_pos (by rw [q]), if_pos q]
    · rw [if_neg (by omega), if_neg q]
      exact v4 i (by omega)
  · rw [hR_wN, v1]
    unfold rN
    by_cases q : i = n
    · rw [if_pos (by rw [q]), if_pos q]
      rfl
    · rw [if_neg (by omega), if_neg q]
      exact v5 i k (by omega)
theorem vw_A (v : VW σ S h n kt zt rt) (κ : Nat) (hb : h + n < BIG) : nwA κ S = some (.ok (some (h + n)), wN S κ 0, 1, nF κ) ∧ VW σ (wN S κ 0) h (n + 1) (fU kt n κ) (fU zt n 0) (rN rt n) := by
  refine ⟨?_, vw_new v κ 0⟩
  unfold nwA
  rw [if_pos (by rw [v.1]; exact hb), v.1]
theorem vw_R (v : VW σ S h n kt zt rt) (κ : Nat) {w : Int32} {z : Nat} (hw : w = nI z) (hz : z ≤ 1000000) (hb : h + n < BIG) : nwR κ w S = some (.ok (some (h + n)), wN S κ z, 1, z) ∧ VW σ (wN S κ z) h (n + 1) (fU kt n κ) (fU zt n z) (rN rt n) := by
  subst hw
  refine ⟨?_, vw_new v κ z⟩
  unfold nwR
  rw [if_pos ⟨by rw [v.1]; exact hb, by rw [nI_toInt (by omega)]; omega, by rw [nI_toInt (by omega)]; omega⟩, nI_clamp (by omega), v.1]
theorem vw_w (v : VW σ S h n kt zt rt) {i : Nat} (hi : i < n) (k j : Nat) : VW σ (wR S (h + i) k (some (h + j))) h n kt zt (rU rt i k j) := by
  obtain ⟨v1, v2, v3, v4, v5⟩ := v
  have hx : h + i < hN S := by omega
  refine ⟨v1, fun a ha => ⟨(v2 a ha).1, (v2 a ha).2.1, fun k' => ?_, (v2 a ha).2.2.2.1, (v2 a ha).2.2.2.2⟩, v3, v4, fun i2 k' hi2 => ?_⟩
  · rw [hR_wR _ _ _ _ _ _ hx, if_neg (fun q => by omega)]
    exact (v2 a ha).2.2.1 k'
  · rw [hR_wR _ _ _ _ _ _ hx]
    unfold rU
    by_cases q : i2 = i ∧ k' = k
    · rw [if_pos ⟨by omega, q.2⟩, if_pos q]
      rfl
    · rw [if_neg (fun q2 => q ⟨by omega, q2.2⟩), if_neg q]
      exact v5 i2 k' hi2
theorem vw_P (v : VW σ S h n kt zt rt) {i κ : Nat} (hi : i < n) (hk : kt i = κ) (k j : Nat) : pR S (some (h + i)) κ k (some (h + j)) = some (wR S (h + i) k (some (h + j))) ∧ VW σ (wR S (h + i) k (some (h + j))) h n kt zt (rU rt i k j) :=
  ⟨if_pos ⟨by rw [v.2.2.1 i hi]; exact hk, by have := v.1; omega⟩, vw_w v hi k j⟩
theorem vw_S (v : VW σ S h n kt zt rt) {i κ κ2 j e z : Nat} (hi : i < n) (hk : kt i = κ) (hz : zt i = z) (he : e < z) (hz2 : z < 2 ^ 31) (hj : j < n) (hk2 : kt j = κ2) : sR S (some (h + i)) κ κ2 (nI e) (some (h + j)) = some (wR S (h + i) e (some (h + j))) ∧ VW σ (wR S (h + i) e (some (h + j))) h n kt zt (rU rt i e j) := by
  refine ⟨?_, vw_w v hi e j⟩
  unfold sR
  dsimp only
  rw [if_pos ⟨⟨⟨by rw [v.2.2.1 i hi]; exact hk, by rw [v.2.2.2.1 i hi, hz]; exact inb_nI he hz2⟩, by have := v.1; omega⟩, by rw [v.2.2.1 j hj]; exact hk2, by have := v.1; omega⟩, nI_clamp (by omega)]
theorem vw_k (v : VW σ S h n kt zt rt) {i κ : Nat} (hi : i < n) (hk : kt i = κ) : isK S (some (h + i)) κ = some () := if_pos (by rw [v.2.2.1 i hi]; exact hk)
theorem vw_r (v : VW σ S h n kt zt rt) {i κ k j : Nat} (hi : i < n) (hk : kt i = κ) (hr : rt i k = some j) : gR S (some (h + i)) κ k = some (some (h + j)) := by
  show (if hK S (h + i) = κ then some (hR S (h + i) k) else none) = _
  rw [if_pos (by rw [v.2.2.1 i hi]; exact hk), v.2.2.2.2 i k hi, hr]
  rfl
/-- the Script's rows; the Leaves' -/
theorem vw_init8 (v : VW σ S h n kt zt rt) {s : Nat} (hs : s < n) (hk : kt s = 8) (hb : h + n + 6 < BIG) : ∃ S', fX8_init (some (h + s)) S = some (.ok (), S', 6, 2160) ∧ VW σ S' h (n + 6) (fU (fU (fU (fU (fU (fU kt n 21) (n + 1) 20) (n + 2) 20) (n + 3) 23) (n + 4) 20) (n + 5) 21) (fU (fU (fU (fU (fU (fU zt n 240) (n + 1) 240) (n + 2) 240) (n + 3) 240) (n + 4) 240) (n + 5) 960) (rU (rN (rU (rN (rU (rN (rU (rN (rU (rN (rU (rN rt n) s 1 n) (n + 1)) s 2 (n + 1)) (n + 2)) s 3 (n + 2)) (n + 3)) s 4 (n + 3)) (n + 4)) s 5 (n + 4)) (n + 5)) s 6 (n + 5)) := by
  have q : ∀ f : Nat → Nat, ∀ m x, n ≤ m → f s = 8 → fU f m x s = 8 := fun f m x h1 h2 => by
    unfold fU
    rw [if_neg (by omega)]
    exact h2
  have k1 := q kt n 21 (by omega) hk
  have k2 := q _ (n + 1) 20 (by omega) k1
  have k3 := q _ (n + 2) 20 (by omega) k2
  have k4 := q _ (n + 3) 23 (by omega) k3
  have k5 := q _ (n + 4) 20 (by omega) k4
  have k6 := q _ (n + 5) 21 (by omega) k5
  obtain ⟨a1, v1⟩ := vw_R v 21 (w := 240) (z := 240) rfl (by decide) (by omega)
  obtain ⟨a2, v2⟩ := vw_P v1 (i := s) (by omega) k1 1 n
  obtain ⟨a3, v3⟩ := vw_R v2 20 (w := 240) (z := 240) rfl (by decide) (by omega)
  obtain ⟨a4, v4⟩ := vw_P v3 (i := s) (by omega) k2 2 (n + 1)
  obtain ⟨a5, v5⟩ := vw_R v4 20 (w := 240) (z := 240) rfl (by decide) (by omega)
  obtain ⟨a6, v6⟩ := vw_P v5 (i := s) (by omega) k3 3 (n + 2)
  obtain ⟨a7, v7⟩ := vw_R v6 23 (w := 240) (z := 240) rfl (by decide) (by omega)
  obtain ⟨a8, v8⟩ := vw_P v7 (i := s) (by omega) k4 4 (n + 3)
  obtain ⟨a9, v9⟩ := vw_R v8 20 (w := 240) (z := 240) rfl (by decide) (by omega)
  obtain ⟨a10, v10⟩ := vw_P v9 (i := s) (by omega) k5 5 (n + 4)
  obtain ⟨a11, v11⟩ := vw_R v10 21 (w := 960) (z := 960) rfl (by decide) (by omega)
  obtain ⟨a12, v12⟩ := vw_P v11 (i := s) (by omega) k6 6 (n + 5)
  refine ⟨_, ?_, v12⟩
  unfold fX8_init
  rw [vw_k v hs hk, bnP_1, a1, bnA_ok, a2, bnP_1, a3, bnA_ok, a4, bnP_1, a5, bnA_ok, a6, bnP_1, a7, bnA_ok, a8, bnP_1, a9, bnA_ok, a10, bnP_1, a11, bnA_ok, a12, bnP_1]
  rfl
theorem vw_init4 (v : VW σ S h n kt zt rt) {s : Nat} (hs : s < n) (hk : kt s = 4) (hb : h + n + 2 < BIG) : ∃ S', fX4_init (some (h + s)) S = some (.ok (), S', 2, 24) ∧ VW σ S' h (n + 2) (fU (fU kt n 20) (n + 1) 23) (fU (fU zt n 12) (n + 1) 12) (rU (rN (rU (rN rt n) s 2 n) (n + 1)) s 3 (n + 1)) := by
  have q : ∀ f : Nat → Nat, ∀ m x, n ≤ m → f s = 4 → fU f m x s = 4 := fun f m x h1 h2 => by
    unfold fU
    rw [if_neg (by omega)]
    exact h2
  have k1 := q kt n 20 (by omega) hk
  have k2 := q _ (n + 1) 23 (by omega) k1
  obtain ⟨a1, v1⟩ := vw_R v 20 (w := 12) (z := 12) rfl (by decide) (by omega)
  obtain ⟨a2, v2⟩ := vw_P v1 (i := s) (by omega) k1 2 n
  obtain ⟨a3, v3⟩ := vw_R v2 23 (w := 12) (z := 12) rfl (by decide) (by omega)
  obtain ⟨a4, v4⟩ := vw_P v3 (i := s) (by omega) k2 3 (n + 1)
  refine ⟨_, ?_, v4⟩
  unfold fX4_init
  rw [vw_k v hs hk, bnP_1, a1, bnA_ok, a2, bnP_1, a3, bnA_ok, a4, bnP_1]
  rfl
/-- the rows of Acts and of Copies: a turn, then all -/
def fI (f : Nat → Nat) (n x : Nat) : Nat → Nat → Nat
  | 0 => f
  | t + 1 => fU (fI f n x t) (n + t) x
def rI (f : Nat → Nat → Option Nat) (n s : Nat) : Nat → Nat → Nat → Option Nat
  | 0 => f
  | t + 1 => rU (rN (rI f n s t) (n + t)) s t (n + t)
theorem fI_lo (f : Nat → Nat) (n x : Nat) : ∀ t i, i < n → fI f n x t i = f i
  | 0, _, _ => rfl
  | t + 1, i, hi => by
    show (if i = n + t then x else fI f n x t i) = f i
    rw [if_neg (by omega), fI_lo f n x t i hi]
theorem rI_lo (f : Nat → Nat → Option Nat) (n s : Nat) : ∀ t i k, i < n → i ≠ s → rI f n s t i k = f i k
  | 0, _, _, _, _ => rfl
  | t + 1, i, k, hi, hs => by
    show (if i = s ∧ k = t then some (n + t) else if i = n + t then none else rI f n s t i k) = f i k
    rw [if_neg (fun q => hs q.1), if_neg (by omega), rI_lo f n s t i k hi hs]
theorem vw_loop1 (v : VW σ S h n kt zt rt) {c s : Nat} (hc : c < n) (hs : s < n) (hcs : c ≠ s) (hk : kt c = 1) (hk2 : kt s = 25) (hz : zt s = 10) (hr : rt c 6 = some s) (hb : h + n + 10 < BIG) : ∃ S', lpA (fX1_init_l1 (some (h + c))) FUEL 0 S = some (.ok (), S', 10, 80) ∧ VW σ S' h (n + 10) (fI kt n 0 10) (fI zt n 0 10) (rI rt n s 10) := by
  have key : ∀ t, t ≤ 10 → ∀ F, 10 < F → ∃ S', VW σ S' h (n + t) (fI kt n 0 t) (fI zt n 0 t) (rI rt n s t) ∧ ∀ y S2 i j, lpA (fX1_init_l1 (some (h + c))) (F - t) (nI t) S' = some (.ok y, S2, i, j) → lpA (fX1_init_l1 (some (h + c))) F 0 S = some (.ok y, S2, t + i, 8 * t + j) := by
    intro t
    induction t with
    | zero =>
      intro _ F _
      refine ⟨S, v, fun y S2 i j e => ?_⟩
      rw [Nat.sub_zero] at e
      rw [show (0 : Int32) = nI 0 from rfl, e, Nat.zero_add, Nat.mul_zero, Nat.zero_add]
    | succ t ih =>
      intro ht F hF
      obtain ⟨S1, v1, e1⟩ := ih (by omega) F hF
      obtain ⟨a1, w1⟩ := vw_A v1 0 (by omega)
      have kc : fI kt n 0 t c = 1 := by rw [fI_lo kt n 0 t c hc]; exact hk
      have ks : fU (fI kt n 0 t) (n + t) 0 s = 25 := by
        show (if s = n + t then 0 else fI kt n 0 t s) = 25
        rw [if_neg (by omega), fI_lo kt n 0 t s hs]
        exact hk2
      have zs : fU (fI zt n 0 t) (n + t) 0 s = 10 := by
        show (if s = n + t then 0 else fI zt n 0 t s) = 10
        rw [if_neg (by omega), fI_lo zt n 0 t s hs]
        exact hz
      have kn : fU (fI kt n 0 t) (n + t) 0 (n + t) = 0 := if_pos rfl
      obtain ⟨a2, w2⟩ := vw_S w1 (i := s) (j := n + t) (e := t) (by omega) ks zs (by omega) (by decide) (by omega) kn
      refine ⟨_, w2, fun y S2 i j e => ?_⟩
      have st : fX1_init_l1 (some (h + c)) (nI t) S1 = some (.ok (.inl (nI (t + 1))), wR (wN S1 0 0) (h + s) t (some (h + (n + t))), 1, 8) := by
        unfold fX1_init_l1 fX0_init
        rw [if_neg (show ¬ (10 : Int32) ≤ nI t from nI_ge (show t < 10 by omega) (by decide)), vw_r v1 (by omega) kc (by rw [rI_lo rt n s t c 6 hc hcs]; exact hr), bnP_1, a1, bnA_ok, vw_k w1 (by omega) kn, bnP_1, bnP_1, a2, bnP_1, nI_a1]
        rfl
      have e2 := e1 y S2 (1 + i) (8 + j) (by
        rw [show F - t = F - (t + 1) + 1 by omega, lpA_ok _ st, e]
        rfl)
      rw [e2, show t + (1 + i) = t + 1 + i by omega, show 8 * t + (8 + j) = 8 * (t + 1) + j by omega]
  obtain ⟨S', v', e'⟩ := key 10 (Nat.le_refl _) FUEL (by decide)
  refine ⟨S', ?_, v'⟩
  have := e' () S' 0 0 (by
    show lpA (fX1_init_l1 (some (h + c))) (199989 + 1) (nI 10) S' = _
    exact lpA_e _ (by
      unfold fX1_init_l1
      exact if_pos (by decide)))
  exact this
theorem vw_loop2 (v : VW σ S h n kt zt rt) {c s : Nat} (hc : c < n) (hs : s < n) (hcs : c ≠ s) (hk : kt c = 1) (hk2 : kt s = 26) (hz : zt s = 8) (hr : rt c 7 = some s) (hb : h + n + 8 < BIG) : ∃ S', lpA (fX1_init_l2 (some (h + c))) FUEL 0 S = some (.ok (), S', 8, 40) ∧ VW σ S' h (n + 8) (fI kt n 3 8) (fI zt n 0 8) (rI rt n s 8) := by
  have key : ∀ t, t ≤ 8 → ∀ F, 8 < F → ∃ S', VW σ S' h (n + t) (fI kt n 3 t) (fI zt n 0 t) (rI rt n s t) ∧ ∀ y S2 i j, lpA (fX1_init_l2 (some (h + c))) (F - t) (nI t) S' = some (.ok y, S2, i, j) → lpA (fX1_init_l2 (some (h + c))) F 0 S = some (.ok y, S2, t + i, 5 * t + j) := by
    intro t
    induction t with
    | zero =>
      intro _ F _
      refine ⟨S, v, fun y S2 i j e => ?_⟩
      rw [Nat.sub_zero] at e
      rw [show (0 : Int32) = nI 0 from rfl, e, Nat.zero_add, Nat.mul_zero, Nat.zero_add]
    | succ t ih =>
      intro ht F hF
      obtain ⟨S1, v1, e1⟩ := ih (by omega) F hF
      obtain ⟨a1, w1⟩ := vw_A v1 3 (by omega)
      have kc : fI kt n 3 t c = 1 := by rw [fI_lo kt n 3 t c hc]; exact hk
      have ks : fU (fI kt n 3 t) (n + t) 3 s = 26 := by
        show (if s = n + t then 3 else fI kt n 3 t s) = 26
        rw [if_neg (by omega), fI_lo kt n 3 t s hs]
        exact hk2
      have zs : fU (fI zt n 0 t) (n + t) 0 s = 8 := by
        show (if s = n + t then 0 else fI zt n 0 t s) = 8
        rw [if_neg (by omega), fI_lo zt n 0 t s hs]
        exact hz
      have kn : fU (fI kt n 3 t) (n + t) 3 (n + t) = 3 := if_pos rfl
      obtain ⟨a2, w2⟩ := vw_S w1 (i := s) (j := n + t) (e := t) (by omega) ks zs (by omega) (by decide) (by omega) kn
      refine ⟨_, w2, fun y S2 i j e => ?_⟩
      have st : fX1_init_l2 (some (h + c)) (nI t) S1 = some (.ok (.inl (nI (t + 1))), wR (wN S1 3 0) (h + s) t (some (h + (n + t))), 1, 5) := by
        unfold fX1_init_l2 fX3_init
        rw [if_neg (show ¬ (8 : Int32) ≤ nI t from nI_ge (show t < 8 by omega) (by decide)), vw_r v1 (by omega) kc (by rw [rI_lo rt n s t c 7 hc hcs]; exact hr), bnP_1, a1, bnA_ok, vw_k w1 (by omega) kn, bnP_1, bnP_1, a2, bnP_1, nI_a1]
        rfl
      have e2 := e1 y S2 (1 + i) (5 + j) (by
        rw [show F - t = F - (t + 1) + 1 by omega, lpA_ok _ st, e]
        rfl)
      rw [e2, show t + (1 + i) = t + 1 + i by omega, show 5 * t + (5 + j) = 5 * (t + 1) + j by omega]
  obtain ⟨S', v', e'⟩ := key 8 (Nat.le_refl _) FUEL (by decide)
  refine ⟨S', ?_, v'⟩
  have := e' () S' 0 0 (by
    show lpA (fX1_init_l2 (some (h + c))) (199991 + 1) (nI 8) S' = _
    exact lpA_e _ (by
      unfold fX1_init_l2
      exact if_pos (by decide)))
  exact this
end VWS
/-- a new Book at h -/
theorem c_newBook {σ : HpT} {h : Nat} (hh : hN σ = h) (hb : h + 40 < BIG) : ∃ S0 S, nwA 1 σ = some (.ok (some h), S0, 1, 12) ∧ fX1_init (some h) S0 = some (.ok (), S, 32, 2342) ∧ hN S = h + 33 ∧ BK S h ∧ ∀ a, a < h → hK S a = hK σ a ∧ hZ S a = hZ σ a ∧ (∀ k, hR S a k = hR σ a k) ∧ S.2.2.2.1 a = σ.2.2.2.1 a ∧ S.2.2.2.2.1 a = σ.2.2.2.2.1 a := by
  have v := vw_0 hh (fun _ => 0) (fun _ => 0) (fun _ _ => none)
  obtain ⟨a0, v0⟩ := vw_A v 1 (by omega)
  obtain ⟨a1, v1⟩ := vw_R v0 25 (w := 10) (z := 10) rfl (by decide) (by omega)
  obtain ⟨a2, v2⟩ := vw_P v1 (i := 0) (κ := 1) (by decide) rfl 6 1
  obtain ⟨a3, v3⟩ := vw_R v2 26 (w := 8) (z := 8) rfl (by decide) (by omega)
  obtain ⟨a4, v4⟩ := vw_P v3 (i := 0) (κ := 1) (by decide) rfl 7 2
  obtain ⟨a5, v5⟩ := vw_A v4 8 (by omega)
  obtain ⟨S6, a6, v6⟩ := vw_init8 v5 (s := 3) (by decide) rfl (by omega)
  obtain ⟨a7, v7⟩ := vw_P v6 (i := 0) (κ := 1) (by decide) rfl 8 3
  obtain ⟨a8, v8⟩ := vw_A v7 4 (by omega)
  obtain ⟨S9, a9, v9⟩ := vw_init4 v8 (s := 10) (by decide) rfl (by omega)
  obtain ⟨a10, v10⟩ := vw_P v9 (i := 0) (κ := 1) (by decide) rfl 9 10
  obtain ⟨a11, v11⟩ := vw_A v10 2 (by omega)
  obtain ⟨a12, v12⟩ := vw_P v11 (i := 0) (κ := 1) (by decide) rfl 10 13
  obtain ⟨a13, v13⟩ := vw_A v12 3 (by omega)
  obtain ⟨a14, v14⟩ := vw_P v13 (i := 0) (κ := 1) (by decide) rfl 11 14
  obtain ⟨S15, a15, v15⟩ := vw_loop1 v14 (c := 0) (s := 1) (by decide) (by decide) (by decide) rfl rfl rfl rfl (by omega)
  obtain ⟨S16, a16, v16⟩ := vw_loop2 v15 (c := 0) (s := 2) (by decide) (by decide) (by decide) rfl rfl rfl rfl (by omega)
  have i0 : isK (wN σ 1 0) (some h) 1 = some () := vw_k v0 (i := 0) (by decide) rfl
  have i13 := vw_k v11 (i := 13) (κ := 2) (by decide) rfl
  have i14 := vw_k v13 (i := 14) (κ := 3) (by decide) rfl
  obtain ⟨w1, w2, w3, w4, w5⟩ := id v16
  refine ⟨wN σ 1 0, S16, a0, ?_, w1, ?_, w2⟩
  · unfold fX1_init fX2_init fX3_init
    rw [i0, bnP_1, a1, bnA_ok]
    show addC 1 10 (bnP (pR _ (some (h + 0)) 1 6 (some (h + 1))) _) = _
    rw [a2, bnP_1, a3, bnA_ok]
    show addC 1 10 (addC 1 8 (bnP (pR _ (some (h + 0)) 1 7 (some (h + 2))) _)) = _
    rw [a4, bnP_1, a5, bnA_ok, a6, bnA_ok]
    show addC 1 10 (addC 1 8 (addC 1 7 (addC 6 2160 (bnP (pR _ (some (h + 0)) 1 8 (some (h + 3))) _)))) = _
    rw [a7, bnP_1, a8, bnA_ok, a9, bnA_ok]
    show addC 1 10 (addC 1 8 (addC 1 7 (addC 6 2160 (addC 1 4 (addC 2 24 (bnP (pR _ (some (h + 0)) 1 9 (some (h + 10))) _)))))) = _
    rw [a10, bnP_1, a11, bnA_ok, i13, bnP_1, bnP_1]
    show addC 1 10 (addC 1 8 (addC 1 7 (addC 6 2160 (addC 1 4 (addC 2 24 (addC 1 4 (bnP (pR _ (some (h + 0)) 1 10 (some (h + 13))) _))))))) = _
    rw [a12, bnP_1, a13, bnA_ok, i14, bnP_1, bnP_1]
    show addC 1 10 (addC 1 8 (addC 1 7 (addC 6 2160 (addC 1 4 (addC 2 24 (addC 1 4 (addC 1 5 (bnP (pR _ (some (h + 0)) 1 11 (some (h + 14))) _)))))))) = _
    rw [a14, bnP_1]
    show addC 1 10 (addC 1 8 (addC 1 7 (addC 6 2160 (addC 1 4 (addC 2 24 (addC 1 4 (addC 1 5 (bnA (lpA (fX1_init_l1 (some (h + 0))) FUEL 0 _) _)))))))) = _
    rw [a15, bnA_ok]
    show addC 1 10 (addC 1 8 (addC 1 7 (addC 6 2160 (addC 1 4 (addC 2 24 (addC 1 4 (addC 1 5 (addC 10 80 (bnA (lpA (fX1_init_l2 (some (h + 0))) FUEL 0 _) _))))))))) = _
    rw [a16, bnA_ok]
    rfl
  · refine ⟨by rw [w1]; exact Nat.le_refl _, ⟨w3 0 (by decide), w3 1 (by decide), w3 2 (by decide), w3 13 (by decide), w3 14 (by decide)⟩, ⟨w4 1 (by decide), w4 2 (by decide)⟩, ⟨w5 0 6 (by decide), w5 0 7 (by decide), w5 0 8 (by decide), w5 0 9 (by decide), w5 0 10 (by decide), w5 0 11 (by decide)⟩, fun j hj => ?_, fun j hj => ?_, ?_, ?_⟩
    · have hj : j = 0 ∨ j = 1 ∨ j = 2 ∨ j = 3 ∨ j = 4 ∨ j = 5 ∨ j = 6 ∨ j = 7 ∨ j = 8 ∨ j = 9 := by omega
      rcases hj with rfl | rfl | rfl | rfl | rfl | rfl | rfl | rfl | rfl | rfl
      · exact ⟨w3 15 (by decide), w5 1 0 (by decide)⟩
      · exact ⟨w3 16 (by decide), w5 1 1 (by decide)⟩
      · exact ⟨w3 17 (by decide), w5 1 2 (by decide)⟩
      · exact ⟨w3 18 (by decide), w5 1 3 (by decide)⟩
      · exact ⟨w3 19 (by decide), w5 1 4 (by decide)⟩
      · exact ⟨w3 20 (by decide), w5 1 5 (by decide)⟩
      · exact ⟨w3 21 (by decide), w5 1 6 (by decide)⟩
      · exact ⟨w3 22 (by decide), w5 1 7 (by decide)⟩
      · exact ⟨w3 23 (by decide), w5 1 8 (by decide)⟩
      · exact ⟨w3 24 (by decide), w5 1 9 (by decide)⟩
    · have hj : j = 0 ∨ j = 1 ∨ j = 2 ∨ j = 3 ∨ j = 4 ∨ j = 5 ∨ j = 6 ∨ j = 7 := by omega
      rcases hj with rfl | rfl | rfl | rfl | rfl | rfl | rfl | rfl
      · exact ⟨w3 25 (by decide), w5 2 0 (by decide)⟩
      · exact ⟨w3 26 (by decide), w5 2 1 (by decide)⟩
      · exact ⟨w3 27 (by decide), w5 2 2 (by decide)⟩
      · exact ⟨w3 28 (by decide), w5 2 3 (by decide)⟩
      · exact ⟨w3 29 (by decide), w5 2 4 (by decide)⟩
      · exact ⟨w3 30 (by decide), w5 2 5 (by decide)⟩
      · exact ⟨w3 31 (by decide), w5 2 6 (by decide)⟩
      · exact ⟨w3 32 (by decide), w5 2 7 (by decide)⟩
    · exact ⟨by rw [w1]; omega, w3 3 (by decide), ⟨w3 4 (by decide), w3 5 (by decide), w3 6 (by decide), w3 7 (by decide), w3 8 (by decide), w3 9 (by decide)⟩, ⟨w4 4 (by decide), w4 5 (by decide), w4 6 (by decide), w4 7 (by decide), w4 8 (by decide), w4 9 (by decide)⟩, w5 3 1 (by decide), w5 3 2 (by decide), w5 3 3 (by decide), w5 3 4 (by decide), w5 3 5 (by decide), w5 3 6 (by decide)⟩
    · exact ⟨by rw [w1]; omega, w3 10 (by decide), ⟨w3 11 (by decide), w3 12 (by decide)⟩, ⟨w4 11 (by decide), w4 12 (by decide)⟩, w5 10 2 (by decide), w5 10 3 (by decide)⟩
