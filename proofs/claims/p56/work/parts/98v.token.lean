/-! THE PURE LEVEL, 80: tokens, the class -/
/-- the end of a run: n places may be looked at -/
def ruN (P : Nat → Bool) (s : Nat) : Nat → Nat
  | 0 => s
  | n + 1 => if P s = true then ruN P (s + 1) n else s
theorem ruN_sp (P : Nat → Bool) : ∀ n s, s ≤ ruN P s n ∧ ruN P s n ≤ s + n ∧ (∀ k, s ≤ k → k < ruN P s n → P k = true) ∧ (ruN P s n < s + n → P (ruN P s n) = false)
  | 0, s => ⟨Nat.le_refl _, Nat.le_refl _, fun k h1 h2 => by have h2 : k < s := h2; omega, fun h => absurd h (Nat.lt_irrefl _)⟩
  | n + 1, s => by
    obtain ⟨h1, h2, h3, h4⟩ := ruN_sp P n (s + 1)
    have eq : ruN P s (n + 1) = if P s = true then ruN P (s + 1) n else s := rfl
    rw [eq]
    cases e : P s
    · rw [if_neg (by decide)]
      exact ⟨Nat.le_refl _, by omega, fun k q1 q2 => absurd (show k < s from q2) (by omega), fun _ => e⟩
    · rw [if_pos rfl]
      refine ⟨by omega, by omega, fun k q1 q2 => ?_, fun q => h4 (by omega)⟩
      by_cases z : k = s
      · rw [z]
        exact e
      · exact h3 k (by omega) q2
def ruE (P : Nat → Bool) (s e : Nat) : Nat := ruN P s (e - s)
theorem ruE_sp (P : Nat → Bool) {s e : Nat} (h : s ≤ e) : s ≤ ruE P s e ∧ ruE P s e ≤ e ∧ (∀ k, s ≤ k → k < ruE P s e → P k = true) ∧ (ruE P s e < e → P (ruE P s e) = false) := by
  obtain ⟨h1, h2, h3, h4⟩ := ruN_sp P (e - s) s
  exact ⟨h1, by unfold ruE; omega, h3, fun q => h4 (by unfold ruE at q; omega)⟩
theorem ruE_uniq (P : Nat → Bool) {s e x : Nat} (h : s ≤ e) (h1 : s ≤ x) (h2 : x ≤ e) (h3 : ∀ k, s ≤ k → k < x → P k = true) (h4 : x < e → P x = false) : x = ruE P s e := by
  obtain ⟨q1, q2, q3, q4⟩ := ruE_sp P h
  rcases Nat.lt_trichotomy x (ruE P s e) with z | z | z
  · have := q3 x h1 z
    rw [h4 (by omega)] at this
    cases this
  · exact z
  · have := h3 (ruE P s e) q1 z
    rw [q4 (by omega)] at this
    cases this
def blB (f : Nat → Int32) (k : Nat) : Bool := decide (f k = 32)
def lrB (f : Nat → Int32) (k : Nat) : Bool := ltB (f k)
def dgB (f : Nat → Int32) (k : Nat) : Bool := inR (f k) (nI 48) (nI 57)
/-- the token behind place p: its start, its kind (as the class has them), the place behind it, its number -/
def tkS (f : Nat → Int32) (e p : Nat) : Nat := ruE (blB f) p e
def sgK (v : Int32) : Nat := if v = 40 then 4 else if v = 41 then 5 else if v = 59 then 3 else 6
def tkX (f : Nat → Int32) (e p : Nat) : Nat := if tkS f e p = e then e else if lrB f (tkS f e p) = true then ruE (lrB f) (tkS f e p) e else if dgB f (tkS f e p) = true then ruE (dgB f) (tkS f e p) e else tkS f e p + 1
def tkK (f : Nat → Int32) (e p : Nat) : Nat := if tkS f e p = e then 0 else if lrB f (tkS f e p) = true then (if tkX f e p - tkS f e p ≤ 8 then 1 else 6) else if dgB f (tkS f e p) = true then (if tkX f e p - tkS f e p ≤ 2 then 2 else 6) else sgK (f (tkS f e p))
def dgV (f : Nat → Int32) (k : Nat) : Nat := (f k).toNatClampNeg - 48
def tkV (f : Nat → Int32) (e p : Nat) : Nat := if tkX f e p - tkS f e p = 1 then dgV f (tkS f e p) else 10 * dgV f (tkS f e p) + dgV f (tkS f e p + 1)
section TOK
variable {f : Nat → Int32} {e p s : Nat}
theorem sg_b {v : Int32} : 3 ≤ sgK v ∧ sgK v < 7 := by
  unfold sgK
  split
  · omega
  · split
    · omega
    · split <;> omega
theorem ru_lt {Q : Nat → Bool} {s e : Nat} (h : s < e) (q : Q s = true) : s < ruE Q s e := by
  obtain ⟨g1, g2, g3, g4⟩ := ruE_sp Q (s := s) (e := e) (by omega)
  rcases Nat.lt_or_ge s (ruE Q s e) with y | y
  · exact y
  · have y2 : ruE Q s e = s := by omega
    have := g4 (by omega)
    rw [y2, q] at this
    cases this
theorem tk_0 (z : tkS f e p = e) : tkX f e p = e ∧ tkK f e p = 0 := by
  unfold tkK tkX
  rw [if_pos z, if_pos z]
  exact ⟨rfl, rfl⟩
theorem tk_w (z : ¬ tkS f e p = e) (z1 : lrB f (tkS f e p) = true) : tkX f e p = ruE (lrB f) (tkS f e p) e ∧ tkK f e p = if tkX f e p - tkS f e p ≤ 8 then 1 else 6 := by
  have ex : tkX f e p = ruE (lrB f) (tkS f e p) e := by
    unfold tkX
    rw [if_neg z, if_pos z1]
  refine ⟨ex, ?_⟩
  unfold tkK
  rw [if_neg z, if_pos z1]
theorem tk_d (z : ¬ tkS f e p = e) (z1 : lrB f (tkS f e p) = false) (z2 : dgB f (tkS f e p) = true) : tkX f e p = ruE (dgB f) (tkS f e p) e ∧ tkK f e p = if tkX f e p - tkS f e p ≤ 2 then 2 else 6 := by
  have z1' : ¬ lrB f (tkS f e p) = true := by rw [z1]; decide
  have ex : tkX f e p = ruE (dgB f) (tkS f e p) e := by
    unfold tkX
    rw [if_neg z, if_neg z1', if_pos z2]
  refine ⟨ex, ?_⟩
  unfold tkK
  rw [if_neg z, if_neg z1', if_pos z2]
theorem tk_g (z : ¬ tkS f e p = e) (z1 : lrB f (tkS f e p) = false) (z2 : dgB f (tkS f e p) = false) : tkX f e p = tkS f e p + 1 ∧ tkK f e p = sgK (f (tkS f e p)) := by
  have z1' : ¬ lrB f (tkS f e p) = true := by rw [z1]; decide
  have z2' : ¬ dgB f (tkS f e p) = true := by rw [z2]; decide
  have ex : tkX f e p = tkS f e p + 1 := by
    unfold tkX
    rw [if_neg z, if_neg z1', if_neg z2']
  refine ⟨ex, ?_⟩
  unfold tkK
  rw [if_neg z, if_neg z1', if_neg z2']
theorem tk_b (h : p ≤ e) : p ≤ tkS f e p ∧ tkS f e p ≤ tkX f e p ∧ tkX f e p ≤ e ∧ (tkK f e p ≠ 0 → tkS f e p < tkX f e p) ∧ (tkK f e p = 0 → tkX f e p = e ∧ tkS f e p = e) := by
  obtain ⟨h1, h2, -, -⟩ := ruE_sp (blB f) h
  have hs : tkS f e p ≤ e := h2
  refine ⟨h1, ?_⟩
  by_cases z : tkS f e p = e
  · obtain ⟨ex, ek⟩ := tk_0 z
    rw [ex, ek]
    exact ⟨h2, Nat.le_refl _, fun q => absurd rfl q, fun _ => ⟨rfl, z⟩⟩
  · cases z1 : lrB f (tkS f e p)
    · cases z2 : dgB f (tkS f e p)
      · obtain ⟨ex, ek⟩ := tk_g z z1 z2
        have hg := sg_b (v := f (tkS f e p))
        rw [ex, ek]
        exact ⟨by omega, by omega, fun _ => by omega, fun q => by omega⟩
      · obtain ⟨ex, ek⟩ := tk_d z z1 z2
        obtain ⟨g1, g2, g3, g4⟩ := ruE_sp (dgB f) hs
        have g5 := ru_lt (Q := dgB f) (s := tkS f e p) (e := e) (by omega) z2
        rw [← ex] at g1 g2 g5
        refine ⟨g1, g2, fun _ => g5, fun q => ?_⟩
        rw [ek] at q
        split at q
        · omega
        · omega
    · obtain ⟨ex, ek⟩ := tk_w z z1
      obtain ⟨g1, g2, g3, g4⟩ := ruE_sp (lrB f) hs
      have g5 := ru_lt (Q := lrB f) (s := tkS f e p) (e := e) (by omega) z1
      rw [← ex] at g1 g2 g5
      refine ⟨g1, g2, fun _ => g5, fun q => ?_⟩
      rw [ek] at q
      split at q
      · omega
      · omega
theorem dgB_t {k : Nat} (h : dgB f k = true) : f k = nI (48 + dgV f k) ∧ dgV f k ≤ 9 := by
  unfold dgB at h
  obtain ⟨a, ea, h1, h2⟩ := inR_t (by decide) (by decide) h
  unfold dgV
  rw [ea, nI_clamp (by omega)]
  exact ⟨congrArg nI (by omega), by omega⟩
theorem lrB_t {k : Nat} (h : lrB f k = true) : f k = nI (96 + lf f k) ∧ 1 ≤ lf f k ∧ lf f k ≤ 26 := ltB_t h
/-- a token that is a word: its bytes -/
theorem tk_wd (h : p ≤ e) (hk : tkK f e p = 1) : 1 ≤ tkX f e p - tkS f e p ∧ tkX f e p - tkS f e p ≤ 8 ∧ ∀ k, k < tkX f e p - tkS f e p → f (tkS f e p + k) = nI (96 + lf f (tkS f e p + k)) ∧ 1 ≤ lf f (tkS f e p + k) ∧ lf f (tkS f e p + k) ≤ 26 := by
  have hb := tk_b (f := f) h
  have h4 := hb.2.2.2.1 (by omega)
  have hs : tkS f e p ≤ e := by omega
  by_cases z : tkS f e p = e
  · have := (tk_0 z).2
    omega
  · cases z1 : lrB f (tkS f e p)
    · exfalso
      cases z2 : dgB f (tkS f e p)
      · have ek := (tk_g z z1 z2).2
        have hg := sg_b (v := f (tkS f e p))
        omega
      · have ek := (tk_d z z1 z2).2
        rw [hk] at ek
        split at ek
        · omega
        · omega
    · obtain ⟨ex, ek⟩ := tk_w z z1
      rw [hk] at ek
      have h8 : tkX f e p - tkS f e p ≤ 8 := by
        split at ek
        · assumption
        · omega
      refine ⟨by omega, h8, fun k hk2 => ?_⟩
      obtain ⟨g1, g2, g3, g4⟩ := ruE_sp (lrB f) hs
      exact lrB_t (g3 _ (by omega) (by rw [← ex]; omega))
/-- a token that is a number -/
theorem tk_nm (h : p ≤ e) (hk : tkK f e p = 2) : tkV f e p ≤ 99 ∧ tkX f e p - tkS f e p ≤ 2 ∧ 1 ≤ tkX f e p - tkS f e p ∧ ∀ k, tkS f e p ≤ k → k < tkX f e p → dgB f k = true := by
  have hb := tk_b (f := f) h
  have h4 := hb.2.2.2.1 (by omega)
  have hs : tkS f e p ≤ e := by omega
  by_cases z : tkS f e p = e
  · have := (tk_0 z).2
    omega
  · cases z1 : lrB f (tkS f e p)
    · cases z2 : dgB f (tkS f e p)
      · exfalso
        have ek := (tk_g z z1 z2).2
        have hg := sg_b (v := f (tkS f e p))
        omega
      · obtain ⟨ex, ek⟩ := tk_d z z1 z2
        rw [hk] at ek
        have h2 : tkX f e p - tkS f e p ≤ 2 := by
          split at ek
          · assumption
          · omega
        obtain ⟨g1, g2, g3, g4⟩ := ruE_sp (dgB f) hs
        have gd : ∀ k, tkS f e p ≤ k → k < tkX f e p → dgB f k = true := fun k q1 q2 => g3 k q1 (by rw [← ex]; exact q2)
        refine ⟨?_, h2, by omega, gd⟩
        have v0 := (dgB_t (gd _ (Nat.le_refl _) h4)).2
        unfold tkV
        split
        · omega
        · have v1 := (dgB_t (gd (tkS f e p + 1) (by omega) (by omega))).2
          omega
    · exfalso
      have ek := (tk_w z z1).2
      rw [hk] at ek
      split at ek
      · omega
      · omega
end TOK
/-- the class's scanner has read the token behind p -/
def SCN (f : Nat → Int32) (e p : Nat) (g : Nat → Int32) (w : Int64) : Prop := g 1 = nI (tkX f e p) ∧ g 2 = nI e ∧ g 3 = nI (tkK f e p) ∧ g 4 = nI (tkS f e p) ∧ (tkK f e p = 2 → g 5 = nI (tkV f e p)) ∧ (tkK f e p = 1 → w = lN (pkL (fun k => lf f (tkS f e p + k)) (tkX f e p - tkS f e p)))
/-- the cells of a parse that are read -/
def PK (σ : HpT) : Prop := 91 ≤ hN σ ∧ (hK σ 1 = 22 ∧ hZ σ 1 = 600) ∧ hK σ 69 = 7 ∧ hR σ 69 0 = some 1
section CTK
variable {σ : HpT} {G : Nat → Nat → Int32} {J : Nat → Nat → Int64} {f : Nat → Int32} {e p : Nat}
theorem pk_I (h : PK σ) (k : Nat) : gI (wc σ G J) (some 69) 7 k = some (G 69 k) := gI_c h.2.2.1 (by have := h.1; omega)
theorem pk_P (h : PK σ) (k : Nat) (x : Int32) : pI (wc σ G J) (some 69) 7 k x = some (wc σ (cw G 69 (u1 (G 69) k x)) J) := by rw [pI_c h.2.2.1 (by have := h.1; omega), up_is]
theorem pk_J (h : PK σ) (k : Nat) : gJ (wc σ G J) (some 69) 7 k = some (J 69 k) := gJ_c h.2.2.1 (by have := h.1; omega)
theorem pk_PJ (h : PK σ) (k : Nat) (x : Int64) : pJ (wc σ G J) (some 69) 7 k x = some (wc σ G (upJ J 69 k x)) := pJ_c h.2.2.1 (by have := h.1; omega)
theorem pk_r (h : PK σ) : gR (wc σ G J) (some 69) 7 0 = some (some 1) := gR_c h.2.2.1 h.2.2.2
theorem pk_a (h : PK σ) {n : Nat} (hn : n < 600) : aI (wc σ G J) (some 1) 22 (nI n) = some (G 1 n) := aI_c h.2.1.1 (by have := h.1; omega) h.2.1.2 hn (by decide)
theorem c_isDigit (v : Int32) : fX7_isDigit v σ = some (inR v (nI 48) (nI 57)) := by
  unfold fX7_isDigit inR
  by_cases h1 : v < 48
  · rw [if_pos h1, show decide (nI 48 ≤ v) = false from decide_eq_false (Int32.not_le.mpr h1), Bool.false_and]
  · rw [if_neg h1, show decide (nI 48 ≤ v) = true from decide_eq_true (Int32.not_lt.mp h1), Bool.true_and]
    by_cases h2 : 57 < v
    · rw [if_pos h2, show decide (v ≤ nI 57) = false from decide_eq_false (Int32.not_le.mpr h2)]
    · rw [if_neg h2, show decide (v ≤ nI 57) = true from decide_eq_true (Int32.not_lt.mp h2)]
theorem upJ_upJ (J : Nat → Nat → Int64) (a k : Nat) (x y : Int64) : upJ (upJ J a k x) a k y = upJ J a k y := funext fun b => funext fun j => by
  unfold upJ
  by_cases h : b = a ∧ j = k
  · rw [if_pos h, if_pos h]
  · rw [if_neg h, if_neg h, if_neg h]
def nVn (f : Nat → Int32) (s : Nat) : Nat → Int32
  | 0 => 0
  | k + 1 => ((nVn f s k * 10) + f (s + k)) - 48
def wJn (f : Nat → Int32) (s : Nat) : Nat → Int64
  | 0 => 0
  | k + 1 => (wJn f s k <<< ((nI 8).toInt64 &&& 63)) ||| (f (s + k)).toInt64
theorem c_joinedX (w : Int64) (x : Int32) : fX9_joined w x σ = some ((w <<< ((nI 8).toInt64 &&& 63)) ||| x.toInt64) := rfl
theorem wJn_pk {s n : Nat} (h : ∀ k, k < n → f (s + k) = nI (96 + lf f (s + k)) ∧ 1 ≤ lf f (s + k) ∧ lf f (s + k) ≤ 26) : n ≤ 8 → wJn f s n = lN (pkL (fun k => lf f (s + k)) n) := by
  induction n with
  | zero => exact fun _ => rfl
  | succ n ih =>
    intro h8
    have h1 := ih (fun k hk => h k (by omega)) (by omega)
    have h2 := h n (by omega)
    have hp := pkL_lt (f := fun k => lf f (s + k)) n (fun k hk => (h k (by omega)).2.2)
    have hq : 256 ^ n ≤ 256 ^ 7 := Nat.pow_le_pow_right (by decide) (by omega)
    have e7 : (256 : Nat) ^ 7 = 72057594037927936 := by decide
    have cj := c_joined (σ := (0, fun _ => 0, fun _ => 0, fun _ _ => 0, fun _ _ => 0, fun _ _ => none, 0, fun _ => 0)) (P := pkL (fun k => lf f (s + k)) n) (x := 96 + lf f (s + n)) (by omega) (by omega)
    rw [c_joinedX] at cj
    show (wJn f s n <<< ((nI 8).toInt64 &&& 63)) ||| (f (s + n)).toInt64 = lN (pkL (fun k => lf f (s + k)) n * 256 + (96 + lf f (s + n)))
    rw [h1, h2.1]
    exact Option.some.inj cj
theorem c_step (h : PK σ) (he : e ≤ 600) (hp : p ≤ e) (h1 : G 69 1 = nI p) (h2 : G 69 2 = nI e) (hf : ∀ k, k < e → G 1 k = f k) : ∃ g w, fX7_step (some 69) (wc σ G J) = some (wc σ (cw G 69 g) (upJ J 69 6 w)) ∧ SCN f e p g w := by
  have hb := tk_b (f := f) hp
  have eo : ∀ G J, isK (wc σ G J) (some 69) 7 = some () := fun G J => isK_c h.2.2.1
  obtain ⟨r1, r2, r3, r4⟩ := ruE_sp (blB f) hp
  have hs : ruE (blB f) p e = tkS f e p := rfl
  rw [hs] at r1 r2 r3 r4
  have k1 : ∀ g : Nat → Int32, cw G 69 g 69 = g := fun g => cw_a _ _ _
  have k2 : ∀ g : Nat → Int32, cw G 69 g 1 = G 1 := fun g => cw_b (by decide)
  have l1 := lpS_f (f := fX7_step_l1 (some 69)) (a := ()) (σ := wc σ G J) (r := ()) (tkS f e p - p) (fun _ => ()) (fun k => wc σ (cw G 69 (u1 (G 69) 1 (nI (p + k)))) J) rfl (by
    show wc σ (cw G 69 (u1 (G 69) 1 (nI (p + 0)))) J = wc σ G J
    rw [Nat.add_zero, ← h1, u1_id, cw_self]) (by omega) (fun k hk => by
    have hq := r3 (p + k) (by omega) (by omega)
    unfold fX7_step_l1
    rw [pk_I h, bnP_1, pk_I h, bnP_1, k1, u1_e, u1_k (by decide), h2, if_neg (nI_ge (by omega) (by omega)), pk_r h, bnP_1, bnP_1, pk_a h (by omega), bnP_1, k2, hf _ (by omega), if_pos (of_decide_eq_true hq), bnP_1, nI_a1, pk_P h, bnP_1, k1, cw_cw]
    congr 4
    funext j
    unfold u1
    by_cases z : j = 1
    · rw [if_pos z, if_pos z]
      rfl
    · rw [if_neg z, if_neg z, if_neg z]) (by
    show fX7_step_l1 (some 69) () (wc σ (cw G 69 (u1 (G 69) 1 (nI (p + (tkS f e p - p))))) J) = _
    rw [show p + (tkS f e p - p) = tkS f e p by omega]
    unfold fX7_step_l1
    rw [pk_I h, bnP_1, pk_I h, bnP_1, k1, u1_e, u1_k (by decide), h2]
    by_cases z : tkS f e p = e
    · rw [if_pos (nI_le (by omega) (by omega))]
    · have hq := r4 (by omega)
      rw [if_neg (nI_ge (by omega) (by omega)), pk_r h, bnP_1, bnP_1, pk_a h (by omega), bnP_1, k2, hf _ (by omega), if_neg (of_decide_eq_false hq)])
  unfold fX7_step
  rw [eo, bnP_1, l1, bnS_1, pk_I h, bnP_1, k1, u1_e, pk_P h, bnP_1, k1, cw_cw]
  generalize hg0 : u1 (u1 (G 69) 1 (nI (tkS f e p))) 4 (nI (tkS f e p)) = g0
  have g01 : g0 1 = nI (tkS f e p) := by rw [← hg0, u1_k (by decide), u1_e]
  have g02 : g0 2 = nI e := by rw [← hg0, u1_k (by decide), u1_k (by decide)]; exact h2
  have g04 : g0 4 = nI (tkS f e p) := by rw [← hg0, u1_e]
  have kk : ∀ (g g' : Nat → Int32), cw (cw G 69 g) 69 g' = cw G 69 g' := fun g g' => cw_cw _ _ _ _
  rw [pk_I h, bnP_1, pk_I h, bnP_1, k1, g01, g02]
  by_cases z : tkS f e p = e
  · obtain ⟨ex, ek⟩ := tk_0 z
    refine ⟨u1 g0 3 0, J 69 6, ?_, ?_, ?_, ?_, ?_, fun q => ?_, fun q => ?_⟩
    · rw [if_neg (nI_nlt (by omega) (by omega)), pk_P h, bnP_1, k1, kk, upJ_self]
    · rw [u1_k (by decide), g01, ex, z]
    · rw [u1_k (by decide), g02]
    · rw [u1_e, ek]
      rfl
    · rw [u1_k (by decide), g04]
    · omega
    · omega
  · rw [if_pos (nI_lt (by omega) (by omega)), pk_r h, bnP_1, bnP_1, pk_a h (by omega), bnP_1, k2, hf _ (by omega), c_isLetter, bnP_1]
    cases z1 : lrB f (tkS f e p)
    · rw [show ltB (f (tkS f e p)) = false from z1, if_neg (by decide), bnP_1, bnP_1, pk_a h (by omega), bnP_1, k2, hf _ (by omega), c_isDigit, bnP_1]
      cases z2 : dgB f (tkS f e p)
      · obtain ⟨ex, ek⟩ := tk_g z z1 z2
        have esk : fX7_kindOfSign (f (tkS f e p)) (wc σ (cw G 69 g0) J) = some (nI (tkK f e p)) := by
          rw [ek]
          unfold fX7_kindOfSign sgK
          split
          · rfl
          · split
            · rfl
            · split
              · rfl
              · rfl
        have n12 : tkK f e p ≠ 1 ∧ tkK f e p ≠ 2 := by
          rw [ek]
          unfold sgK
          split
          · omega
          · split
            · omega
            · split
              · omega
              · omega
        refine ⟨u1 (u1 g0 3 (nI (tkK f e p))) 1 (nI (tkS f e p + 1)), J 69 6, ?_, ?_, ?_, ?_, ?_, fun q => absurd q n12.2, fun q => absurd q n12.1⟩
        · rw [show inR (f (tkS f e p)) (nI 48) (nI 57) = false from z2, if_neg (by decide), bnP_1, bnP_1, pk_a h (by omega), bnP_1, k2, hf _ (by omega), esk, bnP_1, pk_P h, bnP_1, k1, kk, pk_I h, bnP_1, k1, u1_k (by decide), g01, nI_a1, pk_P h, bnP_1, k1, kk, upJ_self]
        · rw [u1_e, ex]
        · rw [u1_k (by decide), u1_k (by decide), g02]
        · rw [u1_k (by decide), u1_e]
        · rw [u1_k (by decide), u1_k (by decide), g04]
      · obtain ⟨ex, ek⟩ := tk_d z z1 z2
        obtain ⟨d1, d2, d3, d4⟩ := ruE_sp (dgB f) (s := tkS f e p) (e := e) (by omega)
        rw [← ex] at d1 d2 d3 d4
        rw [show inR (f (tkS f e p)) (nI 48) (nI 57) = true from z2, if_pos rfl]
        -- the value that the loop makes
        generalize hV : nVn f (tkS f e p) = V
        have V0 : V 0 = 0 := by
          rw [← hV]
          rfl
        have V1 : ∀ k, V (k + 1) = ((V k * 10) + f (tkS f e p + k)) - 48 := fun k => by
          rw [← hV]
          rfl
        have l2 := lpS_f (f := fX7_readNumber_l1 (some 69)) (a := ()) (σ := wc σ (cw G 69 (u1 g0 5 0)) J) (r := ()) (tkX f e p - tkS f e p) (fun _ => ()) (fun k => wc σ (cw G 69 (u1 (u1 g0 5 (V k)) 1 (nI (tkS f e p + k)))) J) rfl (by
          show wc σ (cw G 69 (u1 (u1 g0 5 (V 0)) 1 (nI (tkS f e p + 0)))) J = _
          rw [V0, Nat.add_zero]
          congr 2
          funext j
          unfold u1
          by_cases y : j = 1
          · rw [if_pos y, if_neg (by omega), y, g01]
          · rw [if_neg y]) (by omega) (fun k hk => by
          have hq := d3 (tkS f e p + k) (by omega) (by omega)
          unfold fX7_readNumber_l1
          rw [pk_I h, bnP_1, pk_I h, bnP_1, k1, u1_e, u1_k (by decide), u1_k (by decide), g02, if_neg (nI_ge (by omega) (by omega)), pk_r h, bnP_1, bnP_1, pk_a h (by omega), bnP_1, k2, hf _ (by omega), c_isDigit, bnP_1, show inR (f (tkS f e p + k)) (nI 48) (nI 57) = true from hq, if_pos rfl, pk_I h, bnP_1, k1, u1_k (by decide), u1_e, bnP_1, bnP_1, pk_a h (by omega), bnP_1, k2, hf _ (by omega), pk_P h, bnP_1, k1, kk, pk_I h, bnP_1, k1, u1_k (by decide), u1_e, nI_a1, pk_P h, bnP_1, k1, kk, V1]
          congr 4
          funext j
          unfold u1
          by_cases y : j = 1
          · rw [if_pos y, if_pos y]
            rfl
          · rw [if_neg y, if_neg y]
            by_cases y5 : j = 5
            · rw [if_pos y5, if_neg y, if_pos y5]
            · rw [if_neg y5, if_neg y, if_neg y5, if_neg y5]) (by
          show fX7_readNumber_l1 (some 69) () (wc σ (cw G 69 (u1 (u1 g0 5 (V (tkX f e p - tkS f e p))) 1 (nI (tkS f e p + (tkX f e p - tkS f e p))))) J) = _
          rw [show tkS f e p + (tkX f e p - tkS f e p) = tkX f e p by omega]
          unfold fX7_readNumber_l1
          rw [pk_I h, bnP_1, pk_I h, bnP_1, k1, u1_e, u1_k (by decide), u1_k (by decide), g02]
          by_cases y : tkX f e p = e
          · rw [if_pos (nI_le (by omega) (by omega))]
          · have hq := d4 (by omega)
            rw [if_neg (nI_ge (by omega) (by omega)), pk_r h, bnP_1, bnP_1, pk_a h (by omega), bnP_1, k2, hf _ (by omega), c_isDigit, bnP_1, show inR (f (tkX f e p)) (nI 48) (nI 57) = false from hq, if_neg (by decide)])
        refine ⟨u1 (u1 (u1 g0 5 (V (tkX f e p - tkS f e p))) 1 (nI (tkX f e p))) 3 (nI (tkK f e p)), J 69 6, ?_, ?_, ?_, ?_, ?_, fun q => ?_, fun q => ?_⟩
        · unfold fX7_readNumber
          rw [eo, bnP_1, pk_P h, bnP_1, k1, kk, l2, bnS_1, pk_I h, bnP_1, k1, u1_e, pk_I h, bnP_1, k1, u1_k (by decide), u1_k (by decide), g04, nI_sub (by omega), ek]
          by_cases y : tkX f e p - tkS f e p ≤ 2
          · rw [if_pos y, if_neg (show ¬ 2 < nI (tkX f e p - tkS f e p) from nI_nlt (a := 2) y (by decide)), bnP_1]
            dsimp only
            rw [pk_P h, bnP_1, k1, kk, bnP_1, upJ_self]
            rfl
          · rw [if_neg y, if_pos (show 2 < nI (tkX f e p - tkS f e p) from nI_lt (a := 2) (by omega) (by omega)), bnP_1]
            dsimp only
            rw [pk_P h, bnP_1, k1, kk, bnP_1, upJ_self]
            rfl
        · rw [u1_k (by decide), u1_e]
        · rw [u1_k (by decide), u1_k (by decide), u1_k (by decide), g02]
        · rw [u1_e]
        · rw [u1_k (by decide), u1_k (by decide), u1_k (by decide), g04]
        · have hn := tk_nm hp q
          rw [u1_k (by decide), u1_k (by decide), u1_e]
          have v0 := dgB_t (hn.2.2.2 (tkS f e p) (Nat.le_refl _) (by omega))
          have hl : tkX f e p - tkS f e p = 1 ∨ tkX f e p - tkS f e p = 2 := by omega
          have W1' : V 1 = nI (dgV f (tkS f e p)) := by
            rw [V1 0, V0, Nat.add_zero, v0.1, show (0 : Int32) * 10 + nI (48 + dgV f (tkS f e p)) = nI (48 + dgV f (tkS f e p)) from by rw [Int32.zero_mul, Int32.zero_add], show nI (48 + dgV f (tkS f e p)) - 48 = nI (48 + dgV f (tkS f e p) - 48) from nI_sub (b := 48) (by omega)]
            congr 1
            omega
          unfold tkV
          rcases hl with hl | hl
          · rw [hl, if_pos rfl, W1']
          · have v1 := dgB_t (hn.2.2.2 (tkS f e p + 1) (by omega) (by omega))
            rw [hl, if_neg (by decide), V1 1, W1', v1.1, show nI (dgV f (tkS f e p)) * 10 = nI (dgV f (tkS f e p) * 10) from pk_mul _ 10, nI_add, show nI (dgV f (tkS f e p) * 10 + (48 + dgV f (tkS f e p + 1))) - 48 = nI (dgV f (tkS f e p) * 10 + (48 + dgV f (tkS f e p + 1)) - 48) from nI_sub (b := 48) (by omega)]
            congr 1
            omega
        · rw [ek] at q
          split at q
          · omega
          · omega
    · obtain ⟨ex, ek⟩ := tk_w z z1
      obtain ⟨d1, d2, d3, d4⟩ := ruE_sp (lrB f) (s := tkS f e p) (e := e) (by omega)
      rw [← ex] at d1 d2 d3 d4
      rw [show ltB (f (tkS f e p)) = true from z1, if_pos rfl]
      have l2 := lpS_f (f := fX7_readWord_l1 (some 69)) (a := ()) (σ := wc σ (cw G 69 g0) (upJ J 69 6 0)) (r := ()) (tkX f e p - tkS f e p) (fun _ => ()) (fun k => wc σ (cw G 69 (u1 g0 1 (nI (tkS f e p + k)))) (upJ J 69 6 (wJn f (tkS f e p) k))) rfl (by
        show wc σ (cw G 69 (u1 g0 1 (nI (tkS f e p + 0)))) (upJ J 69 6 0) = _
        rw [Nat.add_zero, ← g01, u1_id]) (by omega) (fun k hk => by
        have hq := d3 (tkS f e p + k) (by omega) (by omega)
        unfold fX7_readWord_l1
        rw [pk_I h, bnP_1, pk_I h, bnP_1, k1, u1_e, u1_k (by decide), g02, if_neg (nI_ge (by omega) (by omega)), pk_r h, bnP_1, bnP_1, pk_a h (by omega), bnP_1, k2, hf _ (by omega), c_isLetter, bnP_1, show ltB (f (tkS f e p + k)) = true from hq, if_pos rfl, pk_J h, bnP_1, upJ_eq, bnP_1, bnP_1, pk_a h (by omega), bnP_1, k2, hf _ (by omega), c_joinedX, bnP_1, pk_PJ h, bnP_1, upJ_upJ, pk_I h, bnP_1, k1, u1_e, nI_a1, pk_P h, bnP_1, k1, kk]
        show some (Sum.inl (), wc σ (cw G 69 (u1 (u1 g0 1 (nI (tkS f e p + k))) 1 (nI (tkS f e p + k + 1)))) (upJ J 69 6 (wJn f (tkS f e p) (k + 1)))) = _
        congr 4
        funext j
        unfold u1
        by_cases y : j = 1
        · rw [if_pos y, if_pos y]
          rfl
        · rw [if_neg y, if_neg y, if_neg y]) (by
        show fX7_readWord_l1 (some 69) () (wc σ (cw G 69 (u1 g0 1 (nI (tkS f e p + (tkX f e p - tkS f e p))))) (upJ J 69 6 (wJn f (tkS f e p) (tkX f e p - tkS f e p)))) = _
        rw [show tkS f e p + (tkX f e p - tkS f e p) = tkX f e p by omega]
        unfold fX7_readWord_l1
        rw [pk_I h, bnP_1, pk_I h, bnP_1, k1, u1_e, u1_k (by decide), g02]
        by_cases y : tkX f e p = e
        · rw [if_pos (nI_le (by omega) (by omega))]
        · have hq := d4 (by omega)
          rw [if_neg (nI_ge (by omega) (by omega)), pk_r h, bnP_1, bnP_1, pk_a h (by omega), bnP_1, k2, hf _ (by omega), c_isLetter, bnP_1, show ltB (f (tkX f e p)) = false from hq, if_neg (by decide)])
      refine ⟨u1 (u1 g0 1 (nI (tkX f e p))) 3 (nI (tkK f e p)), wJn f (tkS f e p) (tkX f e p - tkS f e p), ?_, ?_, ?_, ?_, ?_, fun q => ?_, fun q => ?_⟩
      · unfold fX7_readWord
        rw [eo, bnP_1, pk_PJ h, bnP_1, l2, bnS_1, pk_I h, bnP_1, k1, u1_e, pk_I h, bnP_1, k1, u1_k (by decide), g04, nI_sub (by omega), ek]
        by_cases y : tkX f e p - tkS f e p ≤ 8
        · rw [if_pos y, if_neg (show ¬ 8 < nI (tkX f e p - tkS f e p) from nI_nlt (a := 8) y (by decide)), bnP_1]
          dsimp only
          rw [pk_P h, bnP_1, k1, kk, bnP_1]
          rfl
        · rw [if_neg y, if_pos (show 8 < nI (tkX f e p - tkS f e p) from nI_lt (a := 8) (by omega) (by omega)), bnP_1]
          dsimp only
          rw [pk_P h, bnP_1, k1, kk, bnP_1]
          rfl
      · rw [u1_k (by decide), u1_e]
      · rw [u1_k (by decide), u1_k (by decide), g02]
      · rw [u1_e]
      · rw [u1_k (by decide), u1_k (by decide), g04]
      · rw [ek] at q
        split at q
        · omega
        · omega
      · have hw := tk_wd hp q
        exact wJn_pk hw.2.2 hw.2.1
end CTK
