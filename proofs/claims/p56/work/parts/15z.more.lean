/-! MORE ROWS: casts, ways through an interface, fields of nest mates, rows of objects, statics -/
def ckK (σ : HpT) (r : Option Nat) (κ : Nat) : Option Unit := match r with
  | none => none
  | some a => if hK σ a = κ ∧ a < hN σ then some () else none
theorem ckK_s {σ : HpT} {r : Option Nat} {κ : Nat} {u : Unit} (h : ckK σ r κ = some u) : ∃ a, r = some a ∧ hK σ a = κ ∧ a < hN σ := by
  cases r with
  | none => cases h
  | some a =>
    unfold ckK at h
    dsimp only at h
    split at h
    · rename_i h1
      exact ⟨a, rfl, h1.1, h1.2⟩
    · cases h
/-- two references are one; are two, in the heap -/
def sameR (x y : Option Nat) : Option Unit := if x = y then some () else none
theorem sameR_s {x y : Option Nat} {u : Unit} (h : sameR x y = some u) : x = y := by
  unfold sameR at h
  split at h
  · assumption
  · cases h
def diffR (σ : HpT) (x y : Option Nat) : Option Unit := match x, y with
  | some a, some b => if (a < hN σ ∧ b < hN σ) ∧ ¬ a = b then some () else none
  | _, _ => none
theorem diffR_s {σ : HpT} {x y : Option Nat} {u : Unit} (h : diffR σ x y = some u) : ∃ a b, x = some a ∧ y = some b ∧ a < hN σ ∧ b < hN σ ∧ ¬ a = b := by
  cases x with
  | none => cases h
  | some a =>
    cases y with
    | none => cases h
    | some b =>
      unfold diffR at h
      dsimp only at h
      split at h
      · rename_i h1
        exact ⟨a, b, rfl, rfl, h1.1.1, h1.1.2, h1.2⟩
      · cases h
/-- a row of any objects: an act or a word of the law's is laid in -/
def sO (σ : HpT) (r : Option Nat) (i : Int32) (x : Option Nat) : Option HpT := match r, x with
  | some a, some b => if ((hK σ a = 24 ∧ inbB i (hZ σ a) = true) ∧ a < hN σ) ∧ (hK σ b = 10 ∨ hK σ b = 14) ∧ b < hN σ then some (wR σ a i.toNatClampNeg (some b)) else none
  | _, _ => none
theorem sO_s {σ σ' : HpT} {r x : Option Nat} {i : Int32} (h : sO σ r i x = some σ') : ∃ a b, r = some a ∧ x = some b ∧ hK σ a = 24 ∧ vp_in i (hZ σ a) ∧ a < hN σ ∧ (hK σ b = 10 ∨ hK σ b = 14) ∧ b < hN σ ∧ wR σ a i.toNatClampNeg (some b) = σ' := by
  cases r with
  | none => cases h
  | some a =>
    cases x with
    | none => cases h
    | some b =>
      unfold sO at h
      dsimp only at h
      split at h
      · rename_i h1
        exact ⟨a, b, rfl, rfl, h1.1.1.1, inbB_in h1.1.1.2, h1.1.2, h1.2.1, h1.2.2, Option.some.inj h⟩
      · cases h
/-- a copy of a row of bytes -/
def clB (r : Option Nat) (σ : HpT) : AT (Option Nat) := match r with
  | none => none
  | some a => if hN σ < BIG ∧ hK σ a = 22 ∧ a < hN σ then some (.ok (some (hN σ)), wIr (wN σ 22 (hZ σ a)) (hN σ) (hI σ a), 1, hZ σ a) else none
/-- System.arraycopy of bytes, out of a constant's too -/
def cpC (σ : HpT) (r : Option Nat) (sp : Int32) (r2 : Option Nat) (dp n : Int32) : Option HpT := match r, r2 with
  | some a, some b => if hK σ a = 22 ∧ hK σ b = 22 ∧ b < hN σ ∧ 0 ≤ sp.toInt ∧ 0 ≤ dp.toInt ∧ 0 ≤ n.toInt ∧ sp.toNatClampNeg + n.toNatClampNeg ≤ hZ σ a ∧ dp.toNatClampNeg + n.toNatClampNeg ≤ hZ σ b then some (wIr σ b (va_cpy (hI σ a) (hI σ b) sp.toNatClampNeg dp.toNatClampNeg n.toNatClampNeg)) else none
  | _, _ => none
/-- a nest mate's field -/
def FlN (own : String) (idx κ k : Nat) (ty : FieldType) (fin : Bool) : Prop :=
  ∃ (C : String) (T : u_T) (N : Nat) (ty0 : Nat → FieldType) (host : String), gcl[κ]? = some (C, T, N) ∧ k < N ∧ N = nF κ ∧ (∀ w ∈ u_ws C T N, w ∈ ALLw) ∧ Cond.fieldLinkNest own idx (T k).1 (T k).2.1 (T k).2.2.1 host ∈ ALLn ∧
    (∀ j, j < N → parseFieldDescriptor (T j).2.2.1 = some (ty0 j)) ∧ (∀ a, a < N → ∀ b, b < N → a ≠ b → (T a).2.1 ≠ (T b).2.1) ∧ parseFieldDescriptor (T k).2.2.1 = some ty ∧ (T k).2.2.2 = fin ∧ κ < 20
/-- a field named by a class below the one that has it -/
def FlS (own : String) (idx κ k : Nat) (ty : FieldType) : Prop :=
  ∃ (C ref : String) (T : u_T) (N : Nat) (ty0 : Nat → FieldType), gcl[κ]? = some (C, T, N) ∧ k < N ∧ N = nF κ ∧ (∀ w ∈ u_ws C T N, w ∈ ALLw) ∧ Cond.fieldLink own idx ref (T k).2.1 (T k).2.2.1 ∈ ALLw ∧ Cond.sameField ref (T k).1 (T k).2.1 (T k).2.2.1 ∈ ALLw ∧
    (∀ j, j < N → parseFieldDescriptor (T j).2.2.1 = some (ty0 j)) ∧ (∀ a, a < N → ∀ b, b < N → a ≠ b → (T a).2.1 ≠ (T b).2.1) ∧ parseFieldDescriptor (T k).2.2.1 = some ty ∧ (T k).2.2.2 = false ∧ κ < 20
section GZ
variable {Δ : AmbT} {Γ : CtxT} {own : String} {cc : ByteArray} {nL fr lo Kc Ks kc ks pc : Nat} {L : List (Nat × Value)} {st stk : List Value} {σ σ1 : HpT} {idx κ k : Nat}
theorem g_cast (B : Bd Δ Γ own cc nL fr lo Kc Ks) {r : Option Nat} {q : vw_C} {u : Unit} (hκ : κ < 20) (hq : gcl[κ]? = some q) (hl0 : Cond.classLink own idx q.1 ∈ ALLw) (d : decode cc pc = .ok (.checkcast idx, 3)) (h : ckK σ r κ = some u) (kk : GW Δ Γ kc ks (pc + 3) L (va_rf r :: st) σ) : GW Δ Γ kc ks pc L (va_rf r :: st) σ := fun φ H locs ls hp hst hL hl => by
  obtain ⟨a, rfl, hk, ha⟩ := ckK_s h
  have e := ws_at (aC := Δ.2.1) (φ := φ) ha
  rw [entC hk hκ] at e
  exact va_castS B.1 B.2.1 B.2.2.2.1 (B.2.2.2.2.1 _ hl0) (B.2.2.2.2.2.1.1 κ q hq).2 (va_recv B.2.2.2.2.2.1 hp.1 hq e) d (kk φ H locs ls hp hst hL hl)
theorem g_castB (B : Bd Δ Γ own cc nL fr lo Kc Ks) {r : Option Nat} {u : Unit} (hl0 : Cond.classLink own idx "[B" ∈ ALLw) (d : decode cc pc = .ok (.checkcast idx, 3)) (h : ckK σ r 22 = some u) (kk : GW Δ Γ kc ks (pc + 3) L (va_rf r :: st) σ) : GW Δ Γ kc ks pc L (va_rf r :: st) σ := fun φ H locs ls hp hst hL hl => by
  obtain ⟨a, rfl, hk, ha⟩ := ckK_s h
  have e := ws_at (aC := Δ.2.1) (φ := φ) ha
  rw [entA hk (by decide)] at e
  exact va_castA B.1 B.2.1 B.2.2.2.1 (B.2.2.2.2.1 _ hl0) hp.1 a (cA := Δ.2.1 2) (x := (hZ σ a, .inl (hI σ a))) e (va_nm_byte (B.2.2.2.2.2.1.2 2 (Δ.2.1 2, .byte) rfl).2) d (kk φ H locs ls hp hst hL hl)
theorem g_acmpE (B : Bd Δ Γ own cc nL fr lo Kc Ks) {rx ry : Option Nat} {off : Int} {u : Unit} (tgt : Nat) (d : decode cc pc = .ok (.if_acmp .eq off, 3)) (ht : (pc : Int) + off = (tgt : Int)) (h : sameR rx ry = some u) (kk : GW Δ Γ kc ks tgt L st σ) : GW Δ Γ kc ks pc L (va_rf ry :: va_rf rx :: st) σ := fun φ H locs ls hp hst hL hl => by
  have e := sameR_s h
  subst e
  show W _ _ _ _ _ _ _ _ _ _ _ _ _ _ _ (F0 _ pc ls (en φ (va_rf rx) :: en φ (va_rf rx) :: _))
  rw [en_rf]
  exact lv_acmp_eq B.1 B.2.1 d ht (fun _ => kk φ H locs ls hp hst.t.t hL hl) (fun h => absurd rfl h)
theorem g_acmpN (B : Bd Δ Γ own cc nL fr lo Kc Ks) {rx ry : Option Nat} {off : Int} {u : Unit} (tgt : Nat) (d : decode cc pc = .ok (.if_acmp .ne off, 3)) (ht : (pc : Int) + off = (tgt : Int)) (h : diffR σ rx ry = some u) (kk : GW Δ Γ kc ks tgt L st σ) : GW Δ Γ kc ks pc L (va_rf ry :: va_rf rx :: st) σ := fun φ H locs ls hp hst hL hl => by
  obtain ⟨a, b, rfl, rfl, ha, hb, hab⟩ := diffR_s h
  exact lv_acmp_ne (rx := some (φ a)) (ry := some (φ b)) B.1 B.2.1 d ht (fun _ => kk φ H locs ls hp hst.t.t hL hl) (fun h => absurd (hp.2.1.1 a b _ _ (ws_at (aC := Δ.2.1) (φ := φ) ha) (ws_at (aC := Δ.2.1) (φ := φ) hb) (Option.some.inj h)) hab)
theorem nw_of (B : Bd Δ Γ own cc nL fr lo Kc Ks) {w : Cond} (h : w ∈ ALLn) : va_Nw w Γ.2.2.2.2.1 := B.2.2.2.2.2.2.2.1.2.2.2.2.2.2.2.2.2.2.1 _ h
theorem g_getNI (B : Bd Δ Γ own cc nL fr lo Kc Ks) {r : Option Nat} {v : Int32} {ty : FieldType} {fin : Bool} (f : FlN own idx κ k ty fin) (ht : fT κ k = 0 ∧ κ < 15) (d : decode cc pc = .ok (.getfield idx, 3)) (h : gI σ r κ k = some v) (kk : GW Δ Γ kc ks (pc + 3) L (.int v :: st) σ) : GW Δ Γ kc ks pc L (va_rf r :: st) σ := fun φ H locs ls hp hst hL hl => by
  obtain ⟨a, rfl, hk, rfl⟩ := gI_s h
  obtain ⟨C, T, N, ty0, host, f1, f2, f3, f4, f5, -⟩ := f
  have ha := at_lt hp hk ht.2
  have e := ws_at (aC := Δ.2.1) (φ := φ) ha
  rw [entC hk (by omega)] at e
  exact va_getN B.1 B.2.1 B.2.2.2.2.1 f4 B.2.2.2.1 B.2.2.2.2.2.1 hp.1 a e f1 k f2 (va_Nw.use rfl (nw_of B f5)) (fun _ q => q) (v := .int (hI σ a k)) (by rw [fl_at (by omega)]; unfold fv; rw [if_pos ht.1]) d (kk φ H locs ls hp (SC.c (v := .int _) True.intro hst.t) hL hl)
theorem g_getNR (B : Bd Δ Γ own cc nL fr lo Kc Ks) {r v : Option Nat} {ty : FieldType} {fin : Bool} (f : FlN own idx κ k ty fin) (ht : fT κ k = 2 ∧ κ < 15) (d : decode cc pc = .ok (.getfield idx, 3)) (h : gR σ r κ k = some v) (kk : GW Δ Γ kc ks (pc + 3) L (va_rf v :: st) σ) : GW Δ Γ kc ks pc L (va_rf r :: st) σ := fun φ H locs ls hp hst hL hl => by
  obtain ⟨a, rfl, hk, rfl⟩ := gR_s h
  obtain ⟨C, T, N, ty0, host, f1, f2, f3, f4, f5, -⟩ := f
  have ha := at_lt hp hk ht.2
  have e := ws_at (aC := Δ.2.1) (φ := φ) ha
  rw [entC hk (by omega)] at e
  exact va_getN B.1 B.2.1 B.2.2.2.2.1 f4 B.2.2.2.1 B.2.2.2.2.2.1 hp.1 a e f1 k f2 (va_Nw.use rfl (nw_of B f5)) (fun _ q => q) (v := en φ (va_rf (hR σ a k))) (by rw [fl_at (by omega), en_rf]; unfold fv; rw [if_neg (by omega), if_neg (by omega)]) d (kk φ H locs ls hp (SC.c (CL_hR hp.2.2.2.2.1 ha) hst.t) hL hl)
theorem g_putNI (B : Bd Δ Γ own cc nL fr lo Kc Ks) {r : Option Nat} {x : Int32} {σ' : HpT} (f : FlN own idx κ k .int false) (ht : fT κ k = 0 ∧ κ < 16) (d : decode cc pc = .ok (.putfield idx, 3)) (h : pI σ r κ k x = some σ') (kk : GW Δ Γ kc ks (pc + 3) L st σ') : GW Δ Γ kc ks pc L (.int x :: va_rf r :: st) σ := fun φ H locs ls hp hst hL hl => by
  obtain ⟨a, rfl, hk, ha, rfl⟩ := pI_s h
  obtain ⟨C, T, N, ty0, host, f1, f2, f3, f4, f5, f6, f7, f8, f9, f10⟩ := f
  have e := ws_at (aC := Δ.2.1) (φ := φ) ha
  rw [entC hk (by omega)] at e
  refine va_putN B.1 B.2.1 B.2.2.2.2.1 f4 ty0 f6 f7 B.2.2.2.1 B.2.2.2.2.2.1 hp.1 hp.2.1 hp.2.2.1 a e f1 k f2 (va_Nw.use rfl (nw_of B f5)) (fun _ q => q) f9 f8 (hn := rfl) (hfit := rfl) (by rw [fl_len]; omega) d (fun H1 locs1 hP hD hS => ?_)
  exact kk φ H1 locs1 ls (Rp_set hp rfl rfl (fun j _ => ent_wI x ha j) ((entC (σ := wI σ a k x) (κ := κ) hk (by omega)).trans (congrArg (fun l => Sum.inr (κ, l)) (fl_wI x ha ht.1))) (WF_wI hp.2.2.2.2.1 x ha (fun q => by omega)) hP hD hS) (CL_n rfl hst.t.t) (LC_n rfl hL) hl
theorem g_putNZ (B : Bd Δ Γ own cc nL fr lo Kc Ks) {r : Option Nat} {x : Int32} {σ' : HpT} (f : FlN own idx κ k .boolean false) (ht : fT κ k = 0 ∧ κ < 16) (d : decode cc pc = .ok (.putfield idx, 3)) (h : pZ σ r κ k x = some σ') (kk : GW Δ Γ kc ks (pc + 3) L st σ') : GW Δ Γ kc ks pc L (.int x :: va_rf r :: st) σ := fun φ H locs ls hp hst hL hl => by
  obtain ⟨hx, h⟩ := pZ_s h
  obtain ⟨a, rfl, hk, ha, rfl⟩ := pI_s h
  obtain ⟨C, T, N, ty0, host, f1, f2, f3, f4, f5, f6, f7, f8, f9, f10⟩ := f
  have e := ws_at (aC := Δ.2.1) (φ := φ) ha
  rw [entC hk (by omega)] at e
  refine va_putN B.1 B.2.1 B.2.2.2.2.1 f4 ty0 f6 f7 B.2.2.2.1 B.2.2.2.2.2.1 hp.1 hp.2.1 hp.2.2.1 a e f1 k f2 (va_Nw.use rfl (nw_of B f5)) (fun _ q => q) f9 f8 (hn := by rcases hx with rfl | rfl <;> rfl) (hfit := by rcases hx with rfl | rfl <;> rfl) (by rw [fl_len]; omega) d (fun H1 locs1 hP hD hS => ?_)
  exact kk φ H1 locs1 ls (Rp_set hp rfl rfl (fun j _ => ent_wI x ha j) ((entC (σ := wI σ a k x) (κ := κ) hk (by omega)).trans (congrArg (fun l => Sum.inr (κ, l)) (fl_wI x ha ht.1))) (WF_wI hp.2.2.2.2.1 x ha (fun q => by omega)) hP hD hS) (CL_n rfl hst.t.t) (LC_n rfl hL) hl
theorem g_putNR (B : Bd Δ Γ own cc nL fr lo Kc Ks) {r x : Option Nat} {σ' : HpT} {ty : FieldType} (f : FlN own idx κ k ty false) (ht : fT κ k = 2 ∧ κ < 16) (hty : (∃ n, ty = .object n) ∨ ∃ t, ty = .array t) (d : decode cc pc = .ok (.putfield idx, 3)) (h : pR σ r κ k x = some σ') (kk : GW Δ Γ kc ks (pc + 3) L st σ') : GW Δ Γ kc ks pc L (va_rf x :: va_rf r :: st) σ := fun φ H locs ls hp hst hL hl => by
  obtain ⟨a, rfl, hk, ha, rfl⟩ := pR_s h
  obtain ⟨C, T, N, ty0, host, f1, f2, f3, f4, f5, f6, f7, f8, f9, f10⟩ := f
  have e := ws_at (aC := Δ.2.1) (φ := φ) ha
  rw [entC hk (by omega)] at e
  have hx := CL_rf hst.h
  show W _ _ _ _ _ _ _ _ _ _ _ _ _ _ _ (F0 _ pc ls (en φ (va_rf x) :: _))
  rw [en_rf]
  refine va_putN B.1 B.2.1 B.2.2.2.2.1 f4 ty0 f6 f7 B.2.2.2.1 B.2.2.2.2.2.1 hp.1 hp.2.1 hp.2.2.1 a e f1 k f2 (va_Nw.use rfl (nw_of B f5)) (fun _ q => q) f9 f8 (hn := nar_ref hty _) (hfit := fit_ref hty _) (by rw [fl_len]; omega) d (fun H1 locs1 hP hD hS => ?_)
  exact kk φ H1 locs1 ls (Rp_set hp rfl rfl (fun j _ => ent_wR x ha j) ((entC (σ := wR σ a k x) (κ := κ) hk (by omega)).trans (congrArg (fun l => Sum.inr (κ, l)) (fl_wR x ha ht.1))) (WF_wR hp.2.2.2.2.1 x ha hx) hP hD hS) (CL_n rfl hst.t.t) (LC_n rfl hL) hl
theorem g_getIS (B : Bd Δ Γ own cc nL fr lo Kc Ks) {r : Option Nat} {v : Int32} {ty : FieldType} (f : FlS own idx κ k ty) (ht : fT κ k = 0 ∧ κ < 15) (d : decode cc pc = .ok (.getfield idx, 3)) (h : gI σ r κ k = some v) (kk : GW Δ Γ kc ks (pc + 3) L (.int v :: st) σ) : GW Δ Γ kc ks pc L (va_rf r :: st) σ := fun φ H locs ls hp hst hL hl => by
  obtain ⟨a, rfl, hk, rfl⟩ := gI_s h
  obtain ⟨C, ref, T, N, ty0, f1, f2, f3, f4, f5, f55, -⟩ := f
  have ha := at_lt hp hk ht.2
  have e := ws_at (aC := Δ.2.1) (φ := φ) ha
  rw [entC hk (by omega)] at e
  exact va_get B.1 B.2.1 B.2.2.2.2.1 f4 B.2.2.2.1 B.2.2.2.2.2.1 hp.1 a e f1 k f2 (B.2.2.2.2.1 _ f5) (fun x q => u_same (B.2.2.2.2.1 _ f55) x q) (v := .int (hI σ a k)) (by rw [fl_at (by omega)]; unfold fv; rw [if_pos ht.1]) d (kk φ H locs ls hp (SC.c (v := .int _) True.intro hst.t) hL hl)
theorem g_putIS (B : Bd Δ Γ own cc nL fr lo Kc Ks) {r : Option Nat} {x : Int32} {σ' : HpT} (f : FlS own idx κ k .int) (ht : fT κ k = 0 ∧ κ < 16) (d : decode cc pc = .ok (.putfield idx, 3)) (h : pI σ r κ k x = some σ') (kk : GW Δ Γ kc ks (pc + 3) L st σ') : GW Δ Γ kc ks pc L (.int x :: va_rf r :: st) σ := fun φ H locs ls hp hst hL hl => by
  obtain ⟨a, rfl, hk, ha, rfl⟩ := pI_s h
  obtain ⟨C, ref, T, N, ty0, f1, f2, f3, f4, f5, f55, f6, f7, f8, f9, f10⟩ := f
  have e := ws_at (aC := Δ.2.1) (φ := φ) ha
  rw [entC hk (by omega)] at e
  refine va_put B.1 B.2.1 B.2.2.2.2.1 f4 ty0 f6 f7 B.2.2.2.1 B.2.2.2.2.2.1 hp.1 hp.2.1 hp.2.2.1 a e f1 k f2 (B.2.2.2.2.1 _ f5) (fun x q => u_same (B.2.2.2.2.1 _ f55) x q) f9 f8 (hn := rfl) (hfit := rfl) (by rw [fl_len]; omega) d (fun H1 locs1 hP hD hS => ?_)
  exact kk φ H1 locs1 ls (Rp_set hp rfl rfl (fun j _ => ent_wI x ha j) ((entC (σ := wI σ a k x) (κ := κ) hk (by omega)).trans (congrArg (fun l => Sum.inr (κ, l)) (fl_wI x ha ht.1))) (WF_wI hp.2.2.2.2.1 x ha (fun q => by omega)) hP hD hS) (CL_n rfl hst.t.t) (LC_n rfl hL) hl
theorem g_putBF (B : Bd Δ Γ own cc nL fr lo Kc Ks) {r : Option Nat} {x : Int32} {σ' : HpT} (f : Fl own idx κ k .byte true) (ht : fT κ k = 0 ∧ κ < 16) (hin : Γ.2.2.2.2.2.2.2.2.1.name = "<init>") (d : decode cc pc = .ok (.putfield idx, 3)) (h : pB σ r κ k x = some σ') (kk : GW Δ Γ kc ks (pc + 3) L st σ') : GW Δ Γ kc ks pc L (.int x :: va_rf r :: st) σ := fun φ H locs ls hp hst hL hl => by
  obtain ⟨hx, h⟩ := pB_s h
  obtain ⟨a, rfl, hk, ha, rfl⟩ := pI_s h
  obtain ⟨C, T, N, ty0, f1, f2, f3, f4, f5, f6, f7, f8, f9, f10, f11⟩ := f
  have e := ws_at (aC := Δ.2.1) (φ := φ) ha
  rw [entC hk (by omega)] at e
  refine va_putF B.1 B.2.1 B.2.2.2.2.1 f4 ty0 f6 f7 B.2.2.2.1 B.2.2.2.2.2.1 hp.1 hp.2.1 hp.2.2.1 a e f1 k f2 (B.2.2.2.2.1 _ f5) (fun _ q => q) f9 hin (f11 rfl) f8 (hn := by have := vp_nar_byte x; rw [hx] at this; exact nar_byte hx) (hfit := fit_byte hx) (by rw [fl_len]; omega) d (fun H1 locs1 hP hD hS => ?_)
  exact kk φ H1 locs1 ls (Rp_set hp rfl rfl (fun j _ => ent_wI x ha j) ((entC (σ := wI σ a k x) (κ := κ) hk (by omega)).trans (congrArg (fun l => Sum.inr (κ, l)) (fl_wI x ha ht.1))) (WF_wI hp.2.2.2.2.1 x ha (fun q => by omega)) hP hD hS) (CL_n rfl hst.t.t) (LC_n rfl hL) hl
theorem g_oast (B : Bd Δ Γ own cc nL fr lo Kc Ks) {r x : Option Nat} {i : Int32} {σ' : HpT} (hA : Cond.castable RX10 "java/lang/Object" ∈ ALLn) (hW : Cond.castable RX12 "java/lang/Object" ∈ ALLn) (d : decode cc pc = .ok (.aastore, 1)) (h : sO σ r i x = some σ') (kk : GW Δ Γ kc ks (pc + 1) L st σ') : GW Δ Γ kc ks pc L (va_rf x :: .int i :: va_rf r :: st) σ := fun φ H locs ls hp hst hL hl => by
  obtain ⟨a, b, rfl, rfl, hk, hi, ha, hk2, hb, rfl⟩ := sO_s h
  have e := ws_at (aC := Δ.2.1) (φ := φ) ha
  rw [entA hk (by decide)] at e
  have e2 := ws_at (aC := Δ.2.1) (φ := φ) hb
  have fin : ∀ (H1 : Heap) (locs1 : List Loc), va_P Δ.1 gcl ((wsOf Δ.2.1 φ σ).set a (φ a, .inl (Δ.2.1 4, hZ σ a, .inr (.inr (.inr (.inr (va_up (fun k => (hR σ a k).map φ) i.toNatClampNeg (some (φ b)))))))) ) H1 → va_D (AA Δ) ((wsOf Δ.2.1 φ σ).set a (φ a, .inl (Δ.2.1 4, hZ σ a, .inr (.inr (.inr (.inr (va_up (fun k => (hR σ a k).map φ) i.toNatClampNeg (some (φ b)))))))) ) → va_S (AA Δ) Γ.2.2.2.2.1.heap H1 locs1 → W Γ.1 Γ.2.1 Γ.2.2.1 Γ.2.2.2.1 Γ.2.2.2.2.1 Γ.2.2.2.2.2.1 Γ.2.2.2.2.2.2.1 Γ.2.2.2.2.2.2.2.1 Γ.2.2.2.2.2.2.2.2.1 Γ.2.2.2.2.2.2.2.2.2.1 H1 locs1 kc ks Γ.2.2.2.2.2.2.2.2.2.2 (F0 Γ.2.2.2.2.2.1 (pc + 1) ls (st.map (en φ))) := fun H1 locs1 hP hD hS =>
    kk φ H1 locs1 ls (Rp_set hp rfl rfl (fun j _ => ent_wR _ ha j) ((entA (σ := wR σ a i.toNatClampNeg (some b)) (κ := 24) hk (by decide)).trans (arr_wR (some b) ha (by decide))) (WF_wR hp.2.2.2.2.1 _ ha (fun j e => by cases e; exact Or.inl hb)) hP hD hS) (CL_n rfl hst.t.t.t) (LC_n rfl hL) hl
  rcases hk2 with hk2 | hk2
  · rw [entC hk2 (by decide)] at e2
    exact va_astqO B.1 B.2.1 B.2.2.2.2.2.1 hp.1 hp.2.1 hp.2.2.1 a 4 b 10 e (r := (RX10, TX10, 8)) rfl (nw_of B hA) e2 rfl hi d fin
  · rw [entC hk2 (by decide)] at e2
    exact va_astqO B.1 B.2.1 B.2.2.2.2.2.1 hp.1 hp.2.1 hp.2.2.1 a 4 b 14 e (r := (RX12, TX12, 4)) rfl (nw_of B hW) e2 rfl hi d fin
/-! statics -/
theorem ev2_of (B : Bd Δ Γ own cc nL fr lo Kc Ks) : Ev2 Δ Γ.2.2.2.2.1 Γ.2.2.2.2.1.heap := B.2.2.2.2.2.2.2.1.2.2.2.2.2.2.2.2.2.2.2
theorem g_gstK (B : Bd Δ Γ own cc nL fr lo Kc Ks) {C n ds : String} {z : Nat} (hz : BIG ≤ z) (hZ : va_Z C n ds (.ref (Δ.2.2.1 z)) (AA Δ) Γ.2.2.2.2.1 Γ.2.2.2.2.1.heap) (hl0 : Cond.fieldLink own idx C n ds ∈ ALLw) (d : decode cc pc = .ok (.getstatic idx, 3)) (kk : GW Δ Γ kc ks (pc + 3) L (va_rf (some z) :: st) σ) : GW Δ Γ kc ks pc L st σ := fun φ H locs ls hp hst hL hl => by
  have kk := kk φ H locs ls hp (SC.c (v := .ref z) (Or.inr hz) hst) hL hl
  have e : en φ (va_rf (some z)) = .ref (Δ.2.2.1 z) := congrArg Value.ref (hp.2.2.2.1 _ hz)
  rw [List.map_cons, e] at kk
  exact va_gets B.1 B.2.1 hZ hp.2.2.1 B.2.2.2.1 (B.2.2.2.2.1 _ hl0) (fun _ q => q) d kk
theorem g_gstN (B : Bd Δ Γ own cc nL fr lo Kc Ks) {C n ds : String} {v : Int32} (hZ : va_Z C n ds (.int v) (AA Δ) Γ.2.2.2.2.1 Γ.2.2.2.2.1.heap) (hl0 : Cond.fieldLink own idx C n ds ∈ ALLw) (d : decode cc pc = .ok (.getstatic idx, 3)) (kk : GW Δ Γ kc ks (pc + 3) L (.int v :: st) σ) : GW Δ Γ kc ks pc L st σ := fun φ H locs ls hp hst hL hl =>
  va_gets B.1 B.2.1 hZ hp.2.2.1 B.2.2.2.1 (B.2.2.2.2.1 _ hl0) (fun _ q => q) d (kk φ H locs ls hp (SC.c (v := .int v) True.intro hst) hL hl)
theorem g_gstE (B : Bd Δ Γ own cc nL fr lo Kc Ks) (hl0 : Cond.fieldLink own idx "java/util/ArrayList" "DEFAULTCAPACITY_EMPTY_ELEMENTDATA" "[Ljava/lang/Object;" ∈ ALLw) (d : decode cc pc = .ok (.getstatic idx, 3)) (kk : GW Δ Γ kc ks (pc + 3) L (va_rf (some (BIG + 203)) :: st) σ) : GW Δ Γ kc ks pc L st σ := g_gstK B (Nat.le_add_right _ _) (ev2_of B).2.1 hl0 d kk
theorem g_gstU (B : Bd Δ Γ own cc nL fr lo Kc Ks) (hl0 : Cond.fieldLink own idx "jdk/internal/util/ArraysSupport" "U" "Ljdk/internal/misc/Unsafe;" ∈ ALLw) (d : decode cc pc = .ok (.getstatic idx, 3)) (kk : GW Δ Γ kc ks (pc + 3) L (va_rf (some (BIG + 205)) :: st) σ) : GW Δ Γ kc ks pc L st σ := g_gstK B (Nat.le_add_right _ _) (ev2_of B).2.2.2.1 hl0 d kk
theorem g_gst16 (B : Bd Δ Γ own cc nL fr lo Kc Ks) (hl0 : Cond.fieldLink own idx "jdk/internal/misc/Unsafe" "ARRAY_LONG_BASE_OFFSET" "I" ∈ ALLw) (d : decode cc pc = .ok (.getstatic idx, 3)) (kk : GW Δ Γ kc ks (pc + 3) L (.int 16 :: st) σ) : GW Δ Γ kc ks pc L st σ := g_gstN B (ev2_of B).2.2.2.2.2.1 hl0 d kk
theorem g_gst3 (B : Bd Δ Γ own cc nL fr lo Kc Ks) (hl0 : Cond.fieldLink own idx "jdk/internal/util/ArraysSupport" "LOG2_ARRAY_LONG_INDEX_SCALE" "I" ∈ ALLw) (d : decode cc pc = .ok (.getstatic idx, 3)) (kk : GW Δ Γ kc ks (pc + 3) L (.int 3 :: st) σ) : GW Δ Γ kc ks pc L st σ := g_gstN B (ev2_of B).2.2.2.2.2.2.1 hl0 d kk
theorem g_gst2 (B : Bd Δ Γ own cc nL fr lo Kc Ks) (hl0 : Cond.fieldLink own idx "jdk/internal/util/ArraysSupport" "LOG2_ARRAY_INT_INDEX_SCALE" "I" ∈ ALLw) (d : decode cc pc = .ok (.getstatic idx, 3)) (kk : GW Δ Γ kc ks (pc + 3) L (.int 2 :: st) σ) : GW Δ Γ kc ks pc L st σ := g_gstN B (ev2_of B).2.2.2.2.2.2.2.1 hl0 d kk
/-! longs -/
theorem g_lmul (B : Bd Δ Γ own cc nL fr lo Kc Ks) {x y : Int64} (d : decode cc pc = .ok (.lmul, 1)) (k : GW Δ Γ kc ks (pc + 1) L (.long (x * y) :: st) σ) : GW Δ Γ kc ks pc L (.long y :: .long x :: st) σ := fun φ H locs ls hR hst hL hl => lv_lmul B.1 B.2.1 d (k φ H locs ls hR (SC.c (v := .long (x * y)) True.intro (hst.t.t)) hL hl)
theorem g_ldc2 (B : Bd Δ Γ own cc nL fr lo Kc Ks) {v : Int64} (hc : Jvm.Cond.constantLong own idx v ∈ ALLw) (d : decode cc pc = .ok (.ldc2_w idx, 3)) (k : GW Δ Γ kc ks (pc + 3) L (.long v :: st) σ) : GW Δ Γ kc ks pc L st σ := fun φ H locs ls hR hst hL hl => lv_ldc2 B.1 B.2.1 B.2.2.2.1 (B.2.2.2.2.1 _ hc) d (k φ H locs ls hR (SC.c (v := .long v) True.intro hst) hL hl)
/-! a new row of bytes with what it holds -/
theorem Rp.madeI {s : State} {φ : Nat → Nat} {H H1 : Heap} {locs : List Loc} {z p : Nat} {e : va_E} {f : Nat → Int32} (hp : Rp Δ s φ σ H locs) (hb : hN σ < BIG) (hκ : κ ≠ 99) (hf : κ = 22 → ∀ i, (f i).toInt8.toInt32 = f i) (hP : va_P Δ.1 gcl (wsOf Δ.2.1 φ σ ++ [(p, e)]) H1) (hD : va_D (AA Δ) (wsOf Δ.2.1 φ σ ++ [(p, e)])) (hS : va_S (AA Δ) s.heap H1 locs) (he : ent Δ.2.1 (va_up φ (hN σ) p) (wIr (wN σ κ z) (hN σ) f) (hN σ) = e) : Rp Δ s (va_up φ (hN σ) p) (wIr (wN σ κ z) (hN σ) f) H1 locs ∧ ∀ j, CLn σ j → va_up φ (hN σ) p j = φ j := by
  obtain ⟨h1, h2, h3, h4, h5, h6, h7⟩ := hp
  have hj : ∀ j, CLn σ j → va_up φ (hN σ) p j = φ j := fun j hj => va_up_ne _ _ (by rcases hj with q | q <;> omega)
  have hlt : hN σ < hN (wN σ κ z) := by rw [hN_wN]; omega
  have hw : wsOf Δ.2.1 φ σ ++ [(p, e)] = wsOf Δ.2.1 (va_up φ (hN σ) p) (wIr (wN σ κ z) (hN σ) f) := by
    refine ws_push (hN_wN σ κ z) (fun j hj2 => ⟨hj j (Or.inl hj2), ent_same ?_ ?_ (fun k => ?_) (fun k => ?_) (fun k => ?_) (fun k => ?_)⟩) (va_up_self _ _ _) he
    · rw [hK_wIr, hK_wN, if_neg (by omega)]
    · rw [hZ_wIr, hZ_wN, if_neg (by omega)]
    · rw [hI_wIr _ _ _ _ _ hlt, if_neg (by omega), hI_wN, if_neg (by omega)]
    · rw [hJ_wIr, hJ_wN, if_neg (by omega)]
    · rw [hR_wIr, hR_wN, if_neg (by omega)]
      cases e9 : hR σ j k with
      | none => rfl
      | some j9 => exact congrArg some (hj j9 (h5.2.1 j k j9 hj2 e9))
    · rfl
  rw [hw] at hP hD
  refine ⟨⟨hP, hD, hS, fun j hj9 => (hj j (Or.inr hj9)).trans (h4 j hj9), ⟨?_, fun i k j hi h => ?_, fun i k h => ?_⟩, fun j hj9 => ?_, by have := h7.1; rw [hN_wIr, hN_wN]; omega, h7.2⟩, hj⟩
  · rw [hN_wIr, hN_wN]; omega
  · rw [hR_wIr, hR_wN] at h
    split at h
    · cases h
    · have hi2 : i < hN σ := by rw [hN_wIr, hN_wN] at hi; omega
      rcases h5.2.1 i k j hi2 h with q | q
      · exact Or.inl (by rw [hN_wIr, hN_wN]; omega)
      · exact Or.inr q
  · rw [hI_wIr _ _ _ _ _ hlt]
    split
    · rename_i e9
      subst e9
      rw [hK_wIr, hK_wN, if_pos rfl] at h
      exact hf h k
    · rename_i hne
      rw [hI_wN, if_neg hne]
      rw [hK_wIr, hK_wN, if_neg hne] at h
      exact h5.2.2 i k h
  · have : CLn σ j := by
      rcases hj9 with q | q
      · exact Or.inl (Nat.lt_of_lt_of_le q h7.1)
      · exact Or.inr q
    exact (hj j this).trans (h6 j hj9)
def CLW (own : String) (idx : Nat) : Prop := Cond.methodLink own idx ⟨"[B", "clone", "()Ljava/lang/Object;"⟩ ∈ ALLw ∧ Cond.sameMethod "[B" "java/lang/Object" "clone" "()Ljava/lang/Object;" ∈ ALLw ∧ Cond.native ⟨"java/lang/Object", "clone", "()Ljava/lang/Object;"⟩ ∈ ALLw ∧ Cond.instanceMethod ⟨"java/lang/Object", "clone", "()Ljava/lang/Object;"⟩ ∈ ALLw ∧ Cond.selects "[B" ⟨"[B", "clone", "()Ljava/lang/Object;"⟩ ⟨"java/lang/Object", "clone", "()Ljava/lang/Object;"⟩ ∈ ALLw ∧ Cond.castable "[B" "java/lang/Cloneable" ∈ ALLn
theorem g_clone (B : Bd Δ Γ own cc nL fr lo Kc Ks) {r r0 : Option Nat} {k1c k1s : Nat} (hw : CLW own idx) (hR : 1 ≤ fr ∧ 22 ≤ lo) (h4 : st.length ≤ 4) (d : decode cc pc = .ok (.invokevirtual idx, 3)) (h : clB r σ = some (.ok r0, σ1, k1c, k1s)) (hc : kc + k1c ≤ Kc) (hs : ks + k1s ≤ Ks) (kk : GW Δ Γ (kc + k1c) (ks + k1s) (pc + 3) L (va_rf r0 :: st) σ1) : GW Δ Γ kc ks pc L (va_rf r :: st) σ := fun φ H locs ls hp hst hL hl => by
  cases r with
  | none => cases h
  | some a =>
    unfold clB at h
    dsimp only at h
    split at h
    · rename_i hh
      obtain ⟨hb, hk, ha⟩ := hh
      have h := Option.some.inj h
      cases h
      have hcat := cat_le φ st 4 h4
      have hts := B.2.2.2.2.1
      have e := ws_at (aC := Δ.2.1) (φ := φ) ha
      rw [entA hk (by decide)] at e
      have hby : ∀ i, (hI σ a i).toInt8.toInt32 = hI σ a i := fun i => hp.2.2.2.2.1.2.2 a i hk
      refine va_clone B.1 B.2.1 hl.1.symm B.2.2.2.1 (hts _ hw.1) (hts _ hw.2.1) (hts _ hw.2.2.1) (hts _ hw.2.2.2.1) (hts _ hw.2.2.2.2.1) (nw_of B hw.2.2.2.2.2) B.2.2.2.2.2.1 hp.1 hp.2.1 hp.2.2.1 (fun z hz => Nat.le_trans B.2.2.2.2.2.2.1 hz) a 2 (cA := Δ.2.1 2) (x := (hZ σ a, .inl (hI σ a))) (ty := .byte) e rfl (va_nm_byte (B.2.2.2.2.2.1.2 2 (Δ.2.1 2, .byte) rfl).2) (va_fit (fun i _ => fit_byte (hby i))) (by rw [B.2.2.2.2.2.2.2.2.1]; exact hR.1) (by rw [B.2.2.2.2.2.2.2.2.2.1]; omega) (by rw [B.2.2.2.2.2.2.2.2.2.2.1]; exact hc) (by rw [B.2.2.2.2.2.2.2.2.2.2.2.1]; exact hs) d (fun p H1 hK2 hP hD hS => ?_)
      have hlt : hN σ < hN (wN σ 22 (hZ σ a)) := by rw [hN_wN]; omega
      have he : ent Δ.2.1 (va_up φ (hN σ) p) (wIr (wN σ 22 (hZ σ a)) (hN σ) (hI σ a)) (hN σ) = .inl (Δ.2.1 2, hZ σ a, .inl (hI σ a)) := by
        rw [entA (κ := 22) (by rw [hK_wIr, hK_wN, if_pos rfl]) (by decide)]
        show Sum.inl (Δ.2.1 2, hZ (wIr (wN σ 22 (hZ σ a)) (hN σ) (hI σ a)) (hN σ), Sum.inl (hI (wIr (wN σ 22 (hZ σ a)) (hN σ) (hI σ a)) (hN σ))) = _
        rw [hZ_wIr, hZ_wN, if_pos rfl, show hI (wIr (wN σ 22 (hZ σ a)) (hN σ) (hI σ a)) (hN σ) = hI σ a from funext fun j => by rw [hI_wIr _ _ _ _ _ hlt, if_pos rfl]]
      obtain ⟨h8, h9⟩ := hp.madeI hb (by decide) (fun _ => hby) hP hD hS he
      have kk := kk (va_up φ (hN σ) p) H1 locs ls h8 (SC.c (v := .ref (hN σ)) (Or.inl hlt) (SC.up (κ := 22) (z := hZ σ a) hst.t)) (LC.up (κ := 22) (z := hZ σ a) hL) (by rw [← enL_map h9 L hL]; exact hl)
      rw [List.map_cons, ← en_map h9 st hst.t] at kk
      have e9 : en (va_up φ (hN σ) p) (va_rf (some (hN σ))) = .ref p := congrArg Value.ref (va_up_self _ _ _)
      rw [e9] at kk
      exact kk
    · cases h
end GZ
