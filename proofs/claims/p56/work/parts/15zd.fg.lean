/-! a final field of another class, read -/
def Fg (own : String) (idx κ k : Nat) : Prop := ∃ (C : String) (T : u_T) (N : Nat), gcl[κ]? = some (C, T, N) ∧ k < N ∧ N = nF κ ∧ (∀ w ∈ u_ws C T N, w ∈ ALLw) ∧ Cond.fieldLink own idx (T k).1 (T k).2.1 (T k).2.2.1 ∈ ALLw
section GFG
variable {Δ : AmbT} {Γ : CtxT} {own : String} {cc : ByteArray} {nL fr lo Kc Ks kc ks pc : Nat} {L : List (Nat × Value)} {st : List Value} {σ : HpT}
theorem g_getIg (B : Bd Δ Γ own cc nL fr lo Kc Ks) {r : Option Nat} {v : Int32} {idx κ k : Nat} (f : Fg own idx κ k) (ht : fT κ k = 0 ∧ κ < 15) (d : decode cc pc = .ok (.getfield idx, 3)) (h : gI σ r κ k = some v) (kk : GW Δ Γ kc ks (pc + 3) L (.int v :: st) σ) : GW Δ Γ kc ks pc L (va_rf r :: st) σ := fun φ H locs ls hp hst hL hl => by
  obtain ⟨a, rfl, hk, rfl⟩ := gI_s h
  obtain ⟨C, T, N, f1, f2, f3, f4, f5⟩ := f
  have ha := at_lt hp hk ht.2
  have e := ws_at (aC := Δ.2.1) (φ := φ) ha
  rw [entC hk (by omega)] at e
  exact va_get B.1 B.2.1 B.2.2.2.2.1 f4 B.2.2.2.1 B.2.2.2.2.2.1 hp.1 a e f1 k f2 (B.2.2.2.2.1 _ f5) (fun _ q => q) (v := .int (hI σ a k)) (by rw [fl_at (by omega)]; unfold fv; rw [if_pos ht.1]) d (kk φ H locs ls hp (SC.c (v := .int _) True.intro hst.t) hL hl)
theorem g_getJg (B : Bd Δ Γ own cc nL fr lo Kc Ks) {r : Option Nat} {v : Int64} {idx κ k : Nat} (f : Fg own idx κ k) (ht : fT κ k = 1 ∧ κ < 15) (d : decode cc pc = .ok (.getfield idx, 3)) (h : gJ σ r κ k = some v) (kk : GW Δ Γ kc ks (pc + 3) L (.long v :: st) σ) : GW Δ Γ kc ks pc L (va_rf r :: st) σ := fun φ H locs ls hp hst hL hl => by
  obtain ⟨a, rfl, hk, rfl⟩ := gJ_s h
  obtain ⟨C, T, N, f1, f2, f3, f4, f5⟩ := f
  have ha := at_lt hp hk ht.2
  have e := ws_at (aC := Δ.2.1) (φ := φ) ha
  rw [entC hk (by omega)] at e
  exact va_get B.1 B.2.1 B.2.2.2.2.1 f4 B.2.2.2.1 B.2.2.2.2.2.1 hp.1 a e f1 k f2 (B.2.2.2.2.1 _ f5) (fun _ q => q) (v := .long (hJ σ a k)) (by rw [fl_at (by omega)]; unfold fv; rw [if_neg (by omega), if_pos ht.1]) d (kk φ H locs ls hp (SC.c (v := .long _) True.intro hst.t) hL hl)
theorem g_getRg (B : Bd Δ Γ own cc nL fr lo Kc Ks) {r v : Option Nat} {idx κ k : Nat} (f : Fg own idx κ k) (ht : fT κ k = 2 ∧ κ < 15) (d : decode cc pc = .ok (.getfield idx, 3)) (h : gR σ r κ k = some v) (kk : GW Δ Γ kc ks (pc + 3) L (va_rf v :: st) σ) : GW Δ Γ kc ks pc L (va_rf r :: st) σ := fun φ H locs ls hp hst hL hl => by
  obtain ⟨a, rfl, hk, rfl⟩ := gR_s h
  obtain ⟨C, T, N, f1, f2, f3, f4, f5⟩ := f
  have ha := at_lt hp hk ht.2
  have e := ws_at (aC := Δ.2.1) (φ := φ) ha
  rw [entC hk (by omega)] at e
  exact va_get B.1 B.2.1 B.2.2.2.2.1 f4 B.2.2.2.1 B.2.2.2.2.2.1 hp.1 a e f1 k f2 (B.2.2.2.2.1 _ f5) (fun _ q => q) (v := en φ (va_rf (hR σ a k))) (by rw [fl_at (by omega), en_rf]; unfold fv; rw [if_neg (by omega), if_neg (by omega)]) d (kk φ H locs ls hp (SC.c (CL_hR hp.2.2.2.2.1 ha) hst.t) hL hl)
end GFG
