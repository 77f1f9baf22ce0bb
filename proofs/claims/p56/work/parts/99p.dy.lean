/-! p56, pure: texts by hand, 7: an act being begun -/
/-- at a heap behind σ1: the act a with k words in the row wl, the builder t with L, clauses around: the row ar of dd -/
def Dy (σ1 : HpT) (a wl t tv0 lv : Nat) (σ : HpT) (k : Nat) (L : List Nat) (dd ar : Nat) : Prop :=
  ∃ we tv wf, ((hK σ a = 10 ∧ a < hN σ ∧ hR σ a 0 = some wl ∧ hI σ a 4 = 0) ∧ (hK σ lv = 20 ∧ lv < hN σ)) ∧ LsI σ wl we k wf ∧ (∀ i, i < k → WrI σ (wf i)) ∧ (hK σ ar = 20 ∧ hZ σ ar = dd ∧ ar < hN σ) ∧ SBI σ t tv L ∧ ((tv = tv0 ∨ hN σ1 ≤ tv) ∧ (we = BIG + 203 ∨ hN σ1 ≤ we)) ∧ FR σ1 σ (fun x => x = a ∨ x = wl ∨ x = t ∨ x = tv0 ∨ x = lv)
/-- y is not the builder's row -/
def NoT (σ : HpT) (t y : Nat) : Prop := ∀ tv, hR σ t 0 = some tv → y ≠ tv
/-- strings made stay strings -/
def KpS (σ σ' : HpT) (t : Nat) : Prop := ∀ x y L, STR σ x y L → x < hN σ → y < hN σ → NoT σ t y → STR σ' x y L ∧ NoT σ' t y
section P56P
variable {σ1 σ σ' σ2 : HpT} {S S' : Nat → Prop} {a b x y t tv tv0 l e n m k c d v w la lv ea R Q wl W dd ar ar2 : Nat} {L L2 : List Nat} {f g A wf cs : Nat → Nat}
theorem ls_e (h : LsI σ l e n f) (hB : hN σ ≤ BIG) (he : e < hN σ) : hK σ e = 24 := by
  rcases h.2.1 with u | u
  · omega
  · exact u.1
theorem dy_mv (h : Dy σ1 a wl t tv0 lv σ k L dd ar) (hB : hN σ ≤ BIG) (f : FR σ σ' S) (hS : ∀ x, S x → x = a ∨ x = lv ∨ hN σ ≤ x) (ha : hR σ' a 0 = some wl ∧ hI σ' a 4 = 0) : Dy σ1 a wl t tv0 lv σ' k L dd ar := by
  obtain ⟨we, tv, wf, ⟨⟨a1, a2, a3⟩, b1, b2⟩, hl, hw, ⟨r1, r2, r3⟩, hs, ht, fr⟩ := h
  have hn := f.1
  obtain ⟨c1, c2, c3⟩ := hl.1
  have st := hs.1.1
  have stn := hs.1.2.1
  have sv := hs.2.1.1
  have svn := hs.2.1.2.1
  have out : ∀ x, x < hN σ → hK σ x ≠ 10 → hK σ x ≠ 20 → ¬ S x := fun x hx h1 h2 q => by
    rcases hS x q with u | u | u
    · exact h1 (by rw [u]; exact a1)
    · exact h2 (by rw [u]; exact b1)
    · omega
  refine ⟨we, tv, wf, ⟨⟨(f.2 a a2).1.trans a1, by omega, ha⟩, (f.2 lv b2).1.trans b1, by omega⟩, li_fr hl f (out wl c2 (by omega) (by omega)) (fun hx => out we hx (by have := ls_e hl hB hx; omega) (by have := ls_e hl hB hx; omega)), fun i hi => wi_fr (hw i hi) f (out _ (hw i hi).2.1 (by have := (hw i hi).1; omega) (by have := (hw i hi).1; omega)), ⟨(f.2 ar r3).1.trans r1, (f.2 ar r3).2.1.trans r2, by omega⟩, sb_fr hs f (out t stn (by omega) (by omega)) (out tv svn (by omega) (by omega)), ht, fr_tr fr f (fun x hx q => ?_)⟩
  have hn1 := fr.1
  rcases hS x q with u | u | u
  · exact Or.inl u
  · exact Or.inr (Or.inr (Or.inr (Or.inr u)))
  · omega
theorem dy_ar (h : Dy σ1 a wl t tv0 lv σ k L dd ar) (h1 : hK σ ar2 = 20) (h2 : hZ σ ar2 = d) (h3 : ar2 < hN σ) : Dy σ1 a wl t tv0 lv σ k L d ar2 := by
  obtain ⟨we, tv, wf, q1, q2, q3, -, q4⟩ := h
  exact ⟨we, tv, wf, q1, q2, q3, ⟨h1, h2, h3⟩, q4⟩
theorem dy_sb (h : Dy σ1 a wl t tv0 lv σ k L dd ar) (hB : hN σ ≤ BIG) (q : ∀ tv, SBI σ t tv L → SBN σ σ' t tv L2) : Dy σ1 a wl t tv0 lv σ' k L2 dd ar ∧ hN σ' ≤ hN σ + 1 ∧ KpS σ σ' t := by
  obtain ⟨we, tv, wf, ⟨⟨a1, a2, a3⟩, b1, b2⟩, hl, hw, ⟨r1, r2, r3⟩, hs, ⟨ht, hwe⟩, fr⟩ := h
  obtain ⟨tv', s2, htv, hn2, f⟩ := q tv hs
  have hn := f.1
  have hn1 := fr.1
  obtain ⟨c1, c2, c3⟩ := hl.1
  have st := hs.1.1
  have stn := hs.1.2.1
  have sv := hs.2.1.1
  have svn := hs.2.1.2.1
  have out : ∀ x, x < hN σ → hK σ x ≠ 11 → hK σ x ≠ 22 → ¬ (x = t ∨ x = tv) := fun x hx h1 h2 q => by
    rcases q with u | u
    · exact h1 (by rw [u]; exact st)
    · exact h2 (by rw [u]; exact sv)
  have ha := (f.2 a a2).2.2 (out a a2 (by omega) (by omega))
  refine ⟨⟨we, tv', wf, ⟨⟨(f.2 a a2).1.trans a1, by omega, (ha 0).2.trans a3.1, (ha 4).1.trans a3.2⟩, (f.2 lv b2).1.trans b1, by omega⟩, li_fr hl f (out wl c2 (by omega) (by omega)) (fun hx => out we hx (by have := ls_e hl hB hx; omega) (by have := ls_e hl hB hx; omega)), fun i hi => wi_fr (hw i hi) f (out _ (hw i hi).2.1 (by have := (hw i hi).1; omega) (by have := (hw i hi).1; omega)), ⟨(f.2 ar r3).1.trans r1, (f.2 ar r3).2.1.trans r2, by omega⟩, s2, ⟨?_, hwe⟩, fr_tr fr f (fun x hx q => ?_)⟩, hn2, fun x y L' hs0 hx hy hT => ⟨st_fr hs0 f hx hy (out x hx (by have := hs0.1.1; omega) (by have := hs0.1.1; omega)) (fun u => ?_), fun tv2 e => ?_⟩⟩
  · rcases htv with u | u
    · rw [u]
      exact ht
    · exact Or.inr (by omega)
  · rcases q with u | u
    · exact Or.inr (Or.inr (Or.inl u))
    · rcases ht with y | y
      · exact Or.inr (Or.inr (Or.inr (Or.inl (u.trans y))))
      · omega
  · rcases u with u | u
    · have := hs0.2.1.1
      rw [u] at this
      omega
    · exact hT tv hs.1.2.2.1 u
  · rw [s2.1.2.2.1] at e
    cases e
    rcases htv with u | u
    · rw [u]
      exact hT tv hs.1.2.2.1
    · omega
theorem dy_chr (h : Dy σ1 a wl t tv0 lv σ k L dd ar) (hc : c < 128) (h3 : L.length + 1 ≤ 300) (hB : hN σ < BIG) : HOA (fJ4_append_cf468 (some t) (nI c) σ) σ (fun v σ' => v = some t ∧ Dy σ1 a wl t tv0 lv σ' k (L ++ [c]) dd ar ∧ hN σ' ≤ hN σ + 1 ∧ KpS σ σ' t) := by
  obtain ⟨we, tv, wf, q1, q2, q3, q4, hs, q5⟩ := id h
  refine hoa_w (sb_chr hs hc h3 hB) (fun v σ' hle q => ⟨q.1, dy_sb h (by omega) (fun tv2 hs2 => ?_)⟩)
  have e : tv2 = tv := by
    have e1 := hs.1.2.2.1
    rw [hs2.1.2.2.1] at e1
    exact Option.some.inj e1
  rw [e]
  exact q.2
theorem dy_str (h : Dy σ1 a wl t tv0 lv σ k L dd ar) (hs0 : STR σ x y L2) (hx : x < hN σ) (hy : y < hN σ) (hyt : ∀ tv, hR σ t 0 = some tv → y ≠ tv) (h3 : L.length + L2.length ≤ 300) (hB : hN σ + 2 < BIG) : HOA (fJ4_append_15ec4 (some t) (some x) σ) σ (fun v σ' => v = some t ∧ Dy σ1 a wl t tv0 lv σ' k (L ++ L2) dd ar ∧ hN σ' ≤ hN σ + 1 ∧ KpS σ σ' t) := by
  obtain ⟨we, tv, wf, q1, q2, q3, q4, hs, q5⟩ := id h
  have st := hs.1.1
  refine hoa_w (sb_str (x := x) (y := y) hs (fun σ' f _ => st_fr hs0 f hx hy (fun u => ?_) (fun u => ?_)) h3 (hyt tv hs.1.2.2.1) (Or.inl hy) hB) (fun v σ' hle q => ⟨q.1, dy_sb h (by omega) (fun tv2 hs2 => ?_)⟩)
  · have := hs0.1.1
    rw [u] at this
    omega
  · have := hs0.2.1.1
    rw [u] at this
    omega
  · have e : tv2 = tv := by
      have e1 := hs.1.2.2.1
      rw [hs2.1.2.2.1] at e1
      exact Option.some.inj e1
    rw [e]
    exact q.2
theorem dy_add (h : Dy σ1 a wl t tv0 lv σ k L dd ar) (hk : k < 6) (hw : WrI σ w) (hB : hN σ < BIG) : HOA (fJx4a65c_add_9ea2d (some wl) (some w) σ) σ (fun _ σ' => Dy σ1 a wl t tv0 lv σ' (k + 1) L dd ar ∧ hN σ' ≤ hN σ + 1 ∧ KpS σ σ' t) := by
  obtain ⟨we, tv, wf, ⟨⟨a1, a2, a3⟩, b1, b2⟩, hl, hwf, ⟨r1, r2, r3⟩, hs, ⟨ht, hwe⟩, fr⟩ := h
  refine hoa_w (li_add hl hk (Or.inr hw.1) hw.2.1 hB) (fun v σ' hle q => ?_)
  obtain ⟨we', hl2, he, hn2, f⟩ := q
  have hn := f.1
  have hn1 := fr.1
  obtain ⟨c1, c2, c3⟩ := hl.1
  have st := hs.1.1
  have stn := hs.1.2.1
  have sv := hs.2.1.1
  have svn := hs.2.1.2.1
  have out : ∀ x, x < hN σ → hK σ x ≠ 12 → hK σ x ≠ 24 → ¬ (x = wl ∨ x = we) := fun x hx h1 h2 q => by
    rcases q with u | u
    · exact h1 (by rw [u]; exact c1)
    · exact h2 (by rw [u]; exact ls_e hl (by omega) (by omega))
  have ha := (f.2 a a2).2.2 (out a a2 (by omega) (by omega))
  refine ⟨⟨we', tv, _, ⟨⟨(f.2 a a2).1.trans a1, by omega, (ha 0).2.trans a3.1, (ha 4).1.trans a3.2⟩, (f.2 lv b2).1.trans b1, by omega⟩, hl2, fun i hi => ?_, ⟨(f.2 ar r3).1.trans r1, (f.2 ar r3).2.1.trans r2, by omega⟩, sb_fr hs f (out t stn (by omega) (by omega)) (out tv svn (by omega) (by omega)), ⟨ht, ?_⟩, fr_tr fr f (fun x hx q => ?_)⟩, hn2, fun x y L' hs0 hx hy hT => ⟨st_fr hs0 f hx hy (out x hx (by have := hs0.1.1; omega) (by have := hs0.1.1; omega)) (out y hy (by have := hs0.2.1.1; omega) (by have := hs0.2.1.1; omega)), fun tv2 e => hT tv2 (by rw [← ((f.2 t stn).2.2 (out t stn (by omega) (by omega)) 0).2]; exact e)⟩⟩
  · by_cases q : i = k
    · rw [if_pos q]
      exact wi_fr hw f (out w hw.2.1 (by have := hw.1; omega) (by have := hw.1; omega))
    · rw [if_neg q]
      have hi2 := hwf i (by omega)
      exact wi_fr hi2 f (out _ hi2.2.1 (by have := hi2.1; omega) (by have := hi2.1; omega))
  · rcases he with u | u
    · rw [u]
      exact hwe
    · exact Or.inr (by omega)
  · rcases q with u | u
    · exact Or.inr (Or.inl u)
    · rcases hwe with y | y
      · omega
      · omega
end P56P
