/-! p56, pure: texts by hand, 8: an act is begun -/
def wdsL : List Nat := [100, 101, 101, 100, 108, 97, 110, 100, 115, 117, 109, 115, 104, 101, 105, 114]
def itOp (u dd : Nat) : Bool := decide (u % 4 = 0 ∧ dd < 4)
def itD1 (u dd : Nat) : Nat := if itOp u dd = true then dd + 1 else dd
def itCl (u dd : Nat) : Bool := decide (u / 16 = 1 ∧ 0 < itD1 u dd)
def itD2 (u dd : Nat) : Nat := if itCl u dd = true then itD1 u dd - 1 else itD1 u dd
def wdB (u : Nat) : List Nat := (wdsL.drop (4 * (u / 4 % 4))).take (2 + u / 4 % 2)
def itO (u dd : Nat) : List Nat := if itOp u dd = true then [40] else []
def itC (u dd : Nat) : List Nat := if itCl u dd = true then [41] else []
def itL (u dd : Nat) : List Nat := itO u dd ++ ([32] ++ wdB u) ++ itC u dd
def bdD (us : Nat → Nat) : Nat → Nat
  | 0 => 0
  | k + 1 => itD2 (us k) (bdD us k)
def bdL (us : Nat → Nat) : Nat → List Nat
  | 0 => []
  | k + 1 => bdL us k ++ itL (us k) (bdD us k)
theorem u_f : ∀ u, u < 32 → (nI u &&& 3 = 0 ↔ u % 4 = 0) ∧ (Int32.toUInt32 (nI u) >>> (Int32.toUInt32 2 &&& Int32.toUInt32 31)).toInt32 &&& 3 = nI (u / 4 % 4) ∧ (Int32.toUInt32 (nI u) >>> (Int32.toUInt32 2 &&& Int32.toUInt32 31)).toInt32 &&& 1 = nI (u / 4 % 2) ∧ (nI u &&& 16 = 0 ↔ ¬ u / 16 = 1) := by decide +kernel
theorem wd_ok : ∀ u, u < 32 → (wdB u).length = 2 + u / 4 % 2 ∧ (∀ b ∈ wdB u, b < 128) ∧ ∀ k, k < 2 + u / 4 % 2 → (byS 36).getD (4 * (u / 4 % 4) + k) 0 = nI ((wdB u).getD k 0) := by decide +kernel
theorem it_d1 {u dd : Nat} (h : dd ≤ 4) : itD1 u dd ≤ 4 := by
  unfold itD1
  split
  · rename_i h1
    have := of_decide_eq_true h1
    omega
  · exact h
theorem it_d2 {u dd : Nat} (h : dd ≤ 4) : itD2 u dd ≤ 4 := by
  have := it_d1 (u := u) h
  unfold itD2
  split <;> omega
theorem bd_4 {us : Nat → Nat} : ∀ k, bdD us k ≤ 4
  | 0 => Nat.zero_le _
  | k + 1 => it_d2 (bd_4 k)
theorem it_len {u dd : Nat} (hu : u < 32) : (itL u dd).length ≤ 6 ∧ (itO u dd).length ≤ 1 ∧ (itC u dd).length ≤ 1 ∧ (wdB u).length ≤ 3 := by
  have hw := (wd_ok u hu).1
  have h2 := Nat.mod_lt (u / 4) (show 0 < 2 by decide)
  have ho : (itO u dd).length ≤ 1 := by
    unfold itO
    split <;> decide
  have hc : (itC u dd).length ≤ 1 := by
    unfold itC
    split <;> decide
  refine ⟨?_, ho, hc, by omega⟩
  unfold itL
  rw [List.length_append, List.length_append, List.length_append]
  have : [32].length = 1 := rfl
  omega
theorem bd_len {us : Nat → Nat} (hu : ∀ k, us k < 32) : ∀ k, (bdL us k).length ≤ 6 * k
  | 0 => Nat.le_refl _
  | k + 1 => by
    show (bdL us k ++ itL (us k) (bdD us k)).length ≤ _
    rw [List.length_append]
    have h1 := bd_len hu k
    have h2 := (it_len (dd := bdD us k) (hu k)).1
    omega
/-- what stood ahead of the act -/
def Wo (σ1 : HpT) (d la lv ea R Q m : Nat) (A cs : Nat → Nat) (a wl t tv0 : Nat) : Prop := DsI σ1 d la lv R Q ∧ LsI σ1 la ea (m + 1) A ∧ A m = a ∧ (∀ j, j < m → ∃ wlj, AcI σ1 (A j) wlj (cs j) ∧ A j ≠ a ∧ wlj ≠ wl ∧ wlj ≠ la) ∧ la ≠ wl ∧ (hK σ1 a = 10 ∧ hK σ1 wl = 12 ∧ hK σ1 t = 11 ∧ hK σ1 tv0 = 22) ∧ m ≤ 1
section P56Q
variable {σ1 σ σ' σ2 : HpT} {S S' : Nat → Prop} {a b x y t tv tv0 l e n m k c d v w la lv ea R Q wl W dd ar ar2 u : Nat} {L L2 : List Nat} {f g A wf cs us : Nat → Nat}
theorem dy_dsk (H : Wo σ1 d la lv ea R Q m A cs a wl t tv0) (h : Dy σ1 a wl t tv0 lv σ k L dd ar) : DsI σ d la lv R Q ∧ LsI σ la ea (m + 1) A ∧ ∀ j, j < m + 1 → ∃ wlj, AcI σ (A j) wlj (if j = m then k else cs j) ∧ wlj ≠ la := by
  obtain ⟨h1, h2, h3, h4, h5, ⟨k1, k2, k3, k4⟩, hm⟩ := H
  obtain ⟨we, tv, wf, ⟨⟨a1, a2, a3⟩, b1, b2⟩, hl, hwf, ⟨r1, r2, r3⟩, hs, ⟨ht, hwe⟩, fr⟩ := h
  have d13 := h1.1.1
  have l20 := h1.2.2.1
  have la12 := h2.1.1
  have D := ds_fr h1 fr (fun q => by
    rcases q with q | q | q | q | q <;> (rw [q] at d13; omega))
  have ea24 : hK σ1 ea = 24 := by
    rcases h2.2.1 with q | q
    · omega
    · exact q.1
  have LL := li_fr h2 fr (fun q => by
    rcases q with q | q | q | q | q
    · rw [q] at la12; omega
    · exact h5 q
    · rw [q] at la12; omega
    · rw [q] at la12; omega
    · rw [q] at la12; omega) (fun _ q => by
    rcases q with q | q | q | q | q <;> (rw [q] at ea24; omega))
  have am : AcI σ a wl k := ⟨a1, a2, a3.1, hl.1.1, hl.1.2.1, hl.1.2.2.2, hl.2.2.1⟩
  refine ⟨D, LL, fun j hj => ?_⟩
  by_cases q : j = m
  · rw [q, h3, if_pos rfl]
    exact ⟨wl, am, fun q => h5 q.symm⟩
  · obtain ⟨wlj, x1, x2, x3, x4⟩ := h4 j (by omega)
    rw [if_neg q]
    have x10 := x1.1
    have x12 := x1.2.2.2.1
    refine ⟨wlj, ac_fr x1 fr (fun q => ?_) (fun q => ?_), x4⟩
    · rcases q with q | q | q | q | q
      · exact x2 q
      · rw [q] at x10; omega
      · rw [q] at x10; omega
      · rw [q] at x10; omega
      · rw [q] at x10; omega
    · rcases q with q | q | q | q | q
      · rw [q] at x12; omega
      · exact x3 q
      · rw [q] at x12; omega
      · rw [q] at x12; omega
      · rw [q] at x12; omega
theorem dy_words (H : Wo σ1 d la lv ea R Q m A cs a wl t tv0) (h : Dy σ1 a wl t tv0 lv σ k L dd ar) : DsI σ d la lv R Q ∧ ∃ W, fX11_words (some d) σ = some (nI W) ∧ k ≤ W ∧ W ≤ k + 6 := by
  obtain ⟨D, LL, hc⟩ := dy_dsk H h
  obtain ⟨h1, h2, h3, h4, h5, ⟨k1, k2, k3, k4⟩, hm⟩ := H
  refine ⟨D, _, ds_words (cs := fun j => if j = m then k else cs j) D LL (fun j hj => ?_), ?_, ?_⟩
  · obtain ⟨wlj, x, -⟩ := hc j hj
    exact ⟨wlj, x⟩
  · show k ≤ sumN (fun j => if j = m then k else cs j) m + (if m = m then k else cs m)
    rw [if_pos rfl]
    omega
  · show sumN (fun j => if j = m then k else cs j) m + (if m = m then k else cs m) ≤ _
    rw [if_pos rfl]
    have hm2 : m = 0 ∨ m = 1 := by omega
    rcases hm2 with rfl | rfl
    · show 0 + k ≤ _
      omega
    · show 0 + (if 0 = 1 then k else cs 0) + k ≤ _
      rw [if_neg (by decide)]
      obtain ⟨wlj, x1, -⟩ := h4 0 (by decide)
      have := x1.2.2.2.2.2.2
      omega
/-- a clause is opened -/
theorem bg_op (h : Dy σ1 a wl t tv0 lv σ k L dd ar) (hdd : dd ≤ 4) (hu : u < 32) (hL : L.length ≤ 200) (hB : hN σ + 10 < BIG) : HOA (if (nI u &&& 3) = 0 then bnP (aL σ (some ar) 20) (fun x65 => (if 4 ≤ x65 then some (.ok (some ar), σ, 0, 0) else bnP (aL σ (some ar) 20) (fun x67 => bnO (fJ7_copyOf_59c91 (some ar) (x67 + 1) σ) (fun x69 s71 => bnP (aL s71 x69 20) (fun x76 => bnP (gI s71 (some a) 10 6) (fun x78 => bnP (pI s71 (some a) 10 6 (x78 + 1)) (fun s82 => bnP (sI s82 x69 (x76 - 1) x78) (fun s85 => bnO (fJ4_append_cf468 (some t) 40 s85) (fun x86 s88 => some (.ok x69, s88, 0, 0)))))))))) else some (.ok (some ar), σ, 0, 0)) σ (fun v σ' => ∃ ar', v = some ar' ∧ Dy σ1 a wl t tv0 lv σ' k (L ++ itO u dd) (itD1 u dd) ar' ∧ hN σ' ≤ hN σ + 2) := by
  obtain ⟨we, tv, wf, ⟨⟨a1, a2, a3⟩, b1, b2⟩, hl, hwf, ⟨r1, r2, r3⟩, hs, ⟨ht, hwe⟩, fr⟩ := id h
  have no : itOp u dd = false → itO u dd = [] ∧ itD1 u dd = dd := fun e => by
    unfold itO itD1
    rw [e]
    exact ⟨rfl, rfl⟩
  have same : itOp u dd = false → HOA (some (.ok (some ar), σ, 0, 0)) σ (fun v σ' => ∃ ar', v = some ar' ∧ Dy σ1 a wl t tv0 lv σ' k (L ++ itO u dd) (itD1 u dd) ar' ∧ hN σ' ≤ hN σ + 2) := fun e => by
    obtain ⟨e1, e2⟩ := no e
    rw [e1, e2, List.append_nil]
    exact hoa_ret ⟨ar, rfl, h, by omega⟩
  have el : aL σ (some ar) 20 = some (nI dd) := by rw [aL_S r1, r2]
  by_cases y : u % 4 = 0
  · rw [if_pos ((u_f u hu).1.mpr y), el, bnP_1]
    by_cases z : 4 ≤ dd
    · rw [if_pos (show (4 : Int32) ≤ nI dd from nI_le (a := 4) z (by omega))]
      exact same (decide_eq_false (by omega))
    · rw [if_neg (show ¬ (4 : Int32) ≤ nI dd from nI_ge (b := 4) (by omega) (by decide)), bnP_1, nI_a1]
      have eop : itOp u dd = true := decide_eq_true ⟨y, by omega⟩
      refine hoa_O (cp_ints r1 r3 r2 (m := dd + 1) (by omega) (by omega) (by omega) (by omega)) (fun v s71 hle q => ?_)
      obtain ⟨rfl, c1, c2, c3, c4⟩ := q
      have ka : hK s71 a = 10 := (c4.2 a a2).1.trans a1
      have an : a < hN s71 := by omega
      have nn : hN σ < hN s71 := by omega
      have f1 := fr_wI an 6 (hI s71 a 6 + 1)
      have nn2 : hN σ < hN (wI s71 a 6 (hI s71 a 6 + 1)) := by rw [hN_wI]; exact nn
      have f2 := fr_wI nn2 dd (hI s71 a 6)
      have es : sI (wI s71 a 6 (hI s71 a 6 + 1)) (some (hN σ)) (nI dd) (hI s71 a 6) = some (wI (wI s71 a 6 (hI s71 a 6 + 1)) (hN σ) dd (hI s71 a 6)) := by
        unfold sI
        dsimp only
        rw [if_pos ⟨⟨by rw [hK_wI]; exact c1, by rw [hZ_wI, c2]; exact inb_nI (by omega) (by omega)⟩, nn2⟩, nI_clamp (by omega)]
      rw [aL_S c1, bnP_1, c2, gI_S ka, bnP_1, pI_S ka an, bnP_1, nI_pred, es, bnP_1]
      have F : FR σ (wI (wI s71 a 6 (hI s71 a 6 + 1)) (hN σ) dd (hI s71 a 6)) (fun x => x = a) := fr_tr (fr_tr (fr_m c4 (fun _ _ q => q.elim)) f1 (fun _ _ q => q)) f2 (fun x hx q => by omega)
      have h2 := dy_mv h (by omega) F (fun x q => Or.inl q) ⟨by rw [hR_wI, hR_wI, ((c4.2 a a2).2.2 (fun q => q) 0).2]; exact a3.1, by rw [hI_wI _ _ _ _ _ _ nn2, if_neg (fun q => by omega), hI_wI _ _ _ _ _ _ an, if_neg (fun q => by cases q.2), ((c4.2 a a2).2.2 (fun q => q) 4).1]; exact a3.2⟩
      have h3 := dy_ar h2 (ar2 := hN σ) (d := dd + 1) (by rw [hK_wI, hK_wI]; exact c1) (by rw [hZ_wI, hZ_wI]; exact c2) (by rw [hN_wI, hN_wI]; exact nn)
      have nS : hN (wI (wI s71 a 6 (hI s71 a 6 + 1)) (hN σ) dd (hI s71 a 6)) = hN s71 := rfl
      refine hoa_s (σ' := wI (wI s71 a 6 (hI s71 a 6 + 1)) (hN σ) dd (hI s71 a 6)) (hoa_O (dy_chr h3 (c := 40) (by decide) (by omega) (by omega)) (fun v2 s88 hle2 q => ?_)) rfl
      obtain ⟨-, q1, q2, -⟩ := q
      refine hoa_ret ⟨hN σ, rfl, ?_, by omega⟩
      unfold itO itD1
      rw [eop, if_pos rfl, if_pos rfl]
      exact q1
  · rw [if_neg (fun q => y ((u_f u hu).1.mp q))]
    exact same (decide_eq_false (fun q => y q.1))
/-- a clause is closed, if one is to be -/
theorem bg_cl (h : Dy σ1 a wl t tv0 lv σ k L dd ar) (hdd : dd ≤ 4) (hL : L.length ≤ 200) (hB : hN σ + 10 < BIG) {q9 : Int32} : HOA (bnP (aL σ (some ar) 20) (fun x191 => (if x191 ≤ 0 then some (.ok (.inl (some ar, q9)), σ, 0, 0) else bnP (aL σ (some ar) 20) (fun x193 => bnO (fJ7_copyOf_59c91 (some ar) (x193 - 1) σ) (fun x195 s197 => bnO (fJ4_append_cf468 (some t) 41 s197) (fun x202 s204 => some (.ok (.inl (x195, q9)), s204, 0, 0)))))) : AT ((Option Nat × Int32) ⊕ (Option Nat))) σ (fun v σ' => ∃ ar', v = .inl (some ar', q9) ∧ Dy σ1 a wl t tv0 lv σ' k (L ++ (if 0 < dd then [41] else [])) (dd - 1) ar' ∧ hN σ' ≤ hN σ + 2) := by
  obtain ⟨we, tv, wf, ⟨⟨a1, a2, a3⟩, b1, b2⟩, hl, hwf, ⟨r1, r2, r3⟩, hs, ⟨ht, hwe⟩, fr⟩ := id h
  have el : aL σ (some ar) 20 = some (nI dd) := by rw [aL_S r1, r2]
  rw [el, bnP_1]
  by_cases z : 0 < dd
  · rw [if_neg (nI_nle z (by omega)), bnP_1, nI_m1 z, if_pos z]
    refine hoa_O (cp_ints r1 r3 r2 (m := dd - 1) (by omega) (by omega) (by omega) (by omega)) (fun v s71 hle q => ?_)
    obtain ⟨rfl, c1, c2, c3, c4⟩ := q
    have h2 := dy_mv h (by omega) c4 (fun x q => q.elim) ⟨by rw [((c4.2 a a2).2.2 (fun q => q) 0).2]; exact a3.1, by rw [((c4.2 a a2).2.2 (fun q => q) 4).1]; exact a3.2⟩
    have h3 := dy_ar h2 (ar2 := hN σ) (d := dd - 1) c1 c2 (by omega)
    refine hoa_O (dy_chr h3 (c := 41) (by decide) (by omega) (by omega)) (fun v2 s88 hle2 q => ?_)
    obtain ⟨-, q1, q2, -⟩ := q
    exact hoa_ret ⟨hN σ, rfl, q1, by omega⟩
  · obtain rfl : dd = 0 := by omega
    rw [if_pos (show nI 0 ≤ 0 by decide), if_neg z, List.append_nil]
    exact hoa_ret ⟨ar, rfl, h, by omega⟩
end P56Q
