/-! p56, pure: texts by hand, 9: an act is begun, whole -/
def uX (v : Int32) (k : Nat) : Int32 := (Int32.toUInt32 v >>> (Int32.toUInt32 (2 + (5 * nI k)) &&& Int32.toUInt32 31)).toInt32 &&& 31
def uN (v : Int32) (k : Nat) : Nat := (uX v k).toNatClampNeg
theorem uN_e (v : Int32) (k : Nat) : uX v k = nI (uN v k) ∧ uN v k < 32 := by
  obtain ⟨j, hj, e⟩ := pk_andE ((Int32.toUInt32 v >>> (Int32.toUInt32 (2 + (5 * nI k)) &&& Int32.toUInt32 31)).toInt32) (m := 31) 5 (by decide)
  have e : uX v k = nI j := e
  have e2 : uN v k = j := by
    unfold uN
    rw [e, nI_clamp (by omega)]
  rw [e2]
  exact ⟨e, hj⟩
theorem hoa_loop {α β : Type} {f : α → HpT → AT (α ⊕ β)} {Q : β → HpT → Prop} (I : Nat → α → HpT → Prop) (n : Nat) (hs : ∀ k a σ, k < n → I k a σ → HOA (f a σ) σ (fun r σ' => ∃ a', r = .inl a' ∧ I (k + 1) a' σ')) (he : ∀ a σ, I n a σ → ∃ r, f a σ = some (.ok (.inr r), σ, 0, 0) ∧ Q r σ) : ∀ m k F a σ, k + m = n → m < F → I k a σ → HOA (lpA f F a σ) σ Q := by
  intro m
  induction m with
  | zero =>
    intro k F a σ hk hF h
    obtain rfl : k = n := by omega
    obtain ⟨F, rfl⟩ : ∃ F', F = F' + 1 := ⟨F - 1, by omega⟩
    obtain ⟨r, e, q⟩ := he a σ h
    rw [lpA_e F e]
    exact hoa_ret q
  | succ m ih =>
    intro k F a σ hk hF h
    obtain ⟨F, rfl⟩ : ∃ F', F = F' + 1 := ⟨F - 1, by omega⟩
    obtain ⟨r, σ1, i, j, e, h1, h2, a', rfl, h3⟩ := hs k a σ (by omega) h
    obtain ⟨r2, σ2, i2, j2, e2, h4, h5, q⟩ := ih (k + 1) F a' σ1 (by omega) (by omega) h3
    refine ⟨r2, σ2, i + i2, j + j2, ?_, by omega, by omega, q⟩
    rw [lpA_ok F e, e2]
    rfl
section P56R
variable {σ1 σ σ' σ2 : HpT} {S S' : Nat → Prop} {a b x y t tv tv0 l e n m k c d w la lv ea R Q wl W dd ar ar2 u : Nat} {L L2 : List Nat} {f g A wf cs us : Nat → Nat} {v : Int32}
theorem dy_noT (h : Dy σ1 a wl t tv0 lv σ k L dd ar) (f : FR σ σ' (fun _ => False)) (hy : hN σ ≤ y) : NoT σ' t y := by
  obtain ⟨we, tv, wf, q1, q2, q3, q4, hs, q5⟩ := h
  intro tv2 e
  have e2 := ((f.2 t hs.1.2.1).2.2 (fun q => q) 0).2
  rw [e, hs.1.2.2.1] at e2
  cases e2
  have := hs.2.1.2.1
  omega
theorem bg_step (H : Wo σ1 d la lv ea R Q m A cs a wl t tv0) (h : Dy σ1 a wl t tv0 lv σ k (bdL (uN v) k) (bdD (uN v) k) ar) (hk5 : k < 5) (hc : ¬ (2 + (v &&& 3)) ≤ nI k) (hB : hN σ + 40 < BIG) : HOA (fX11_begin_l1 (some d) v (some a) (some t) (some ar, nI k) σ) σ (fun r σ' => ∃ a', r = .inl a' ∧ ∃ ar', a' = (some ar', nI (k + 1)) ∧ Dy σ1 a wl t tv0 lv σ' (k + 1) (bdL (uN v) (k + 1)) (bdD (uN v) (k + 1)) ar' ∧ hN σ' ≤ hN σ + 20) := by
  obtain ⟨hu, hul⟩ := uN_e v k
  have hl := bd_len (us := uN v) (fun k => (uN_e v k).2) k
  have h4 := bd_4 (us := uN v) k
  show HOA (fX11_begin_l1 (some d) v (some a) (some t) (some ar, nI k) σ) σ (fun r σ' => ∃ a', r = .inl a' ∧ ∃ ar', a' = (some ar', nI (k + 1)) ∧ Dy σ1 a wl t tv0 lv σ' (k + 1) (bdL (uN v) k ++ itL (uN v k) (bdD (uN v) k)) (itD2 (uN v k) (bdD (uN v) k)) ar' ∧ hN σ' ≤ hN σ + 20)
  unfold uX at hu
  unfold fX11_begin_l1
  dsimp only
  rw [if_neg hc, hu]
  generalize uN v k = u at hu hul ⊢
  generalize bdL (uN v) k = L at h hl ⊢
  generalize bdD (uN v) k = dd at h h4 ⊢
  obtain ⟨i1, i2, i3, i4⟩ := it_len (dd := dd) hul
  have hd1 := it_d1 (u := u) h4
  obtain ⟨w1, w2, w3⟩ := wd_ok u hul
  have hw4 := Nat.mod_lt (u / 4) (show 0 < 4 by decide)
  have hw2 := Nat.mod_lt (u / 4) (show 0 < 2 by decide)
  refine hoa_A (bg_op h h4 hul (by omega) (by omega)) (fun j60 s93 hle93 q => ?_)
  obtain ⟨ar1, rfl, D1, n1⟩ := q
  have l1 : (L ++ itO u dd).length ≤ L.length + 1 := by rw [List.length_append]; omega
  rw [(u_f u hul).2.1, (u_f u hul).2.2.1, show (4 : Int32) * nI (u / 4 % 4) = nI (4 * (u / 4 % 4)) from pk_mul 4 _, show nI (4 * (u / 4 % 4)) + 2 = nI (4 * (u / 4 % 4) + 2) from nI_add _ 2, nI_add, Nat.add_assoc]
  have b16 : (byS 36).length = 16 := by decide
  refine hoa_O (sub_con (σ := s93) (j := 36) (i := 4 * (u / 4 % 4)) (m := 2 + u / 4 % 2) (L := wdB u) (by decide) (by omega) (by rw [b16]; omega) (by rw [b16]; omega) (by rw [b16]; decide) w3 w1 w2 (by omega)) (fun x98 s100 hle100 q => ?_)
  obtain ⟨rfl, st, f100, n100⟩ := q
  have D2 : Dy σ1 a wl t tv0 lv s100 k (L ++ itO u dd) (itD1 u dd) ar1 := by
    obtain ⟨we, tv, wf, ⟨⟨a1, a2, a3, a4⟩, -⟩, -⟩ := id D1
    exact dy_mv D1 (by omega) f100 (fun _ q => q.elim) ⟨by rw [((f100.2 a a2).2.2 (fun q => q) 0).2]; exact a3, by rw [((f100.2 a a2).2.2 (fun q => q) 4).1]; exact a4⟩
  have T2 : NoT s100 t (hN s93 + 1) := dy_noT D1 f100 (by omega)
  obtain ⟨we2, tv2, wf2, ⟨⟨a1, a2, a3, a4⟩, -⟩, hl2, -, -, hs2, -⟩ := id D2
  have r1 := hl2.1
  rw [gR_S a1 a3, bnP_1]
  refine hoa_A (hoa_nA (κ := 14) (by omega) (by decide)) (fun v107 s109 hle109 q => ?_)
  obtain ⟨rfl, rfl⟩ := q
  have kw : hK (wN s100 14 0) (hN s100) = 14 := by rw [hK_wN, if_pos rfl]
  have nw : hN s100 < hN (wN s100 14 0) := by rw [hN_wN]; omega
  have nw1 : hN s100 < hN (wR (wN s100 14 0) (hN s100) 3 (some (BIG + 39))) := by rw [hN_wR]; exact nw
  have nw2 : hN s100 < hN (wR (wR (wN s100 14 0) (hN s100) 3 (some (BIG + 39))) (hN s100) 0 (some (hN s93))) := by rw [hN_wR]; exact nw1
  generalize hS2 : wR (wR (wR (wN s100 14 0) (hN s100) 3 (some (BIG + 39))) (hN s100) 0 (some (hN s93))) (hN s100) 1 (some ar1) = S2
  have ei : fX12_init (some (hN s100)) (some (hN s93)) (some ar1) (wN s100 14 0) = some S2 := by
    unfold fX12_init
    rw [isK_S kw, bnP_1, pR_S kw nw, bnP_1, pR_S (show hK (wR (wN s100 14 0) (hN s100) 3 (some (BIG + 39))) (hN s100) = 14 from kw) nw1, bnP_1, pR_S (show hK (wR (wR (wN s100 14 0) (hN s100) 3 (some (BIG + 39))) (hN s100) 0 (some (hN s93))) (hN s100) = 14 from kw) nw2, bnP_1, hS2]
  have fS2 : FR s100 S2 (fun _ => False) := by
    rw [← hS2]
    exact fr_tr (fr_tr (fr_tr (fr_wN s100 14 0 _) (fr_wR nw 3 _) (fun x hx q => by omega)) (fr_wR nw1 0 _) (fun x hx q => by omega)) (fr_wR nw2 1 _) (fun x hx q => by omega)
  have nS2 : hN S2 = hN s100 + 1 := by rw [← hS2]; rfl
  have wS2 : WrI S2 (hN s100) := by
    refine ⟨by rw [← hS2]; exact kw, by omega, Or.inl ?_⟩
    rw [← hS2, hR_wR _ _ _ _ _ _ nw2, if_neg (fun q => by cases q.2), hR_wR _ _ _ _ _ _ nw1, if_neg (fun q => by cases q.2), hR_wR _ _ _ _ _ _ nw, if_pos ⟨rfl, rfl⟩]
  have D3 : Dy σ1 a wl t tv0 lv S2 k (L ++ itO u dd) (itD1 u dd) ar1 := dy_mv D2 (by omega) fS2 (fun _ q => q.elim) ⟨by rw [((fS2.2 a a2).2.2 (fun q => q) 0).2]; exact a3, by rw [((fS2.2 a a2).2.2 (fun q => q) 4).1]; exact a4⟩
  have st3 : STR S2 (hN s93) (hN s93 + 1) (wdB u) := st_fr st fS2 (by omega) (by omega) (fun q => q) (fun q => q)
  have T3 : NoT S2 t (hN s93 + 1) := fun tv3 e => by
    have e2 := ((fS2.2 t hs2.1.2.1).2.2 (fun q => q) 0).2
    rw [e] at e2
    exact T2 tv3 e2.symm
  rw [ei, bnP_1]
  refine hoa_s (σ' := S2) (hoa_O (dy_add D3 (by omega) wS2 (by omega)) (fun v117 s119 hle119 q => ?_)) (by rw [nS2, hN_wN])
  obtain ⟨D4, n4, kp4⟩ := q
  obtain ⟨st4, T4⟩ := kp4 _ _ _ st3 (by omega) (by omega) T3
  refine hoa_O (dy_chr D4 (c := 32) (by decide) (by omega) (by omega)) (fun v124 s126 hle126 q => ?_)
  obtain ⟨rfl, D5, n5, kp5⟩ := q
  obtain ⟨st5, T5⟩ := kp5 _ _ _ st4 (by omega) (by omega) T4
  have l5 : (L ++ itO u dd ++ [32]).length ≤ L.length + 2 := by rw [List.length_append]; have : [32].length = 1 := rfl; omega
  refine hoa_O (dy_str D5 st5 (by omega) (by omega) T5 (by omega) (by omega)) (fun v131 s133 hle133 q => ?_)
  obtain ⟨rfl, D6, n6, -⟩ := q
  obtain ⟨DS, W, eW, hW1, hW2⟩ := dy_words H D6
  have eg : gI s133 (some d) 13 0 = some (nI R) := by rw [gI_S DS.1.1, DS.1.2.2.2.2.1]
  have znz : nz (nI R) = some () := if_neg (nI_ne0 (by have := DS.2.1; omega) (by have := DS.2.1; omega))
  obtain ⟨S9, e9, f9, n9⟩ := ds_leaf DS eW (by omega) (by omega)
  rw [eg] at e9
  rw [eW, bnP_1, eg, bnP_1, znz, bnP_1, e9, bnS_1]
  obtain ⟨we6, tv6, wf6, ⟨⟨b1, b2, b3, b4⟩, b5, b6⟩, -⟩ := id D6
  have hal : a ≠ lv := fun q => by rw [q] at b1; omega
  have D7 : Dy σ1 a wl t tv0 lv S9 (k + 1) (L ++ itO u dd ++ [32] ++ wdB u) (itD1 u dd) ar1 := dy_mv D6 (by omega) f9 (fun x q => Or.inr (Or.inl q)) ⟨by rw [((f9.2 a b2).2.2 hal 0).2]; exact b3, by rw [((f9.2 a b2).2.2 hal 4).1]; exact b4⟩
  have l7 : (L ++ itO u dd ++ [32] ++ wdB u).length ≤ L.length + 5 := by rw [List.length_append]; omega
  refine hoa_s (σ' := S9) ?_ n9
  have eL : L ++ itL u dd = L ++ itO u dd ++ [32] ++ wdB u ++ itC u dd := by
    unfold itL
    simp only [List.append_assoc]
  rw [eL, nI_a1]
  by_cases y : u / 16 = 1
  · rw [if_neg (fun q => ((u_f u hul).2.2.2.mp q) y)]
    refine hoa_w (bg_cl D7 hd1 (by omega) (by omega)) (fun r s204 hle204 q => ?_)
    obtain ⟨ar', rfl, D8, n8⟩ := q
    refine ⟨_, rfl, ar', rfl, ?_, by omega⟩
    have e1 : itC u dd = if 0 < itD1 u dd then [41] else [] := by
      unfold itC itCl
      by_cases z : 0 < itD1 u dd
      · rw [if_pos (decide_eq_true ⟨y, z⟩), if_pos z]
      · rw [if_neg (fun q => z (of_decide_eq_true q).2), if_neg z]
    have e2 : itD2 u dd = itD1 u dd - 1 := by
      unfold itD2 itCl
      by_cases z : 0 < itD1 u dd
      · rw [if_pos (decide_eq_true ⟨y, z⟩)]
      · rw [if_neg (fun q => z (of_decide_eq_true q).2)]
        omega
    rw [e1, e2]
    exact D8
  · rw [if_pos ((u_f u hul).2.2.2.mpr y)]
    refine hoa_ret ⟨_, rfl, ar1, rfl, ?_, by omega⟩
    have e0 : itCl u dd = false := decide_eq_false (fun q => y q.1)
    unfold itC itD2
    rw [e0, if_neg (by decide), if_neg (by decide), List.append_nil]
    exact D7
end P56R
