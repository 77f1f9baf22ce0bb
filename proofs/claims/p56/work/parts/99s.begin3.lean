/-! p56, pure: texts by hand, 10: an act is begun, from the desk -/
def Dsk (σ : HpT) (d la lv ea R Q n : Nat) (A cs : Nat → Nat) : Prop := DsI σ d la lv R Q ∧ LsI σ la ea n A ∧ ∀ j, j < n → ∃ wlj, AcI σ (A j) wlj (cs j) ∧ wlj ≠ la
def ActI (σ : HpT) (a wl c : Nat) (L : List Nat) (lo : Nat) : Prop := ∃ we wf s y, (hK σ a = 10 ∧ a < hN σ ∧ hR σ a 0 = some wl ∧ hI σ a 4 = 0 ∧ hR σ a 7 = some s) ∧ LsI σ wl we c wf ∧ (∀ i, i < c → WrI σ (wf i)) ∧ STR σ s y L ∧ s < hN σ ∧ y < hN σ ∧ lo ≤ y
section P56S
variable {σ1 σ σ' σ2 : HpT} {S S' : Nat → Prop} {a b x y t tv tv0 l e n m k c d w la lv ea R Q wl W dd ar ar2 u : Nat} {L L2 : List Nat} {f g A wf cs us : Nat → Nat} {v : Int32}
theorem hoa_c {α : Type} {o : AT α} {P : α → HpT → Prop} {i j : Nat} (h : HOA o σ' P) (hi : hN σ + i = hN σ') (hj : j ≤ 700 * i) : HOA (addC i j o) σ P := by
  obtain ⟨r, σ2, i2, j2, e, h1, h2, q⟩ := h
  refine ⟨r, σ2, i + i2, j + j2, by rw [e]; rfl, by omega, by omega, q⟩
theorem ds_begin (h : Dsk σ d la lv ea R Q m A cs) (hm : m ≤ 1) (hB : hN σ + 400 < BIG) {c3 : Nat} (hv : v &&& 3 = nI c3) (hc3 : c3 < 4) (kd : Int32) : HOA (fX11_begin (some d) kd v σ) σ (fun r σ' => ∃ a wl ea', r = some a ∧ hN σ ≤ a ∧ hN σ ≤ wl ∧ Dsk σ' d la lv ea' R Q (m + 1) (fun k => if k = m then a else A k) (fun j => if j = m then 2 + c3 else cs j) ∧ ActI σ' a wl (2 + c3) (bdL (uN v) (2 + c3) ++ List.replicate (bdD (uN v) (2 + c3)) 41) (hN σ) ∧ (ea' = ea ∨ hN σ ≤ ea') ∧ FR σ σ' (fun x => x = la ∨ x = ea ∨ x = lv) ∧ hN σ' ≤ hN σ + 200 ∧ hN σ + 5 ≤ hN σ') := by
  obtain ⟨h1, h2, h3⟩ := h
  have d13 := h1.1.1
  have dn := h1.1.2.1
  have e2c : (2 : Int32) + (v &&& 3) = nI (2 + c3) := by rw [hv]; exact nI_add 2 c3
  unfold fX11_begin fX10_init fJx4a65c_init_da8c8 fJxc12de_init_da8c8 fJxa1e45_init_da8c8
  rw [isK_S d13, bnP_1, nwA_1 (by omega), bnA_ok]
  refine hoa_c (σ' := wN σ 10 0) ?_ rfl (by decide)
  have ka1 : hK (wN σ 10 0) (hN σ) = 10 := by rw [hK_wN, if_pos rfl]
  rw [isK_S ka1, bnP_1, nwA_1 (by rw [hN_wN]; omega), bnA_ok, hN_wN]
  have nwl : hN σ + 1 < hN (wN (wN σ 10 0) 12 0) := by rw [hN_wN, hN_wN]; omega
  have kwl : hK (wN (wN σ 10 0) 12 0) (hN σ + 1) = 12 := by rw [hK_wN, if_pos (by rw [hN_wN])]
  have na : hN σ < hN (wN (wN σ 10 0) 12 0) := by omega
  have ka : hK (wN (wN σ 10 0) 12 0) (hN σ) = 10 := by rw [hK_wN, if_neg (by rw [hN_wN]; omega)]; exact ka1
  have i0 : ∀ j, hI (wN (wN σ 10 0) 12 0) (hN σ) j = 0 := fun j => by rw [hI_wN, if_neg (by rw [hN_wN]; omega), hI_wN, if_pos rfl]
  have i1 : ∀ j, hI (wN (wN σ 10 0) 12 0) (hN σ + 1) j = 0 := fun j => by rw [hI_wN, if_pos (by rw [hN_wN])]
  have F2 : FR σ (wN (wN σ 10 0) 12 0) (fun _ => False) := fr_tr (fr_wN σ 10 0 _) (fr_wN _ 12 0 (fun _ => False)) (fun _ _ q => q)
  have n2 : hN (wN (wN σ 10 0) 12 0) = hN σ + 2 := rfl
  generalize wN (wN σ 10 0) 12 0 = s2 at *
  have n3 : hN (wI s2 (hN σ + 1) 0 0) = hN s2 := rfl
  have n4 : hN (wR (wI s2 (hN σ + 1) 0 0) (hN σ + 1) 1 (some (BIG + 203))) = hN s2 := rfl
  rw [isK_S kwl, bnP_1, bnP_1, bnP_1, bnP_1, pI_S kwl nwl, bnP_1, bnP_1, pR_S (show hK (wI s2 (hN σ + 1) 0 0) (hN σ + 1) = 12 from kwl) nwl, bnP_1, bnP_1, pR_S (show hK (wR (wI s2 (hN σ + 1) 0 0) (hN σ + 1) 1 (some (BIG + 203))) (hN σ) = 10 from ka) na, bnP_1, pR_S (show hK (wR (wR (wI s2 (hN σ + 1) 0 0) (hN σ + 1) 1 (some (BIG + 203))) (hN σ) 0 (some (hN σ + 1))) (hN σ) = 10 from ka) na, bnP_1, addC_1, bnO_ok]
  refine hoa_c (σ' := s2) ?_ (by show hN σ + 1 + (1 + 0) = hN s2; omega) (by decide)
  have na4 : hN σ < hN (wR (wI s2 (hN σ + 1) 0 0) (hN σ + 1) 1 (some (BIG + 203))) := na
  have na5 : hN σ < hN (wR (wR (wI s2 (hN σ + 1) 0 0) (hN σ + 1) 1 (some (BIG + 203))) (hN σ) 0 (some (hN σ + 1))) := na
  have nwl3 : hN σ + 1 < hN (wI s2 (hN σ + 1) 0 0) := nwl
  generalize hs6 : wR (wR (wR (wI s2 (hN σ + 1) 0 0) (hN σ + 1) 1 (some (BIG + 203))) (hN σ) 0 (some (hN σ + 1))) (hN σ) 7 (some (BIG + 35)) = s6
  have n6 : hN s6 = hN σ + 2 := by rw [← hs6]; exact n2
  have ka6 : hK s6 (hN σ) = 10 := by rw [← hs6]; exact ka
  have kw6 : hK s6 (hN σ + 1) = 12 := by rw [← hs6]; exact kwl
  have F6 : FR σ s6 (fun _ => False) := by
    rw [← hs6]
    exact fr_tr (fr_tr (fr_tr (fr_tr F2 (fr_wI nwl 0 0) (fun x hx q => by omega)) (fr_wR nwl3 1 _) (fun x hx q => by omega)) (fr_wR na4 0 _) (fun x hx q => by omega)) (fr_wR na5 7 _) (fun x hx q => by omega)
  have ra6 : hR s6 (hN σ) 0 = some (hN σ + 1) := by rw [← hs6, hR_wR _ _ _ _ _ _ na5, if_neg (fun q => by cases q.2), hR_wR _ _ _ _ _ _ na4, if_pos ⟨rfl, rfl⟩]
  have rw6 : hR s6 (hN σ + 1) 1 = some (BIG + 203) := by rw [← hs6, hR_wR _ _ _ _ _ _ na5, if_neg (fun q => by cases q.2), hR_wR _ _ _ _ _ _ na4, if_neg (fun q => by cases q.2), hR_wR _ _ _ _ _ _ nwl3, if_pos ⟨rfl, rfl⟩]
  have ia6 : hI s6 (hN σ) 4 = 0 := by rw [← hs6, hI_wR, hI_wR, hI_wR, hI_wI _ _ _ _ _ _ nwl, if_neg (fun q => by omega)]; exact i0 4
  have iw6 : hI s6 (hN σ + 1) 2 = 0 := by rw [← hs6, hI_wR, hI_wR, hI_wR, hI_wI _ _ _ _ _ _ nwl, if_neg (fun q => by cases q.2)]; exact i1 2
  have na6 : hN σ < hN s6 := by omega
  rw [pI_S ka6 na6, bnP_1, nwA_1 (by rw [hN_wI]; omega), bnA_ok, hN_wI, n6]
  have F7 := fr_tr F6 (fr_wI na6 1 kd) (S' := fun c => c = hN σ) (fun x hx q => by omega)
  refine hoa_c (σ' := wN (wI s6 (hN σ) 1 kd) 11 0) ?_ (by show hN s2 + 1 = hN s6 + 1; omega) (by decide)
  have kt8 : hK (wN (wI s6 (hN σ) 1 kd) 11 0) (hN σ + 2) = 11 := by rw [hK_wN, if_pos (by rw [hN_wI, n6])]
  have it8 : hI (wN (wI s6 (hN σ) 1 kd) 11 0) (hN σ + 2) 3 = 0 := by rw [hI_wN, if_pos (by rw [hN_wI, n6])]
  have ka8 : hK (wN (wI s6 (hN σ) 1 kd) 11 0) (hN σ) = 10 := by rw [hK_wN, if_neg (by rw [hN_wI, n6]; omega)]; exact ka6
  have kw8 : hK (wN (wI s6 (hN σ) 1 kd) 11 0) (hN σ + 1) = 12 := by rw [hK_wN, if_neg (by rw [hN_wI, n6]; omega)]; exact kw6
  have ra8 : hR (wN (wI s6 (hN σ) 1 kd) 11 0) (hN σ) 0 = some (hN σ + 1) := by rw [hR_wN, if_neg (by rw [hN_wI, n6]; omega), hR_wI]; exact ra6
  have rw8 : hR (wN (wI s6 (hN σ) 1 kd) 11 0) (hN σ + 1) 1 = some (BIG + 203) := by rw [hR_wN, if_neg (by rw [hN_wI, n6]; omega), hR_wI]; exact rw6
  have ia8 : hI (wN (wI s6 (hN σ) 1 kd) 11 0) (hN σ) 4 = 0 := by rw [hI_wN, if_neg (by rw [hN_wI, n6]; omega), hI_wI _ _ _ _ _ _ na6, if_neg (fun q => by cases q.2)]; exact ia6
  have iw8 : hI (wN (wI s6 (hN σ) 1 kd) 11 0) (hN σ + 1) 2 = 0 := by rw [hI_wN, if_neg (by rw [hN_wI, n6]; omega), hI_wI _ _ _ _ _ _ na6, if_neg (fun q => by omega)]; exact iw6
  have F8 : FR σ (wN (wI s6 (hN σ) 1 kd) 11 0) (fun _ => False) := fr_tr F7 (fr_wN _ 11 0 (fun _ => False)) (fun _ _ q => q)
  have n8 : hN (wN (wI s6 (hN σ) 1 kd) 11 0) = hN σ + 3 := by rw [hN_wN, hN_wI, n6]
  generalize wN (wI s6 (hN σ) 1 kd) 11 0 = s8 at *
  refine hoa_O (sb_init0 kt8 (by omega) it8 (by omega)) (fun v25 s27 hle27 q => ?_)
  obtain ⟨b27, f27, n27⟩ := q
  rw [n8] at b27
  refine hoa_A (hoa_nR (κ := 20) (n := 0) (by omega) (by decide)) (fun v32 s34 hle34 q => ?_)
  obtain ⟨rfl, rfl⟩ := q
  have f34 := fr_wN s27 20 0 (fun _ => False)
  have kr34 : hK (wN s27 20 0) (hN s27) = 20 := by rw [hK_wN, if_pos rfl]
  have zr34 : hZ (wN s27 20 0) (hN s27) = 0 := by rw [hZ_wN, if_pos rfl]
  have n34 : hN (wN s27 20 0) = hN σ + 5 := by rw [hN_wN, n27, n8]
  have G27 : FR s8 (wN s27 20 0) (fun x => x = hN σ + 2) := fr_tr f27 f34 (fun _ _ q => q.elim)
  have b34 := sb_fr b27 f34 (fun q => q) (fun q => q)
  have F34 : FR σ (wN s27 20 0) (fun _ => False) := fr_tr F8 G27 (fun x hx q => by omega)
  generalize wN s27 20 0 = s34 at *
  have DS34 := ds_fr h1 F34 (fun q => q)
  have LL34 := li_fr h2 F34 (fun q => q) (fun _ q => q)
  have ka34 : hK s34 (hN σ) = 10 := (G27.2 _ (by omega)).1.trans ka8
  rw [gR_S DS34.1.1 DS34.1.2.2.1, bnP_1]
  refine hoa_O (li_add LL34 (by omega) (Or.inl ka34) (by omega) (by omega)) (fun v41 s43 hle43 q => ?_)
  obtain ⟨ea', LL, hea, n43, f43⟩ := q
  have lan := h2.1.2.1
  have la12 := h2.1.1
  have lan34 : la < hN s34 := by omega
  have ean : ea < hN σ ∨ BIG ≤ ea := by
    rcases h2.2.1 with q | q
    · omega
    · exact Or.inl q.2.2
  have F43 : FR σ s43 (fun x => x = la ∨ x = ea) := fr_tr (fr_m F34 (fun _ _ q => q.elim)) f43 (fun _ _ q => q)
  -- cells made here stay
  have st43 : ∀ x, hN σ ≤ x → x < hN s34 → hK s34 x ≠ 24 → hK s43 x = hK s34 x ∧ hZ s43 x = hZ s34 x ∧ (∀ k, hI s43 x k = hI s34 x k) ∧ ∀ k, hR s43 x k = hR s34 x k := fun x hx hx2 h24 => by
    obtain ⟨q1, q2, q3⟩ := f43.2 x hx2
    have q3 := q3 (fun q => by
      rcases q with q | q
      · omega
      · rcases ean with y | y <;> omega)
    exact ⟨q1, q2, fun k => (q3 k).1, fun k => (q3 k).2⟩
  have st8 : ∀ x, hN σ ≤ x → x < hN σ + 2 → hK s34 x = hK s8 x ∧ (∀ k, hI s34 x k = hI s8 x k) ∧ ∀ k, hR s34 x k = hR s8 x k := fun x hx hx2 => by
    obtain ⟨q1, q2, q3⟩ := G27.2 x (by omega)
    have q3 := q3 (fun q => by omega)
    exact ⟨q1, fun k => (q3 k).1, fun k => (q3 k).2⟩
  have A8 := st8 (hN σ) (by omega) (by omega)
  have W8 := st8 (hN σ + 1) (by omega) (by omega)
  have A4 := st43 (hN σ) (by omega) (by omega) (by omega)
  have W4 := st43 (hN σ + 1) (by omega) (by omega) (by rw [W8.1, kw8]; decide)
  have R4 := st43 (hN s27) (by omega) (by omega) (by omega)
  have DS43 := ds_fr h1 F43 (fun q => by
    rcases q with q | q
    · rw [q] at d13; omega
    · rcases h2.2.1 with z | z
      · omega
      · rw [q] at d13; omega)
  have sb43 : SBI s43 (hN σ + 2) (hN σ + 3) [] := sb_fr b34 f43 (fun q => by
    rcases q with q | q
    · omega
    · rcases ean with y | y <;> omega) (fun q => by
    rcases q with q | q
    · omega
    · rcases ean with y | y <;> omega)
  have H : Wo s43 d la lv ea' R Q m (fun k => if k = m then hN σ else A k) cs (hN σ) (hN σ + 1) (hN σ + 2) (hN σ + 3) := by
    refine ⟨DS43, LL, if_pos rfl, fun j hj => ?_, by omega, ⟨A4.1.trans ka34, W4.1.trans (W8.1.trans kw8), sb43.1.1, sb43.2.1.1⟩, hm⟩
    dsimp only
    rw [if_neg (show ¬ j = m by omega)]
    obtain ⟨wlj, x1, x2⟩ := h3 j hj
    have x10 := x1.1
    have x12 := x1.2.2.2.1
    have xn := x1.2.1
    have xwn := x1.2.2.2.2.1
    refine ⟨wlj, ac_fr x1 F43 (fun q => ?_) (fun q => ?_), by omega, by omega, x2⟩
    · rcases q with q | q
      · rw [q] at x10; omega
      · rcases h2.2.1 with z | z
        · omega
        · rw [q] at x10; omega
    · rcases q with q | q
      · exact x2 q
      · rcases h2.2.1 with z | z
        · omega
        · rw [q] at x12; omega
  have D0 : Dy s43 (hN σ) (hN σ + 1) (hN σ + 2) (hN σ + 3) lv s43 0 [] 0 (hN s27) := by
    refine ⟨BIG + 203, hN σ + 3, fun _ => 0, ⟨⟨A4.1.trans ka34, by omega, (A4.2.2.2 0).trans ((A8.2.2 0).trans ra8), (A4.2.2.1 4).trans ((A8.2.1 4).trans ia8)⟩, DS43.2.2.1, DS43.2.2.2.2⟩, ⟨⟨W4.1.trans (W8.1.trans kw8), by omega, (W4.2.2.2 1).trans ((W8.2.2 1).trans rw8), (W4.2.2.1 2).trans ((W8.2.1 2).trans iw8)⟩, Or.inl ⟨rfl, rfl⟩, by decide, fun k hk => absurd hk (Nat.not_lt_zero _)⟩, fun i hi => absurd hi (Nat.not_lt_zero _), ⟨R4.1.trans kr34, R4.2.1.trans zr34, by omega⟩, sb43, ⟨Or.inl rfl, Or.inl rfl⟩, fr_rf _ _⟩
  refine hoa_A (hoa_loop (f := fX11_begin_l1 (some d) v (some (hN σ)) (some (hN σ + 2))) (Q := fun r σ9 => ∃ ar', r = some ar' ∧ Dy s43 (hN σ) (hN σ + 1) (hN σ + 2) (hN σ + 3) lv σ9 (2 + c3) (bdL (uN v) (2 + c3)) (bdD (uN v) (2 + c3)) ar' ∧ hN σ9 ≤ hN s43 + 20 * (2 + c3)) (fun k a' σ9 => ∃ ar', a' = (some ar', nI k) ∧ Dy s43 (hN σ) (hN σ + 1) (hN σ + 2) (hN σ + 3) lv σ9 k (bdL (uN v) k) (bdD (uN v) k) ar' ∧ hN σ9 ≤ hN s43 + 20 * k) (2 + c3) (fun k a' σ9 hk q => ?_) (fun a' σ9 q => ?_) (2 + c3) 0 FUEL _ s43 (by omega) (show 2 + c3 < 200000 by omega) ⟨hN s27, rfl, D0, by omega⟩) (fun r49 s210 hle210 q => ?_)
  · obtain ⟨ar', rfl, D, hn9⟩ := q
    refine hoa_w (bg_step H D (by omega) (by rw [e2c]; exact nI_ge hk (by omega)) (by omega)) (fun r σ10 hle q => ?_)
    obtain ⟨a', rfl, ar2, rfl, D', hn10⟩ := q
    exact ⟨_, rfl, ar2, rfl, D', by omega⟩
  · obtain ⟨ar', rfl, D, hn9⟩ := q
    refine ⟨some ar', ?_, ar', rfl, D, hn9⟩
    unfold fX11_begin_l1
    dsimp only
    rw [e2c, if_pos (nI_le (Nat.le_refl _) (by omega))]
  obtain ⟨ar1, rfl, D1, n210⟩ := q
  have hd4 := bd_4 (us := uN v) (2 + c3)
  have hlen := bd_len (us := uN v) (fun k => (uN_e v k).2) (2 + c3)
  generalize bdD (uN v) (2 + c3) = dd at *
  generalize bdL (uN v) (2 + c3) = LB at *
  refine hoa_A (hoa_loop (f := fX11_begin_l2 (some (hN σ)) (some (hN σ + 2)) (some ar1)) (Q := fun r σ9 => Dy s43 (hN σ) (hN σ + 1) (hN σ + 2) (hN σ + 3) lv σ9 (2 + c3) (LB ++ List.replicate dd 41) dd ar1 ∧ hN σ9 ≤ hN s210 + dd) (fun k a' σ9 => a' = nI k ∧ Dy s43 (hN σ) (hN σ + 1) (hN σ + 2) (hN σ + 3) lv σ9 (2 + c3) (LB ++ List.replicate k 41) dd ar1 ∧ hN σ9 ≤ hN s210 + k) dd (fun k a' σ9 hk q => ?_) (fun a' σ9 q => ?_) dd 0 FUEL _ s210 (by omega) (show dd < 200000 by omega) ⟨rfl, by rw [List.replicate_zero, List.append_nil]; exact D1, by omega⟩) (fun r216 s236 hle236 q => ?_)
  · obtain ⟨rfl, D, hn9⟩ := q
    obtain ⟨we, tv, wf', -, -, -, ⟨y1, y2, y3⟩, -⟩ := id D
    unfold fX11_begin_l2
    rw [aL_S y1, y2, bnP_1, if_neg (nI_ge hk (by omega))]
    refine hoa_O (dy_chr D (c := 41) (by decide) (by rw [List.length_append, List.length_replicate]; omega) (by omega)) (fun v229 s231 hle231 q => ?_)
    obtain ⟨-, D', hn', -⟩ := q
    refine hoa_ret ⟨_, rfl, nI_a1 k, ?_, by omega⟩
    rw [List.replicate_succ', ← List.append_assoc]
    exact D'
  · obtain ⟨rfl, D, hn9⟩ := q
    obtain ⟨we, tv, wf', -, -, -, ⟨y1, y2, y3⟩, -⟩ := id D
    refine ⟨(), ?_, D, hn9⟩
    unfold fX11_begin_l2
    rw [aL_S y1, y2, bnP_1, if_pos (nI_le (Nat.le_refl _) (by omega))]
  obtain ⟨D2, n236⟩ := q
  obtain ⟨we, tv, wf', ⟨⟨a1, a2, a3, a4⟩, l1, l2⟩, hl2, hwf2, -, hs2, -, fr2⟩ := id D2
  refine hoa_O (sb_text hs2 (by omega)) (fun v241 s243 hle243 q => ?_)
  obtain ⟨rfl, st, f243, n243⟩ := q
  have D3 := dy_mv D2 (by omega) f243 (fun _ q => q.elim) ⟨by rw [((f243.2 _ a2).2.2 (fun q => q) 0).2]; exact a3, by rw [((f243.2 _ a2).2.2 (fun q => q) 4).1]; exact a4⟩
  obtain ⟨dk1, dk2, dk3⟩ := dy_dsk H D3
  obtain ⟨we3, tv3, wf3, ⟨⟨b1, b2, b3, b4⟩, m1, m2⟩, hl3, hwf3, -, hs3, -, fr3⟩ := id D3
  rw [pR_S b1 b2, bnP_1]
  have fa := fr_wR b2 7 (some (hN s236))
  have n250 : hN (wR s243 (hN σ) 7 (some (hN s236))) = hN s243 := rfl
  refine hoa_s (σ' := wR s243 (hN σ) 7 (some (hN s236))) (hoa_ret ⟨hN σ, hN σ + 1, ea', rfl, by omega, by omega, ⟨ds_fr dk1 fa (fun q => ?_), li_fr dk2 fa (fun q => ?_) (fun he q => ?_), fun j hj => ?_⟩, ⟨we3, wf3, hN s236, hN s236 + 1, ⟨b1, b2, ?_, ?_, ?_⟩, li_fr hl3 fa (fun q => by omega) (fun he q => ?_), fun i hi => wi_fr (hwf3 i hi) fa (fun q => ?_), st_fr st fa (by omega) (by omega) (fun q => by omega) (fun q => by omega), by omega, by omega, by omega⟩, ?_, ?_, by omega, by omega⟩) n250
  · have := dk1.1.1
    rw [q] at this
    omega
  · have := dk2.1.1
    rw [q] at this
    omega
  · have := ls_e dk2 (by omega) he
    rw [q] at this
    omega
  · obtain ⟨wlj, x1, x2⟩ := dk3 j hj
    by_cases z : j = m
    · dsimp only
      rw [if_pos z, if_pos z]
      refine ⟨hN σ + 1, ⟨b1, b2, ?_, hl3.1.1, hl3.1.2.1, ?_, hl3.2.2.1⟩, by omega⟩
      · rw [hR_wR _ _ _ _ _ _ b2, if_neg (fun q => by cases q.2)]
        exact b3
      · exact hl3.1.2.2.2
    · dsimp only
      rw [if_neg z, if_neg z]
      rw [if_neg z, if_neg z] at x1
      refine ⟨wlj, ac_fr x1 fa (fun q => ?_) (fun q => ?_), x2⟩
      · obtain ⟨wlk, y1, -⟩ := h3 j (by omega)
        have := y1.2.1
        omega
      · have := x1.2.2.2.1
        rw [q] at this
        omega
  · rw [hR_wR _ _ _ _ _ _ b2, if_neg (fun q => by cases q.2)]
    exact b3
  · rw [hI_wR]
    exact b4
  · rw [hR_wR _ _ _ _ _ _ b2, if_pos ⟨rfl, rfl⟩]
  · have := ls_e hl3 (by omega) he
    rw [q] at this
    omega
  · have := (hwf3 i hi).1
    rw [q] at this
    omega
  · rcases hea with z | z
    · exact Or.inl z
    · exact Or.inr (by omega)
  · exact fr_tr (fr_tr (fr_m F43 (fun x _ q => by rcases q with q | q; exact Or.inl q; exact Or.inr (Or.inl q))) fr3 (fun x hx q => by
      rcases q with q | q | q | q | q
      · omega
      · omega
      · omega
      · omega
      · exact Or.inr (Or.inr q))) fa (fun x hx q => by omega)
end P56S
