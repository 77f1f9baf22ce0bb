/-! THE PURE LEVEL, 86: the reference reads a line (but of an act) -/
def MGd (f : Nat → Int32) (e p : Nat) (N : tN) (G : Nat → Nat → Int32) : Prop := (e ≤ 600 ∧ p ≤ e ∧ ∀ k, k < e → G 86 k = f k) ∧ MTK f e p (G 80) ∧ WFN N ∧ G 81 = N
def MFR (G G' : Nat → Nat → Int32) : Prop := (∀ a, a ≠ 80 → a ≠ 81 → a ≠ 87 → G' a = G a) ∧ (∀ k, k < 12 ∨ 21 ≤ k → G' 80 k = G 80 k) ∧ (G 80 17 = 0 → G' 80 17 = 0 → G' 80 18 = G 80 18) ∧ (G 80 17 ≠ 0 → G' 80 17 = G 80 17) ∧ ∀ j, 6139 ≤ j → G' 81 j = G 81 j
def MER (x : Nat × Nat) (G : Nat → Nat → Int32) : Prop := (0 < x.1 ∧ x.1 < 5) ∧ G 80 17 = nI x.1 ∧ G 80 18 = nI x.2
def MRs (f : Nat → Int32) (e : Nat) : PRes → (Nat → Nat → Int32) → Prop
  | .ok x, G => MGd f e x.1 x.2 G
  | .error x, G => MER x G
def MPo (σ : HpT) (f : Nat → Int32) (e : Nat) (G : Nat → Nat → Int32) (o : Option HpT) (r : PRes) : Prop := ∃ G', o = some (wi σ G') ∧ MFR G G' ∧ MRs f e r G'
section MLN
variable {σ : HpT} {G G' G2 : Nat → Nat → Int32} {f : Nat → Int32} {e p lo hi v : Nat} {N N2 : tN} {x : Nat × Nat}
theorem mf_rf (G : Nat → Nat → Int32) : MFR G G := ⟨fun _ _ _ _ => rfl, fun _ _ => rfl, fun _ _ => rfl, fun _ => rfl, fun _ _ => rfl⟩
theorem mf_tr (h1 : MFR G G') (h2 : MFR G' G2) : MFR G G2 := ⟨fun a a1 a2 a3 => (h2.1 a a1 a2 a3).trans (h1.1 a a1 a2 a3), fun k hk => (h2.2.1 k hk).trans (h1.2.1 k hk), fun z1 z2 => by
  have z : G' 80 17 = 0 := by
    by_cases y : G' 80 17 = 0
    · exact y
    · rw [h2.2.2.2.1 y] at z2
      exact absurd z2 y
  exact (h2.2.2.1 z z2).trans (h1.2.2.1 z1 z), fun z => by
  have e := h1.2.2.2.1 z
  rw [h2.2.2.2.1 (by rw [e]; exact z), e], fun j hj => (h2.2.2.2.2 j hj).trans (h1.2.2.2.2 j hj)⟩
theorem mf_81 {G : Nat → Nat → Int32} {N : tN} (hz : ∀ j, 6139 ≤ j → N j = G 81 j) : MFR G (cw G 81 N) := ⟨fun a _ a2 _ => cw_b a2, fun k _ => by rw [cw_b (by decide)], fun _ _ => by rw [cw_b (by decide)], fun _ => by rw [cw_b (by decide)], fun j hj => by rw [cw_a]; exact hz j hj⟩
theorem mf_87 (G : Nat → Nat → Int32) (N : tN) : MFR G (cw G 87 N) := ⟨fun a _ _ a3 => cw_b a3, fun k _ => by rw [cw_b (by decide)], fun _ _ => by rw [cw_b (by decide)], fun _ => by rw [cw_b (by decide)], fun _ _ => by rw [cw_b (by decide)]⟩
theorem zs_stk {f n j : Nat} (hw : WFN N) (hf : f + n ≤ 240) (hj : 6139 ≤ j) : stkN N f n j = N j := by
  have hb := w1_b hw.1
  exact stk_o (by omega) (by omega)
theorem zs_op (hw : WFN N) {v : Nat} (q : v < opSz N) : opW N v < 240 := by
  have hb := w1_b hw.1
  obtain ⟨qo, qs⟩ := (opSz_b hw.1 hw.2.1).2 (by omega)
  have hl := act_le hw.1 hw.2.1 (a := nAc N - 1) (by have := qo.1; omega)
  unfold opW
  omega
theorem mg_81 (g : MGd f e p N G) (hw : WFN N2) : MGd f e p N2 (cw G 81 N2) := ⟨⟨g.1.1, g.1.2.1, fun k hk => by rw [cw_b (by decide)]; exact g.1.2.2 k hk⟩, by rw [cw_b (by decide)]; exact g.2.1, hw, cw_a _ _ _⟩
theorem mg_87 (g : MGd f e p N G) (q : tN) : MGd f e p N (cw G 87 q) := ⟨⟨g.1.1, g.1.2.1, fun k hk => by rw [cw_b (by decide)]; exact g.1.2.2 k hk⟩, by rw [cw_b (by decide)]; exact g.2.1, g.2.2.1, by rw [cw_b (by decide)]; exact g.2.2.2⟩
theorem mg_17 (g : MGd f e p N G) : G 80 17 = 0 := g.2.1.2.2.2.2.2
theorem mr_0 (r : MER x G) : ¬ nI x.1 = 0 := fun q => by
  have := (nI_eq (b := 0) (by have := r.1.2; omega) (by decide)).mp q
  have := r.1.1
  omega
theorem mr_le (r : MER x G) : ¬ nI x.1 ≤ 0 := nI_ge (a := 0) r.1.1 (by have := r.1.2; omega)
theorem mp_pre {o : Option HpT} {r : PRes} (hf : MFR G G2) (h : MPo σ f e G2 o r) : MPo σ f e G o r := by
  obtain ⟨G', e1, e2, e3⟩ := h
  exact ⟨G', e1, mf_tr hf e2, e3⟩
theorem mp_id {o : Option HpT} {r : PRes} (h : MPo σ f e G o r) : MPo σ f e G (bnP o (fun s => some s)) r := by
  obtain ⟨G', e1, e2, e3⟩ := h
  exact ⟨G', by rw [e1, bnP_1], e2, e3⟩
theorem m_go (h : MK σ 80) (g : MGd f e p N G) : ∃ G', fX10_goes (some 80) (wi σ G) = some (wi σ G') ∧ MFR G G' ∧ (∀ a, a ≠ 80 → G' a = G a) ∧ MGd f e (tkX f e p) N G' := by
  obtain ⟨⟨he, hp, hf⟩, t, hw, e81⟩ := g
  have hb := tk_b (f := f) hp
  obtain ⟨u, e1, t1, q⟩ := m_goes h he (p := tkX f e p) hb.2.2.1 t.1 t.2.1 t.2.2.2.2.2 hf
  exact ⟨_, e1, ⟨fun a a1 _ _ => cw_b a1, fun k hk => by rw [cw_a]; exact q k (by omega), fun _ _ => by rw [cw_a]; exact q 18 (by omega), fun _ => by rw [cw_a]; exact q 17 (by omega), fun _ _ => by rw [cw_b (by decide)]⟩, fun a ha => cw_b ha, ⟨he, hb.2.2.1, fun k hk => by rw [cw_b (by decide)]; exact hf k hk⟩, by rw [cw_a]; exact t1, hw, by rw [cw_b (by decide)]; exact e81⟩
theorem m_goE (h : MK σ 80) (r : MER x G) : fX10_goes (some 80) (wi σ G) = some (wi σ G) := m_goes_err h r.1.1 (by have := r.1.2; omega) r.2.1
theorem m_isE (h : MK σ 80) (r : MER x G) (v : Int32) : fX10_is (some 80) v (wi σ G) = some false := m_is_err h r.1.1 (by have := r.1.2; omega) r.2.1 v
theorem m_fltE (h : MK σ 80) (r : MER x G) (v : Int32) : fX10_faults (some 80) v (wi σ G) = some (wi σ G) := by
  unfold fX10_faults
  rw [mk_o h, bnP_1, mk_I h, bnP_1, r.2.1, if_neg (mr_le r)]
theorem mp_fin (h : MK σ 80) (g : MGd f e p N G) : MPo σ f e G (bnP (fX10_goes (some 80) (wi σ G)) (fun s => some s)) (.ok (tkX f e p, N)) := by
  obtain ⟨G', e1, e2, -, e3⟩ := m_go h g
  exact mp_id ⟨G', e1, e2, e3⟩
theorem mp_err (h : MK σ 80) (r : MER x G) : MPo σ f e G (bnP (fX10_goes (some 80) (wi σ G)) (fun s => some s)) (.error x) := mp_id ⟨G, m_goE h r, mf_rf G, r⟩
theorem mp_er0 (r : MER x G) : MPo σ f e G (some (wi σ G)) (.error x) := ⟨G, rfl, mf_rf G, r⟩
theorem m_flt (h : MK σ 80) (g : MGd f e p N G) {n : Nat} (h0 : 0 < n) (h5 : n < 5) : ∃ G', fX10_faults (some 80) (nI n) (wi σ G) = some (wi σ G') ∧ MFR G G' ∧ (∀ a, a ≠ 80 → G' a = G a) ∧ MER (n, tkS f e p) G' := by
  refine ⟨cw G 80 (u1 (u1 (G 80) 17 (nI n)) 18 (nI (tkS f e p))), ?_, ⟨fun a a1 _ _ => cw_b a1, fun k hk => by rw [cw_a, u1_k (by omega), u1_k (by omega)], fun _ z => by
    rw [cw_a, u1_k (by decide), u1_e] at z
    exact absurd ((nI_eq (b := 0) (by omega) (by decide)).mp z) (by omega), fun z => absurd (mg_17 g) z, fun _ _ => by rw [cw_b (by decide)]⟩, fun a ha => cw_b ha, ⟨h0, h5⟩, ?_, ?_⟩
  · unfold fX10_faults
    rw [mk_o h, bnP_1, mk_I h, bnP_1, mg_17 g, if_pos (show (0 : Int32) ≤ 0 by decide), mk_P h, bnP_1, mk_I h, bnP_1, up_k (by decide), g.2.1.2.2.1, mk_P h, bnP_1, up_is G, up_cw]
  · rw [cw_a, u1_k (by decide), u1_e]
  · rw [cw_a, u1_e]
theorem m_isT (h : MK σ 80) (g : MGd f e p N G) {k : Nat} (hk : k < 7) {v : Int32} (hv : v = nI ((k + 1) % 7)) : fX10_is (some 80) v (wi σ G) = some (decide (tkK f e p = k)) := m_is h g.2.1 hk hv
theorem m_nh_ok (h : MK σ 80) (g : MGd f e p N G) {H : Int32} (hH : HB H hi) (hlo : lo < 2 ^ 31) (q : nmS f e p lo hi = .ok v) : fX10_numberHere (some 80) (nI lo) H (wi σ G) = some (nI v, wi σ G) := by
  obtain ⟨k1, rfl, k3, k4⟩ := nm_ok q
  have hn := tk_nm g.1.2.1 k1
  have hin : inR (nI (tkV f e p)) (nI lo) H = true := by
    unfold inR
    rw [decide_eq_true (nI_le k3 (by omega)), decide_eq_true ((hH _ hn.1).mpr k4)]
    rfl
  unfold fX10_numberHere
  rw [mk_o h, bnP_1, m_isT h g (k := 2) (by decide) (v := 3) rfl, bnP_1, decide_eq_true k1, if_pos rfl, mk_I h, bnP_1, g.2.1.2.2.2.2.1 k1, m_in, bnP_1, hin, if_pos rfl, bnS_1, mk_I h, bnP_1, mg_17 g, if_pos (show (0 : Int32) ≤ 0 by decide), mk_I h, bnP_1, g.2.1.2.2.2.2.1 k1]
theorem m_nh_bad (h : MK σ 80) (g : MGd f e p N G) {H : Int32} (hH : HB H hi) (hlo : lo < 2 ^ 31) (q : nmS f e p lo hi = .error x) : ∃ G', fX10_numberHere (some 80) (nI lo) H (wi σ G) = some (nI lo, wi σ G') ∧ MFR G G' ∧ (∀ a, a ≠ 80 → G' a = G a) ∧ MER x G' := by
  unfold fX10_numberHere
  rw [mk_o h, bnP_1, m_isT h g (k := 2) (by decide) (v := 3) rfl, bnP_1]
  rcases nm_err q with ⟨k1, rfl⟩ | ⟨k1, k2, rfl⟩
  · obtain ⟨G2, f1, f2, f3, f4⟩ := m_flt h g (n := 1) (by decide) (by decide)
    refine ⟨G2, ?_, f2, f3, f4⟩
    rw [decide_eq_false k1, if_neg (by decide), show (1 : Int32) = nI 1 from rfl, f1, bnP_1, bnS_1, mk_I h, bnP_1, f4.2.1, if_neg (mr_le f4)]
  · obtain ⟨G2, f1, f2, f3, f4⟩ := m_flt h g (n := 2) (by decide) (by decide)
    have hn := tk_nm g.1.2.1 k1
    have hin : ¬ inR (nI (tkV f e p)) (nI lo) H = true := by
      unfold inR
      intro z
      rw [Bool.and_eq_true] at z
      exact k2 ⟨by
        have y := of_decide_eq_true z.1
        rw [nI_leI hlo (by omega)] at y
        exact y, (hH _ hn.1).mp (of_decide_eq_true z.2)⟩
    refine ⟨G2, ?_, f2, f3, f4⟩
    rw [decide_eq_true k1, if_pos rfl, mk_I h, bnP_1, g.2.1.2.2.2.2.1 k1, m_in, bnP_1, if_neg hin, show (2 : Int32) = nI 2 from rfl, f1, bnP_1, bnS_1, mk_I h, bnP_1, f4.2.1, if_neg (mr_le f4)]
theorem m_nhE (h : MK σ 80) (r : MER x G) (l H : Int32) : fX10_numberHere (some 80) l H (wi σ G) = some (l, wi σ G) := by
  unfold fX10_numberHere
  rw [mk_o h, bnP_1, m_isE h r, bnP_1, if_neg (by decide), m_fltE h r, bnP_1, bnS_1, mk_I h, bnP_1, r.2.1, if_neg (mr_le r)]
theorem m_numE (h : MK σ 80) (r : MER x G) (l H : Int32) : fX10_number (some 80) l H (wi σ G) = some (l, wi σ G) := by
  unfold fX10_number
  rw [mk_o h, bnP_1, m_nhE h r, bnS_1, m_goE h r, bnP_1]
theorem m_num_ok (h : MK σ 80) (g : MGd f e p N G) {H : Int32} (hH : HB H hi) (hlo : lo < 2 ^ 31) (q : nmS f e p lo hi = .ok v) : ∃ G', fX10_number (some 80) (nI lo) H (wi σ G) = some (nI v, wi σ G') ∧ MFR G G' ∧ (∀ a, a ≠ 80 → G' a = G a) ∧ MGd f e (tkX f e p) N G' := by
  obtain ⟨G', e1, e2, e3, e4⟩ := m_go h g
  refine ⟨G', ?_, e2, e3, e4⟩
  unfold fX10_number
  rw [mk_o h, bnP_1, m_nh_ok h g hH hlo q, bnS_1, e1, bnP_1]
theorem m_num_bad (h : MK σ 80) (g : MGd f e p N G) {H : Int32} (hH : HB H hi) (hlo : lo < 2 ^ 31) (q : nmS f e p lo hi = .error x) : ∃ G', fX10_number (some 80) (nI lo) H (wi σ G) = some (nI lo, wi σ G') ∧ MFR G G' ∧ (∀ a, a ≠ 80 → G' a = G a) ∧ MER x G' := by
  obtain ⟨G', e1, e2, e3, e4⟩ := m_nh_bad h g hH hlo q
  refine ⟨G', ?_, e2, e3, e4⟩
  unfold fX10_number
  rw [mk_o h, bnP_1, e1, bnS_1, m_goE h e4, bnP_1]
theorem bnS_id {α : Type} (o : Option (α × HpT)) : bnS o (fun x s => some (x, s)) = o := by
  cases o <;> rfl
theorem m_wordHere (h : MK σ 80) (g : MGd f e p N G) : fX10_wordHere (some 80) (wi σ G) = fX10_numberHere (some 80) (nI 0) (nI (opSz N) - 1) (wi σ G) := by
  have hw := g.2.2.1
  have e81 : G (80 + 1) = N := g.2.2.2
  have hb := w1_b hw.1
  unfold fX10_wordHere opSz
  rw [mk_o h, bnP_1]
  by_cases q : isO N
  · have hp := q.1
    rw [m_openAct1 h (by rw [e81]; exact hw.1) (by rw [e81]; exact q), bnP_1, e81, if_neg (show ¬ nI (nAc N - 1) = -1 from nI_nO (by omega)), show fX10_ofAct (some 80) (nI (nAc N - 1)) 6 (wi σ G) = _ from m_ofAct h (nAc N - 1) 6 (by omega), bnP_1, e81, bnP_1]
    dsimp only
    rw [bnS_id, if_pos (isOb_1 q), (act_ok hw.1 hw.2.1 (a := nAc N - 1) (by omega)).1.2.2.1]
    rfl
  · rw [m_openAct0 h (by rw [e81]; exact hw.1) (by rw [e81]; exact q), bnP_1, if_pos (show nO = -1 from rfl), bnP_1]
    dsimp only
    rw [bnS_id, if_neg (fun z => q (isOb_t z))]
    rfl
theorem m_interlinesAt (h : MK σ 80) (hw : WFN N) (e : G 81 = N) (q : isO N) {i n at0 : Nat} {l : Nat → Nat} (hi : i < aM N (nAc N - 1)) (h4 : wN' N (opW N i) < 4) (n8 : n ≤ 8) (hn : at0 + n ≤ 600) (hf : ∀ k, k < n → G 86 (at0 + k) = nI (96 + l k) ∧ 1 ≤ l k ∧ l k ≤ 26) : fX10_interlines (some 80) (nI i) (nI at0) (nI n) (wi σ G) = some (wi σ (cw G 81 (intN N (opW N i) (nI (enL5 (l) n).1) (nI (enL5 (l) n).2)))) := by
  have hb := w1_b hw.1
  have e' : G (80 + 1) = N := e
  have ha : nAc N - 1 < nAc N := by have := q.1; omega
  have hle := act_le hw.1 hw.2.1 ha
  have hg : opW N i < nWd N := by unfold opW; omega
  have hb4 : N (127 + 13 * opW N i + 4) = nI (wN' N (opW N i)) := (hw.2.2.2.1 _ hg).1.1
  have p0 : ∀ G' : Nat → Nat → Int32, G' 86 = G 86 → fX10_partOf (some 80) (nI at0) (nI n) 0 (wi σ G') = some (nI (enL5 (l) n).1) := fun G' hG => m_partOf h (at0 := at0) n8 (by omega) (fun k hk => by
    show G' 86 (at0 + k) = _ ∧ _
    rw [hG]
    exact hf k hk) 0 (by decide)
  have p1 : ∀ G' : Nat → Nat → Int32, G' 86 = G 86 → fX10_partOf (some 80) (nI at0) (nI n) 1 (wi σ G') = some (nI (enL5 (l) n).2) := fun G' hG => m_partOf h (at0 := at0) n8 (by omega) (fun k hk => by
    show G' 86 (at0 + k) = _ ∧ _
    rw [hG]
    exact hf k hk) 1 (by decide)
  generalize hlo : nI (enL5 (l) n).1 = lo at *
  generalize hhi : nI (enL5 (l) n).2 = hi' at *
  unfold fX10_interlines
  rw [mk_o h, bnP_1, m_openWord h (by rw [e']; exact hw) (by rw [e']; exact q), bnP_1, e', show fX10_ofWord (some 80) (nI (opW N i)) 4 (wi σ G) = _ from m_ofWord h (opW N i) 4 (by omega), bnP_1, e', hb4, p0 G rfl, bnP_1, show 5 + 2 * nI (wN' N (opW N i)) = nI (5 + 2 * wN' N (opW N i)) by rw [show (2 : Int32) = nI 2 from rfl, pk_mul]; exact nI_add 5 _, m_putsWord h _ _ _ (by omega), bnP_1]
  generalize hG1 : up G (80 + 1) (127 + 13 * opW N i + (5 + 2 * wN' N (opW N i))) lo = G1
  have h86 : G1 86 = G 86 := by rw [← hG1, up_a (by decide)]
  rw [p1 G1 h86, bnP_1, nI_a1, m_putsWord h _ _ _ (by omega), bnP_1]
  generalize hG2 : up G1 (80 + 1) (127 + 13 * opW N i + (5 + 2 * wN' N (opW N i) + 1)) hi' = G2
  rw [nI_a1, show fX10_putsWord (some 80) (nI (opW N i)) 4 (nI (wN' N (opW N i) + 1)) (wi σ G2) = _ from m_putsWord h (opW N i) 4 _ (by omega), bnP_1]
  generalize hG3 : up G2 (80 + 1) (127 + 13 * opW N i + 4) (nI (wN' N (opW N i) + 1)) = G3
  have g : ∀ j, j < 127 → G3 (80 + 1) j = N j := fun j hj => by rw [← hG3, up_k (by omega), ← hG2, up_k (by omega), ← hG1, up_k (by omega), e']
  rw [m_openAct1g (M := N) h (by rw [g 3 (by decide)]; exact (w1_e hw.1).2.1) q.1 (by omega) (by rw [g _ (by omega)]; exact q.2), bnP_1, m_marks h (by omega), bnP_1, g _ (by omega)]
  congr 2
  rw [← hG3, ← hG2, ← hG1, show (80 + 1 : Nat) = 81 from rfl, up_is G, up_cw, up_cw, up_cw, e]
  congr 1
  funext j
  unfold u1 intN
  by_cases z1 : j = 9 + 9 * (nAc N - 1) + 3
  · rw [if_pos z1, if_neg (by omega), if_neg (by omega), if_neg (by omega), if_pos (by omega), z1]
  · rw [if_neg z1]
    by_cases z2 : j = 127 + 13 * opW N i + 4
    · rw [if_pos z2, if_neg (by omega), if_neg (by omega), if_pos (by omega)]
    · rw [if_neg z2]
      by_cases z3 : j = 127 + 13 * opW N i + (5 + 2 * wN' N (opW N i) + 1)
      · rw [if_pos z3, if_neg (by omega), if_pos (by omega)]
      · rw [if_neg z3]
        by_cases z4 : j = 127 + 13 * opW N i + (5 + 2 * wN' N (opW N i))
        · rw [if_pos z4, if_pos (by omega)]
        · rw [if_neg z4, if_neg (by omega), if_neg (by omega), if_neg (by omega), if_neg (by omega)]
theorem ml_strike (h : MK σ 80) (g : MGd f e p N G) : MPo σ f e G (fX10_readsStrike (some 80) (wi σ G)) (lnStrike f e p N) := by
  have hw := g.2.2.1
  have hz := opSz_b hw.1 hw.2.1
  obtain ⟨G1, e1, f1, -, g1⟩ := m_go h g
  have e81 : G1 (80 + 1) = N := g1.2.2.2
  refine mp_pre f1 ?_
  unfold fX10_readsStrike lnStrike
  rw [mk_o h, bnP_1, e1, bnP_1, m_wordHere h g1]
  cases q : nmS f e (tkX f e p) 0 (opSz N) with
  | error x =>
    obtain ⟨G2, e2, f2, -, r2⟩ := m_nh_bad h g1 (hb_m (n := opSz N) (by omega)) (by decide) q
    refine mp_pre f2 ?_
    rw [e2, bnS_1, mk_I h, bnP_1, r2.2.1, if_neg (mr_0 r2), bnS_1, mk_I h, bnP_1, r2.2.1, if_neg (mr_0 r2), bnS_1]
    exact mp_err h r2
  | ok v =>
    obtain ⟨-, -, -, q4⟩ := nm_ok q
    obtain ⟨qo, qs⟩ := hz.2 (by omega)
    rw [m_nh_ok h g1 (hb_m (n := opSz N) (by omega)) (by decide) q, bnS_1, mk_I h, bnP_1, mg_17 g1, if_pos rfl, m_whyStrike h (by rw [e81]; exact hw), bnP_1, e81]
    show MPo σ f e G1 _ (if strQ N (nI v) = 0 then _ else _)
    by_cases y : strQ N (nI v) = 0
    · rw [if_pos y, if_pos y, bnS_1, mk_I h, bnP_1, mg_17 g1, if_pos rfl, m_strikes h hw e81 qo (by omega), bnP_1, bnS_1]
      exact mp_pre (mf_81 fun j hj => by
        show stkN N (opW N v) 1 j = G1 (80 + 1) j
        rw [e81]
        exact zs_stk hw (by have := zs_op hw q4; omega) hj) (mp_fin h (mg_81 g1 (stk_wf hw (by have := act_le hw.1 hw.2.1 (a := nAc N - 1) (by have := qo.1; omega); unfold opW; omega))))
    · obtain ⟨G2, e2, f2, -, r2⟩ := m_flt h g1 (n := 3) (by decide) (by decide)
      refine mp_pre f2 ?_
      rw [if_neg y, if_neg y, show (3 : Int32) = nI 3 from rfl, e2, bnP_1, bnS_1, mk_I h, bnP_1, r2.2.1, if_neg (mr_0 r2), bnS_1]
      exact mp_err h r2
theorem ml_out (h : MK σ 80) (g : MGd f e p N G) : MPo σ f e G (fX10_readsOut (some 80) (wi σ G)) (lnOut f e p N) := by
  have hw := g.2.2.1
  have hz := opSz_b hw.1 hw.2.1
  obtain ⟨G1, e1, f1, -, g1⟩ := m_go h g
  have e81 : G1 (80 + 1) = N := g1.2.2.2
  refine mp_pre f1 ?_
  unfold fX10_readsOut lnOut
  rw [mk_o h, bnP_1, e1, bnP_1, m_wordHere h g1]
  cases q : nmS f e (tkX f e p) 0 (opSz N) with
  | error x =>
    obtain ⟨G2, e2, f2, -, r2⟩ := m_nh_bad h g1 (hb_m (n := opSz N) (by omega)) (by decide) q
    refine mp_pre f2 ?_
    rw [e2, bnS_1, mk_I h, bnP_1, r2.2.1, if_neg (mr_0 r2), bnS_1, mk_I h, bnP_1, r2.2.1, if_neg (mr_le r2)]
    exact mp_er0 r2
  | ok v =>
    obtain ⟨-, -, -, q4⟩ := nm_ok q
    obtain ⟨qo, qs⟩ := hz.2 (by omega)
    have ha : nAc N - 1 < nAc N := by have := qo.1; omega
    have hl := act_le hw.1 hw.2.1 ha
    rw [m_nh_ok h g1 (hb_m (n := opSz N) (by omega)) (by decide) q, bnS_1, mk_I h, bnP_1, mg_17 g1, if_pos rfl, m_openWord h (by rw [e81]; exact hw) (by rw [e81]; exact qo), bnP_1, e81, m_clauseOf h (a := nAc N - 1) (g := opW N v) (by rw [e81]; exact hw) (by rw [e81]; exact ha) (by rw [e81]; unfold opW; omega) (by rw [e81]; unfold opW; omega), bnP_1, e81]
    show MPo σ f e G1 _ (if wW N (opW N v) = 0 then _ else _)
    by_cases y : wW N (opW N v) = 0
    · obtain ⟨G2, e2, f2, -, r2⟩ := m_flt h g1 (n := 3) (by decide) (by decide)
      refine mp_pre f2 ?_
      rw [if_pos y, if_pos (show coQ N (opW N v) = -1 by unfold coQ; rw [if_pos y]; rfl), show (3 : Int32) = nI 3 from rfl, e2, bnP_1, bnS_1, mk_I h, bnP_1, r2.2.1, if_neg (mr_le r2)]
      exact mp_er0 r2
    · obtain ⟨k, hk⟩ : ∃ k, wW N (opW N v) = k + 1 := ⟨wW N (opW N v) - 1, by omega⟩
      have hkb : (cF N k ≤ cT N k ∧ cT N k < nWd N) ∧ k < 961 := by
        obtain ⟨-, -, z⟩ := w3_w hw.2.2.1 (a := nAc N - 1) (g := opW N v) ha (by unfold opW; omega) (by unfold opW; omega)
        rcases z with ⟨z, -⟩ | ⟨p', z1, z2, z3, z4, z5, z6⟩
        · omega
        · obtain rfl : p' = k := by omega
          have cl := w3_cl hw.2.2.1 (a := nAc N - 1) ha p' z2 z3
          have hb := w2_b hw.2.1 ha
          have hb1 := w1_b hw.1
          have ok := w3_kb hw.2.1 hw.1 ha
          omega
      rw [if_neg y, if_neg (show ¬ coQ N (opW N v) = -1 by unfold coQ; rw [if_neg y]; exact nI_nO (by omega)), bnS_1, mk_I h, bnP_1, mg_17 g1, if_pos (show (0 : Int32) ≤ 0 by decide), m_strikesClause h hw e81 qo (by omega) hk, bnS_1, hk, Nat.add_sub_cancel]
      exact mp_pre (mf_81 fun j hj => by
        show stkN N (cF N k) (cT N k - cF N k + 1) j = G1 (80 + 1) j
        rw [e81]
        exact zs_stk hw (by have := w1_b hw.1; omega) hj) (mp_fin h (mg_81 g1 (stk_wf hw (by omega))))
theorem ml_insert (h : MK σ 80) (g : MGd f e p N G) : MPo σ f e G (fX10_readsInsert (some 80) (wi σ G)) (lnInsert f e p N) := by
  have hw := g.2.2.1
  have hz := opSz_b hw.1 hw.2.1
  obtain ⟨G1, e1, f1, -, g1⟩ := m_go h g
  have e81 : G1 (80 + 1) = N := g1.2.2.2
  have tail : ∀ (x : Nat × Nat) (G2 : Nat → Nat → Int32) (x4 : Int32), MER x G2 → MPo σ f e G2 (bnP (fX10_goes (some 80) (wi σ G2)) (fun s24 => bnP (fX10_is (some 80) 2 s24) (fun x25 => bnS ((if x25 = true then some ((), s24) else bnP (fX10_faults (some 80) 1 s24) (fun s34 => some ((), s34)))) (fun (j27 : Unit) s35 => bnP (gI s35 (some 80) 10 17) (fun x36 => bnS ((if x36 = 0 then bnP (gI s35 (some 80) 10 14) (fun x43 => bnP (gI s35 (some 80) 10 13) (fun x45 => bnP (gI s35 (some 80) 10 14) (fun x47 => bnP (fX10_interlines (some 80) x4 x43 (x45 - x47) s35) (fun s51 => some ((), s51))))) else some ((), s35))) (fun (j38 : Unit) s52 => bnP (fX10_goes (some 80) s52) (fun s55 => some s55))))))) (.error x) := fun x G2 x4 r => by
    rw [m_goE h r, bnP_1, m_isE h r, bnP_1, if_neg (by decide), m_fltE h r, bnP_1, bnS_1, mk_I h, bnP_1, r.2.1, if_neg (mr_0 r), bnS_1]
    exact mp_err h r
  refine mp_pre f1 ?_
  unfold fX10_readsInsert lnInsert
  rw [mk_o h, bnP_1, e1, bnP_1, m_wordHere h g1]
  cases q : nmS f e (tkX f e p) 0 (opSz N) with
  | error x =>
    obtain ⟨G2, e2, f2, -, r2⟩ := m_nh_bad h g1 (hb_m (n := opSz N) (by omega)) (by decide) q
    refine mp_pre f2 ?_
    rw [e2, bnS_1, mk_I h, bnP_1, r2.2.1, if_neg (mr_0 r2), bnS_1]
    exact tail x G2 _ r2
  | ok v =>
    obtain ⟨-, -, -, q4⟩ := nm_ok q
    obtain ⟨qo, qs⟩ := hz.2 (by omega)
    have ha : nAc N - 1 < nAc N := by have := qo.1; omega
    have hl := act_le hw.1 hw.2.1 ha
    have hb := w1_b hw.1
    have hg : opW N v < nWd N := by unfold opW; omega
    have hb4 : N (127 + 13 * opW N v + 4) = nI (wN' N (opW N v)) := (hw.2.2.2.1 _ hg).1.1
    have hb5 : wN' N (opW N v) < 5 := (hw.2.2.2.1 _ hg).1.2
    rw [m_nh_ok h g1 (hb_m (n := opSz N) (by omega)) (by decide) q, bnS_1, mk_I h, bnP_1, mg_17 g1, if_pos rfl, m_openWord h (by rw [e81]; exact hw) (by rw [e81]; exact qo), bnP_1, e81, show fX10_ofWord (some 80) (nI (opW N v)) 4 (wi σ G1) = _ from m_ofWord h (opW N v) 4 (by omega), bnP_1, e81, hb4]
    show MPo σ f e G1 _ (if wN' N (opW N v) < 4 then _ else _)
    by_cases y : wN' N (opW N v) < 4
    · obtain ⟨G2, e2, f2, -, g2⟩ := m_go h g1
      have e82 : G2 (80 + 1) = N := g2.2.2.2
      rw [if_pos y, if_neg (show ¬ nI (wN' N (opW N v)) = 4 from fun z => by have := (nI_eq (b := 4) (by omega) (by decide)).mp z; omega), bnS_1, e2, bnP_1, m_isT h g2 (k := 1) (by decide) (v := 2) rfl, bnP_1]
      refine mp_pre f2 ?_
      by_cases z : tkK f e (tkX f e (tkX f e p)) = 1
      · have hwd := tk_wd g2.1.2.1 z
        have hbb := tk_b (f := f) g2.1.2.1
        rw [if_pos z, decide_eq_true z, if_pos rfl, bnS_1, mk_I h, bnP_1, mg_17 g2, if_pos rfl, mk_I h, bnP_1, mk_I h, bnP_1, bnP_1, g2.2.1.2.2.1, g2.2.1.2.1, nI_sub (by omega), m_interlinesAt h hw e82 qo (l := fun k => lf f (tkS f e (tkX f e (tkX f e p)) + k)) (by omega) y (by omega) (by have := g2.1.1; omega) (fun k hk => by rw [g2.1.2.2 _ (by omega)]; exact hwd.2.2 k hk), bnP_1, bnS_1]
        exact mp_pre (mf_81 fun j hj => by
          show intN N (opW N v) _ _ j = G2 (80 + 1) j
          rw [e82]
          exact int_o (by omega) (by omega) (by omega) (by omega)) (mp_fin h (mg_81 g2 (int_wf hw hg y)))
      · obtain ⟨G3, e3, f3, -, r3⟩ := m_flt h g2 (n := 1) (by decide) (by decide)
        refine mp_pre f3 ?_
        rw [if_neg z, decide_eq_false z, if_neg (by decide), show (1 : Int32) = nI 1 from rfl, e3, bnP_1, bnS_1, mk_I h, bnP_1, r3.2.1, if_neg (mr_0 r3), bnS_1]
        exact mp_err h r3
    · obtain ⟨G2, e2, f2, -, r2⟩ := m_flt h g1 (n := 3) (by decide) (by decide)
      refine mp_pre f2 ?_
      rw [if_neg y, if_pos (show nI (wN' N (opW N v)) = 4 by rw [show wN' N (opW N v) = 4 by omega]; rfl), show (3 : Int32) = nI 3 from rfl, e2, bnP_1, bnS_1]
      exact tail _ G2 _ r2
theorem ml_seal (h : MK σ 80) (g : MGd f e p N G) : MPo σ f e G (fX10_readsSeal (some 80) (wi σ G)) (lnSeal f e p N) := by
  have hw := g.2.2.1
  obtain ⟨G1, e1, f1, -, g1⟩ := m_go h g
  refine mp_pre f1 ?_
  unfold fX10_readsSeal lnSeal
  rw [mk_o h, bnP_1, e1, bnP_1]
  cases q : nmS f e (tkX f e p) 0 10 with
  | error x =>
    obtain ⟨G2, e2, f2, -, r2⟩ := m_num_bad h g1 (hb_n (n := 9) (by decide)) (by decide) q
    refine mp_pre f2 ?_
    rw [show fX10_number (some 80) 0 9 (wi σ G1) = _ from e2, bnS_1, m_nhE h r2, bnS_1, mk_I h, bnP_1, r2.2.1, if_neg (mr_0 r2), bnS_1, mk_I h, bnP_1, r2.2.1, if_neg (mr_le r2)]
    exact mp_er0 r2
  | ok v =>
    obtain ⟨G2, e2, f2, -, g2⟩ := m_num_ok h g1 (hb_n (n := 9) (by decide)) (by decide) q
    refine mp_pre f2 ?_
    rw [show fX10_number (some 80) 0 9 (wi σ G1) = _ from e2, bnS_1]
    show MPo σ f e G2 _ (match nmS f e (tkX f e (tkX f e p)) 0 100 with | .error x => _ | .ok w => _)
    cases q2 : nmS f e (tkX f e (tkX f e p)) 0 100 with
    | error x =>
      obtain ⟨G3, e3, f3, -, r3⟩ := m_nh_bad h g2 (hb_n (n := 99) (by decide)) (by decide) q2
      refine mp_pre f3 ?_
      rw [show fX10_numberHere (some 80) 0 99 (wi σ G2) = _ from e3, bnS_1, mk_I h, bnP_1, r3.2.1, if_neg (mr_0 r3), bnS_1, mk_I h, bnP_1, r3.2.1, if_neg (mr_le r3)]
      exact mp_er0 r3
    | ok w =>
      have e82 : G2 (80 + 1) = N := g2.2.2.2
      rw [show fX10_numberHere (some 80) 0 99 (wi σ G2) = _ from m_nh_ok h g2 (hb_n (n := 99) (by decide)) (by decide) q2, bnS_1, mk_I h, bnP_1, mg_17 g2, if_pos rfl, m_whySeal h (by rw [e82]; exact hw), bnP_1, e82]
      show MPo σ f e G2 _ (if sealQ N (nI v) (nI w) = 0 then _ else _)
      by_cases y : sealQ N (nI v) (nI w) = 0
      · have qo := sealQ_o y
        rw [if_pos y, if_pos y, bnS_1, mk_I h, bnP_1, mg_17 g2, if_pos (show (0 : Int32) ≤ 0 by decide), m_seals h hw e82 qo, bnS_1]
        exact mp_pre (mf_81 fun j hj => by
          have := w1_b hw.1
          show sealN N _ _ _ _ j = G2 (80 + 1) j
          rw [e82]
          exact sl_o (by omega) (by omega) (by omega) (by omega)) (mp_fin h (mg_81 g2 (sl_wf hw qo (Or.inl rfl))))
      · obtain ⟨G3, e3, f3, -, r3⟩ := m_flt h g2 (n := 3) (by decide) (by decide)
        refine mp_pre f3 ?_
        rw [if_neg y, if_neg y, show (3 : Int32) = nI 3 from rfl, e3, bnP_1, bnS_1, mk_I h, bnP_1, r3.2.1, if_neg (mr_le r3)]
        exact mp_er0 r3
theorem ml_cancel (h : MK σ 80) (g : MGd f e p N G) : MPo σ f e G (fX10_readsCancel (some 80) (wi σ G)) (lnCancel f e p N) := by
  have hw := g.2.2.1
  have hb := w1_b hw.1
  have e81 : G (80 + 1) = N := g.2.2.2
  unfold fX10_readsCancel lnCancel
  rw [mk_o h, bnP_1]
  by_cases q : isO N
  · have hp := q.1
    have eN : u1 N (9 + 9 * (nAc N - 1) + 1) 2 = sealN N 2 (N (11 + 9 * (nAc N - 1))) (N (13 + 9 * (nAc N - 1))) 0 := by
      funext j
      unfold u1 sealN
      by_cases z1 : j = 9 + 9 * (nAc N - 1) + 1
      · rw [if_pos z1, if_pos (by omega)]
      · rw [if_neg z1, if_neg (by omega)]
        by_cases z2 : j = 11 + 9 * (nAc N - 1)
        · rw [if_pos z2, z2]
        · rw [if_neg z2]
          by_cases z3 : j = 13 + 9 * (nAc N - 1)
          · rw [if_pos z3, z3]
          · rw [if_neg z3, Int32.add_zero, ite_self]
    have eo : fX10_openAct (some 80) (wi σ G) = some (nI (nAc N - 1)) := by
      have := m_openAct1 h (G := G) (by rw [e81]; exact hw.1) (by rw [e81]; exact q)
      rw [e81] at this
      exact this
    rw [if_pos (isOb_1 q), eo, bnP_1, if_neg (show ¬ nI (nAc N - 1) = -1 from nI_nO (by omega)), bnS_1, mk_I h, bnP_1, mg_17 g, if_pos rfl, eo, bnP_1, show fX10_putsAct (some 80) (nI (nAc N - 1)) 1 2 (wi σ G) = _ from m_putsAct h (nAc N - 1) 1 2 (by omega), bnP_1, bnS_1, show (80 + 1 : Nat) = 81 from rfl, up_is, show G 81 = N from e81, eN]
    exact mp_pre (mf_81 fun j hj => by
      show sealN N _ _ _ _ j = G (80 + 1) j
      rw [e81]
      exact sl_o (by omega) (by omega) (by omega) (by omega)) (mp_fin h (mg_81 g (sl_wf hw q (Or.inr rfl))))
  · obtain ⟨G2, e2, f2, -, r2⟩ := m_flt h g (n := 3) (by decide) (by decide)
    refine mp_pre f2 ?_
    rw [if_neg (fun z => q (isOb_t z)), m_openAct0 h (by rw [e81]; exact hw.1) (by rw [e81]; exact q), bnP_1, if_pos (show nO = -1 from rfl), show (3 : Int32) = nI 3 from rfl, e2, bnP_1, bnS_1, mk_I h, bnP_1, r2.2.1, if_neg (mr_0 r2), bnS_1]
    exact mp_err h r2
theorem ml_copy (h : MK σ 80) (g : MGd f e p N G) : MPo σ f e G (fX10_readsCopy (some 80) (wi σ G)) (lnCopy f e p N) := by
  have hw := g.2.2.1
  have hbb := w1_b hw.1
  have he := w1_e hw.1
  have e81 : G (80 + 1) = N := g.2.2.2
  unfold fX10_readsCopy lnCopy
  rw [mk_o h, bnP_1, mk_r1 h, bnP_1, show aI (wi σ G) (some (80 + 1)) 20 6 = _ from mk_a1 h (n := 6) (by decide), bnP_1, e81, he.2.2.2.2]
  by_cases z8 : nCp N = 8
  · obtain ⟨G2, e2, f2, f3, r2⟩ := m_flt h g (n := 4) (by decide) (by decide)
    refine mp_pre f2 ?_
    rw [if_pos z8, if_pos (show nI (nCp N) = 8 by rw [z8]; rfl), show (4 : Int32) = nI 4 from rfl, e2, bnP_1, bnS_1, m_goE h r2, bnP_1, mk_r1 h, bnP_1, show aI (wi σ G2) (some (80 + 1)) 20 3 = _ from mk_a1 h (n := 3) (by decide), bnP_1, m_numE h r2, bnS_1, m_nhE h r2, bnS_1, mk_I h, bnP_1, r2.2.1, if_neg (mr_0 r2), bnS_1, mk_I h, bnP_1, r2.2.1, if_neg (mr_0 r2), bnS_1]
    exact mp_err h r2
  · obtain ⟨G1, e1, f1, -, g1⟩ := m_go h g
    have e82 : G1 (80 + 1) = N := g1.2.2.2
    refine mp_pre f1 ?_
    rw [if_neg z8, if_neg (show ¬ nI (nCp N) = 8 from fun z => z8 ((nI_eq (b := 8) (by omega) (by decide)).mp z)), bnS_1, e1, bnP_1, mk_r1 h, bnP_1, show aI (wi σ G1) (some (80 + 1)) 20 3 = _ from mk_a1 h (n := 3) (by decide), bnP_1, e82, he.2.1]
    cases q : nmS f e (tkX f e p) 1 (nAc N + 1) with
    | error x =>
      obtain ⟨G2, e2, f2, -, r2⟩ := m_num_bad h g1 (hb_n (n := nAc N) (by omega)) (by decide) q
      refine mp_pre f2 ?_
      rw [show fX10_number (some 80) 1 (nI (nAc N)) (wi σ G1) = _ from e2, bnS_1, m_nhE h r2, bnS_1, mk_I h, bnP_1, r2.2.1, if_neg (mr_0 r2), bnS_1, mk_I h, bnP_1, r2.2.1, if_neg (mr_0 r2), bnS_1]
      exact mp_err h r2
    | ok v =>
      obtain ⟨G2, e2, f2, -, g2⟩ := m_num_ok h g1 (hb_n (n := nAc N) (by omega)) (by decide) q
      obtain ⟨-, -, q3, q4⟩ := nm_ok q
      refine mp_pre f2 ?_
      rw [show fX10_number (some 80) 1 (nI (nAc N)) (wi σ G1) = _ from e2, bnS_1]
      show MPo σ f e G2 _ (match nmS f e (tkX f e (tkX f e p)) 0 3 with | .error x => _ | .ok w => _)
      cases q2 : nmS f e (tkX f e (tkX f e p)) 0 3 with
      | error x =>
        obtain ⟨G3, e3, f3, -, r3⟩ := m_nh_bad h g2 (hb_n (n := 2) (by decide)) (by decide) q2
        refine mp_pre f3 ?_
        rw [show fX10_numberHere (some 80) 0 2 (wi σ G2) = _ from e3, bnS_1, mk_I h, bnP_1, r3.2.1, if_neg (mr_0 r3), bnS_1, mk_I h, bnP_1, r3.2.1, if_neg (mr_0 r3), bnS_1]
        exact mp_err h r3
      | ok w =>
        have e83 : G2 (80 + 1) = N := g2.2.2.2
        obtain ⟨-, -, -, r4⟩ := nm_ok q2
        obtain ⟨a, rfl⟩ : ∃ a, v = a + 1 := ⟨v - 1, by omega⟩
        have ea : nI (a + 1) - 1 = nI a := nI_pred a
        rw [show fX10_numberHere (some 80) 0 2 (wi σ G2) = _ from m_nh_ok h g2 (hb_n (n := 2) (by decide)) (by decide) q2, bnS_1, mk_I h, bnP_1, mg_17 g2, if_pos rfl, ea, m_whyCopy h (by rw [e83]; exact hw) (by rw [e83]; omega) r4, bnP_1, e83]
        show MPo σ f e G2 _ (if wcQ N (a + 1 - 1) w = 0 then _ else _)
        rw [Nat.add_sub_cancel]
        by_cases y : wcQ N a w = 0
        · have h8 := wcQ_8 hw y
          rw [if_pos y, if_pos y, bnS_1, mk_I h, bnP_1, mg_17 g2, if_pos rfl, m_copies h hw e83 h8, bnP_1, bnS_1]
          exact mp_pre (mf_81 fun j hj => by
            show adN N _ _ j = G2 (80 + 1) j
            rw [e83]
            exact ad_o (by omega) (by omega) (by omega) (by omega)) (mp_fin h (mg_81 g2 (ad_wf hw h8 (by omega) r4 (wcQ_0 y))))
        · obtain ⟨G3, e3, f3, -, r3⟩ := m_flt h g2 (n := 3) (by decide) (by decide)
          refine mp_pre f3 ?_
          rw [if_neg y, if_neg y, show (3 : Int32) = nI 3 from rfl, e3, bnP_1, bnS_1, mk_I h, bnP_1, r3.2.1, if_neg (mr_0 r3), bnS_1]
          exact mp_err h r3
theorem ml_shake (h : MK σ 80) (g : MGd f e p N G) : MPo σ f e G (fX10_readsShake (some 80) (wi σ G)) (lnShake f e p N) := by
  have hw := g.2.2.1
  obtain ⟨w2, n2, -, f2⟩ := sh_wf hw (nLv N) (Nat.le_refl _)
  unfold fX10_readsShake lnShake
  rw [mk_o h, bnP_1, m_shakes h hw g.2.2.2, bnS_1]
  exact mp_pre (mf_tr (mf_87 _ _) (mf_81 fun j hj => by
    rw [cw_b (by decide), g.2.2.2]
    exact f2 j (by have := nlv_12 hw.1; omega))) (mp_fin h (mg_81 (mg_87 g _) w2))
theorem m_leafHere (h : MK σ 80) (g : MGd f e p N G) : fX10_leafHere (some 80) (wi σ G) = fX10_numberHere (some 80) (nI 0) (nI (nLv N) - 1) (wi σ G) := by
  have e81 : G (80 + 1) = N := g.2.2.2
  unfold fX10_leafHere
  rw [mk_o h, bnP_1, m_leaves h (by rw [e81]; exact g.2.2.1.1), bnP_1, e81, bnS_id]
  rfl
theorem ml_lose (h : MK σ 80) (g : MGd f e p N G) : MPo σ f e G (fX10_readsLose (some 80) (wi σ G)) (lnLose f e p N) := by
  have hw := g.2.2.1
  have h12 := nlv_12 hw.1
  obtain ⟨G1, e1, f1, -, g1⟩ := m_go h g
  have e81 : G1 (80 + 1) = N := g1.2.2.2
  refine mp_pre f1 ?_
  unfold fX10_readsLose lnLose
  rw [mk_o h, bnP_1, e1, bnP_1, m_leafHere h g1]
  cases q : nmS f e (tkX f e p) 0 (nLv N) with
  | error x =>
    obtain ⟨G2, e2, f2, -, r2⟩ := m_nh_bad h g1 (hb_m (n := nLv N) (by omega)) (by decide) q
    refine mp_pre f2 ?_
    rw [e2, bnS_1, mk_I h, bnP_1, r2.2.1, if_neg (mr_0 r2), bnS_1, mk_I h, bnP_1, r2.2.1, if_neg (mr_0 r2), bnS_1]
    exact mp_err h r2
  | ok l =>
    have hl := (nm_ok q).2.2.2
    rw [m_nh_ok h g1 (hb_m (n := nLv N) (by omega)) (by decide) q, bnS_1, mk_I h, bnP_1, mg_17 g1, if_pos rfl, m_statusOf h l (by omega), bnP_1, e81]
    show MPo σ f e G1 _ (if N (99 + l) = 2 then _ else _)
    by_cases y : N (99 + l) = 2
    · obtain ⟨G2, e2, f2, -, r2⟩ := m_flt h g1 (n := 3) (by decide) (by decide)
      refine mp_pre f2 ?_
      rw [if_pos y, if_pos y, show (3 : Int32) = nI 3 from rfl, e2, bnP_1, bnS_1, mk_I h, bnP_1, r2.2.1, if_neg (mr_0 r2), bnS_1]
      exact mp_err h r2
    · have w0 := ls_lost (l := l) hw hl
      rw [if_neg y, if_neg y, bnS_1, mk_I h, bnP_1, mg_17 g1, if_pos rfl, m_loses h hw e81 hl, bnP_1, bnS_1]
      exact mp_pre (mf_81 fun j hj => by
        show lsN (lfN N l 2) l j = G1 (80 + 1) j
        rw [e81]
        exact w0.2.2.2.1 j (by omega)) (mp_fin h (mg_81 g1 w0.2.2.2.2))
theorem ml_find (h : MK σ 80) (g : MGd f e p N G) : MPo σ f e G (fX10_readsFind (some 80) (wi σ G)) (lnFind f e p N) := by
  have hw := g.2.2.1
  have h12 := nlv_12 hw.1
  obtain ⟨G1, e1, f1, -, g1⟩ := m_go h g
  have e81 : G1 (80 + 1) = N := g1.2.2.2
  refine mp_pre f1 ?_
  unfold fX10_readsFind lnFind
  rw [mk_o h, bnP_1, e1, bnP_1, m_leafHere h g1]
  cases q : nmS f e (tkX f e p) 0 (nLv N) with
  | error x =>
    obtain ⟨G2, e2, f2, -, r2⟩ := m_nh_bad h g1 (hb_m (n := nLv N) (by omega)) (by decide) q
    refine mp_pre f2 ?_
    rw [e2, bnS_1, mk_I h, bnP_1, r2.2.1, if_neg (mr_0 r2), bnS_1, mk_I h, bnP_1, r2.2.1, if_neg (mr_0 r2), bnS_1]
    exact mp_err h r2
  | ok l =>
    have hl := (nm_ok q).2.2.2
    rw [m_nh_ok h g1 (hb_m (n := nLv N) (by omega)) (by decide) q, bnS_1, mk_I h, bnP_1, mg_17 g1, if_pos rfl, m_statusOf h l (by omega), bnP_1, e81]
    show MPo σ f e G1 _ (if N (99 + l) = 2 then _ else _)
    by_cases y : N (99 + l) = 2
    · have w0 := bm_wf (l := l) (lf_wf (x := 0) hw hl (Or.inl rfl))
      rw [if_pos y, if_pos y, bnS_1, mk_I h, bnP_1, mg_17 g1, if_pos rfl, m_recovers h hw e81 hl, bnP_1, bnS_1]
      exact mp_pre (mf_81 fun j hj => by
        show bmN (lfN N l 0) l j = G1 (80 + 1) j
        rw [e81, w0.2.2.1 j (by rw [(lf_n2 (x := 0) hw hl).2]; omega)]
        exact lf_o (by omega)) (mp_fin h (mg_81 g1 w0.1))
    · obtain ⟨G2, e2, f2, -, r2⟩ := m_flt h g1 (n := 3) (by decide) (by decide)
      refine mp_pre f2 ?_
      rw [if_neg y, if_neg y, show (3 : Int32) = nI 3 from rfl, e2, bnP_1, bnS_1, mk_I h, bnP_1, r2.2.1, if_neg (mr_0 r2), bnS_1]
      exact mp_err h r2
theorem ml_sew (h : MK σ 80) (g : MGd f e p N G) : MPo σ f e G (fX10_readsSew (some 80) (wi σ G)) (lnSew f e p N) := by
  have hw := g.2.2.1
  have h12 := nlv_12 hw.1
  obtain ⟨G1, e1, f1, -, g1⟩ := m_go h g
  have e81 : G1 (80 + 1) = N := g1.2.2.2
  refine mp_pre f1 ?_
  unfold fX10_readsSew lnSew
  rw [mk_o h, bnP_1, e1, bnP_1, m_leafHere h g1]
  cases q : nmS f e (tkX f e p) 0 (nLv N) with
  | error x =>
    obtain ⟨G2, e2, f2, -, r2⟩ := m_nh_bad h g1 (hb_m (n := nLv N) (by omega)) (by decide) q
    refine mp_pre f2 ?_
    rw [e2, bnS_1, mk_I h, bnP_1, r2.2.1, if_neg (mr_0 r2), bnS_1, mk_I h, bnP_1, r2.2.1, if_neg (mr_0 r2), bnS_1]
    exact mp_err h r2
  | ok l =>
    have hl := (nm_ok q).2.2.2
    rw [m_nh_ok h g1 (hb_m (n := nLv N) (by omega)) (by decide) q, bnS_1, mk_I h, bnP_1, mg_17 g1, if_pos rfl, m_statusOf h l (by omega), bnP_1, e81]
    show MPo σ f e G1 _ (if N (99 + l) = 1 then _ else _)
    by_cases y : N (99 + l) = 1
    · rw [if_pos y, if_pos y, bnS_1, mk_I h, bnP_1, mg_17 g1, if_pos rfl, mk_r1 h, bnP_1, m_setLeaf h e81 (by omega), bnP_1, bnS_1]
      exact mp_pre (mf_81 fun j hj => by
        show lfN N l 0 j = G1 (80 + 1) j
        rw [e81]
        exact lf_o (by omega)) (mp_fin h (mg_81 g1 (lf_wf hw hl (Or.inl rfl))))
    · obtain ⟨G2, e2, f2, -, r2⟩ := m_flt h g1 (n := 3) (by decide) (by decide)
      refine mp_pre f2 ?_
      rw [if_neg y, if_neg y, show (3 : Int32) = nI 3 from rfl, e2, bnP_1, bnS_1, mk_I h, bnP_1, r2.2.1, if_neg (mr_0 r2), bnS_1]
      exact mp_err h r2
end MLN
