/-! THE PURE LEVEL, 110: BEGIN, the reference -/
def begQ (f : Nat → Int32) (e : Nat) (N : tN) (kd : Int32) : Option tN := match bdS f e (nAc N) (e + 1) (bgN N kd) 0 0 0 with
  | .ok r => if tkK f e r.1 = 0 then some r.2 else none
  | .error _ => none
def cbQ (N : tN) (v : Int32) : Bool := inR v (nI 0) (nI 2) && (!isOb N && decide (nAc N < 10))
section MBG
variable {σ : HpT} {G : Nat → Nat → Int32} {f : Nat → Int32} {E : tE} {I T : tI} {N : tN} {U : tU} {V : tV} {e : Nat} {kd : Int32}
theorem m_canBegin (h : MK σ 80) (hw : WFN N) (e81 : G 81 = N) (v : Int32) : fX10_canBegin (some 80) v (wi σ G) = some (cbQ N v) := by
  have hb := w1_b hw.1
  have e81' : G (80 + 1) = N := e81
  unfold fX10_canBegin cbQ
  rw [mk_o h, bnP_1, m_in, bnP_1, show inR v 0 2 = inR v (nI 0) (nI 2) from rfl]
  cases inR v (nI 0) (nI 2)
  · rfl
  · rw [if_pos rfl, Bool.true_and]
    by_cases q : isO N
    · have hp := q.1
      rw [m_openAct1 h (by rw [e81']; exact hw.1) (by rw [e81']; exact q), bnP_1, e81', if_neg (show ¬ nI (nAc N - 1) = -1 from nI_nO (by omega)), isOb_1 q]
      rfl
    · have hq : isOb N = false := by
        cases z : isOb N
        · rfl
        · exact absurd (isOb_t z) q
      rw [m_openAct0 h (by rw [e81']; exact hw.1) (by rw [e81']; exact q), bnP_1, if_pos (show nO = -1 from rfl), mk_r1 h, bnP_1, show aI (wi σ G) (some (80 + 1)) 20 3 = _ from mk_a1 h (n := 3) (by decide), bnP_1, e81', (w1_e hw.1).2.1, hq]
      by_cases z : nAc N < 10
      · rw [if_neg (show ¬ 10 ≤ nI (nAc N) from nI_ge (b := 10) z (by decide)), decide_eq_true z]
        rfl
      · rw [if_pos (show (10 : Int32) ≤ nI (nAc N) from nI_le (show 10 ≤ nAc N by omega) (by omega)), decide_eq_false z]
        rfl
theorem m_isRead (h : MK σ 80) (hw : WFN N) (hz : zr N) (ha : nAc N < 10) (he : e ≤ 600) (e81 : G 81 = N) (hf : ∀ k, k < e → G 86 k = f k) (kd : Int32) : ∃ D, fX10_isRead (some 80) kd (nI e) (wi σ G) = some ((begQ f e N kd).isSome, wi σ D) ∧ (∀ a, a ≠ 80 → a ≠ 81 → a ≠ 82 → a ≠ 87 → D a = G a) ∧ (∀ k, k < 12 ∨ 21 ≤ k → D 80 k = G 80 k) ∧ (∀ j, j < 6139 → D 82 j = N j) ∧ (∀ j, 6139 ≤ j → D 81 j = 0) ∧ ∀ N', begQ f e N kd = some N' → D 81 = N' ∧ BI N N' kd 0 0 ∧ nWd N < nWd N' := by
  generalize hA : up (up (up (up G 80 12 (nI e)) 80 13 0) 80 17 0) 80 18 nO = A
  have a80 : ∀ k, k < 12 ∨ 21 ≤ k → A 80 k = G 80 k := fun k hk => by rw [← hA, up_k (by omega), up_k (by omega), up_k (by omega), up_k (by omega)]
  have ao : ∀ a, a ≠ 80 → A a = G a := fun a ha => by rw [← hA, up_a ha, up_a ha, up_a ha, up_a ha]
  have a12 : A 80 12 = nI e := by rw [← hA, up_k (by decide), up_k (by decide), up_k (by decide), up_eq]
  have a13 : A 80 13 = 0 := by rw [← hA, up_k (by decide), up_k (by decide), up_eq]
  have a17 : A 80 17 = 0 := by rw [← hA, up_k (by decide), up_eq]
  obtain ⟨f1, e1, k1⟩ := m_thinks (σ := σ) (G := A) h
  generalize hC : cw A 82 f1 = C at *
  have c80 : C 80 = A 80 := by rw [← hC, cw_b (by decide)]
  have co : ∀ a, a ≠ 80 → a ≠ 82 → C a = G a := fun a h1 h2 => by rw [← hC, cw_b h2, ao a h1]
  have c82 : C 82 = f1 := by rw [← hC, cw_a]
  obtain ⟨u, e2, t1, q⟩ := m_goes (f := f) h he (G := C) (p := 0) (Nat.zero_le _) (by rw [c80]; exact a12) (by rw [c80]; exact a13) (by rw [c80]; exact a17) (fun k hk => by rw [co 86 (by decide) (by decide)]; exact hf k hk)
  have f2 : MFR C (cw C 80 u) := ⟨fun a a1 _ _ => cw_b a1, fun k hk => by rw [cw_a]; exact q k (by omega), fun _ _ => by rw [cw_a]; exact q 18 (by omega), fun _ => by rw [cw_a]; exact q 17 (by omega), fun _ _ => by rw [cw_b (by decide)]⟩
  have g1 : MGd f e 0 N (cw C 80 u) := ⟨⟨he, Nat.zero_le _, fun k hk => by rw [cw_b (by decide), co 86 (by decide) (by decide)]; exact hf k hk⟩, by rw [cw_a]; exact t1, hw, by rw [cw_b (by decide), co 81 (by decide) (by decide)]; exact e81⟩
  generalize cw C 80 u = C1 at *
  have b0 := bi_bg (kd := kd) hw ha rfl
  have hg : MG0 f e 0 (bgN N kd) (cw (cw C1 81 (bgN N kd)) 80 (u1 (u1 (C1 80) 19 0) 20 0)) := mg0_2 (mg_0 g1)
  have f3 : MFR C1 (cw (cw C1 81 (bgN N kd)) 80 (u1 (u1 (C1 80) 19 0) 20 0)) := mf_2 (fun j hj => by
    rw [g1.2.2.2]
    exact b0.1 j (by omega) (by omega) (by omega) (by have := w1_b hw.1; omega) (by omega) (by omega) (by omega)) _ _
  obtain ⟨C2, e3, f4, r3⟩ := m_body h hw ha (e + 1) _ _ 0 0 _ (by omega) b0 hg (by rw [cw_a, u1_k (by decide), u1_e]; rfl) (by rw [cw_a, u1_e]; rfl) FUEL (show e + 1 < 200000 by omega)
  have f5 : MFR C C2 := mf_tr f2 (mf_tr f3 f4)
  have fin : ∀ D, MFR C D → (∀ a, a ≠ 80 → a ≠ 81 → a ≠ 82 → a ≠ 87 → D a = G a) ∧ (∀ k, k < 12 ∨ 21 ≤ k → D 80 k = G 80 k) ∧ (∀ j, j < 6139 → D 82 j = N j) ∧ (∀ j, 6139 ≤ j → D 81 j = 0) := fun D fD => ⟨fun a h1 h2 h3 h4 => by rw [fD.1 a h1 h2 h4, co a h1 h3], fun k hk => by rw [fD.2.1 k hk, c80]; exact a80 k hk, fun j hj => by rw [fD.1 82 (by decide) (by decide) (by decide), c82, k1, if_pos hj, ao 81 (by decide), e81], fun j hj => by rw [fD.2.2.2.2 j hj, co 81 (by decide) (by decide), e81]; exact hz j hj⟩
  have head : fX10_isRead (some 80) kd (nI e) (wi σ G) = bnP (fX10_is (some 80) 1 (wi σ C2)) (fun x16 => bnS ((if x16 = true then some ((), wi σ C2) else bnP (fX10_faults (some 80) 1 (wi σ C2)) (fun s25 => some ((), s25)))) (fun (j18 : Unit) s26 => bnP (gI s26 (some 80) 10 17) (fun x27 => (if x27 = 0 then some (true, s26) else some (false, s26))))) := by
    unfold fX10_isRead
    rw [mk_o h, bnP_1, m_begins h, bnP_1, hA, e1, bnP_1, e2, bnP_1, m_addsAct h hw ha g1.2.2.2, bnS_1]
    unfold fX10_readsBody
    rw [mk_o h, bnP_1, mk_P h, bnP_1, mk_P h, bnP_1, up_is (cw C1 81 (bgN N kd)), up_cw, cw_b (by decide), e3, bnS_1, bnP_1]
  rw [head]
  unfold begQ
  cases qb : bdS f e (nAc N) (e + 1) (bgN N kd) 0 0 0 with
  | error x =>
    rw [qb] at r3
    have r3 : MER x C2 := r3
    dsimp only
    rw [m_isE h r3, bnP_1, if_neg (by decide), m_fltE h r3, bnP_1, bnS_1, mk_I h, bnP_1, r3.2.1, if_neg (mr_0 r3)]
    obtain ⟨z1, z2, z3, z4⟩ := fin C2 f5
    exact ⟨C2, rfl, z1, z2, z3, z4, fun N' h => by cases h⟩
  | ok r =>
    rw [qb] at r3
    obtain ⟨g3, b3, w3⟩ := r3
    dsimp only
    rw [m_isT0 h g3 (k := 0) (by decide) (v := 1) rfl, bnP_1]
    by_cases k0 : tkK f e r.1 = 0
    · obtain ⟨z1, z2, z3, z4⟩ := fin C2 f5
      rw [decide_eq_true k0, if_pos rfl, bnS_1, mk_I h, bnP_1, g3.2.1.2.2.2.2.2, if_pos rfl, if_pos k0]
      exact ⟨C2, rfl, z1, z2, z3, z4, fun N' h => by
        cases h
        exact ⟨g3.2.2, b3, w3⟩⟩
    · obtain ⟨C3, e4, f6, -, r4⟩ := m_flt0 h g3 (n := 1) (by decide) (by decide)
      obtain ⟨z1, z2, z3, z4⟩ := fin C3 (mf_tr f5 f6)
      rw [decide_eq_false k0, if_neg (by decide), show (1 : Int32) = nI 1 from rfl, e4, bnP_1, bnS_1, mk_I h, bnP_1, r4.2.1, if_neg (mr_0 r4), if_neg k0]
      exact ⟨C3, rfl, z1, z2, z3, z4, fun N' h => by cases h⟩
/-- refused before the text is read -/
theorem m_begin0 (hM : MR σ G E I N U V T) (hA : AW E I N U V T) (v1 v2 : Int32) (z : (decide (E.1 ≠ 0) && inR v2 (nI 0) (nI I.1) && cbQ N v1) = false) : fX10_begin (some 80) v1 v2 (wi σ G) = some (0, wi σ (up G 80 0 (thr (decide (E.1 ≠ 0)) (inR v2 (nI 0) (nI I.1)) (cbQ N v1 && decide (E.1 ≠ 0))))) := by
  have mk := hM.1
  have q6 := hM.2.1.1
  have e9 : G 80 9 = nI I.1 := hM.2.2.1.1
  have f81 := hM.2.2.2.1.1
  unfold fX10_begin
  rw [mk_o mk, bnP_1, mk_I mk, bnP_1, mk_I mk, bnP_1, e9, m_in, bnP_1, bnP_1, show inR v2 0 (nI I.1) = inR v2 (nI 0) (nI I.1) from rfl]
  by_cases hE : E.1 = 0
  · rw [q6, hE, if_pos rfl, bnP_1]
    dsimp only
    have := m_may3 (G := G) (q := inR v2 (nI 0) (nI I.1)) (r := false) mk (by rw [q6]; exact hA.1.1)
    rw [q6, hE] at this
    rw [show (0 : Int32) = bI false from rfl] at *
    rw [this, bnS_1, decide_eq_false (fun q => q rfl)]
    cases inR v2 (nI 0) (nI I.1) <;> cases cbQ N v1 <;> rfl
  · rw [q6, if_neg hE, m_canBegin mk (hA.2.1 hE) f81, bnP_1]
    have e3 : (if cbQ N v1 = true then some ((some 80 : Option Nat), E.1, bI (inR v2 (nI 0) (nI I.1)), (1 : Int32)) else some (some 80, E.1, bI (inR v2 (nI 0) (nI I.1)), 0)) = some (some 80, E.1, bI (inR v2 (nI 0) (nI I.1)), bI (cbQ N v1)) := by
      cases cbQ N v1 <;> rfl
    have := m_may3 (G := G) (q := inR v2 (nI 0) (nI I.1)) (r := cbQ N v1) mk (by rw [q6]; exact hA.1.1)
    rw [q6] at this
    rw [e3, bnP_1]
    dsimp only
    rw [this, bnS_1, z, if_neg (by decide), decide_eq_true hE, Bool.and_true]
/-- the text is read -/
theorem m_begin1 (hM : MR σ G E I N U V T) (hA : AW E I N U V T) (hS : hN σ ≤ BIG) (hE : E.1 ≠ 0) (he : e ≤ I.1) {v1 : Int32} (hc : cbQ N v1 = true) : match begQ I.2 e N v1 with
    | none => ∃ G', fX10_begin (some 80) v1 (nI e) (wi σ G) = some (0, wi σ G') ∧ G' 80 0 = 3 ∧ MR σ G' E I N U V T ∧ ∀ a, (a < 80 ∨ 89 ≤ a) → G' a = G a
    | some N' => ∃ G', fX10_begin (some 80) v1 (nI e) (wi σ G) = some (N' 3, wi σ G') ∧ G' 80 0 = 0 ∧ MR σ G' E (0, I.2) N' (pushU U N) V T ∧ ∀ a, (a < 80 ∨ 89 ≤ a) → G' a = G a := by
  have mk := hM.1
  have q6 := hM.2.1.1
  have e9 : G 80 9 = nI I.1 := hM.2.2.1.1
  have f81 := hM.2.2.2.1.1
  have fz := hM.2.2.2.1.2
  have hw := hA.2.1 hE
  have h600 := hA.1.2.1
  have ha : nAc N < 10 := by
    unfold cbQ at hc
    rw [Bool.and_eq_true, Bool.and_eq_true] at hc
    exact of_decide_eq_true hc.2.2
  have hin : inR (nI e) (nI 0) (nI I.1) = true := by
    rw [inR_nI (by omega) (by decide) (by omega), decide_eq_true (Nat.zero_le e), decide_eq_true he]
    rfl
  have emay := m_may3 (G := G) (q := true) (r := true) mk (by rw [q6]; exact hA.1.1)
  rw [q6, decide_eq_true hE] at emay
  obtain ⟨D, d1, d2, d3, d4, d5, d6⟩ := m_isRead (σ := σ) (G := up G 80 0 0) (f := I.2) mk hw fz ha (e := e) (by omega) (by rw [up_a (by decide)]; exact f81) (fun k hk => by rw [up_a (by decide)]; exact hM.2.2.1.2 k (by omega)) v1
  obtain ⟨f2, b1, b2⟩ := m_backs (σ := σ) (G := D) mk (D 81 3)
  have hf2 : f2 = N := by
    funext j
    rw [b2]
    by_cases z : j < 6139
    · rw [if_pos z, d4 j z]
    · rw [if_neg z, d5 j (by omega), fz j (by omega)]
  rw [hf2] at b1
  have d80 : ∀ k, k ≠ 0 → (k < 12 ∨ 21 ≤ k) → D 80 k = G 80 k := fun k h0 hk => by rw [d3 k hk, up_k h0]
  have dO : ∀ a, a ≠ 80 → a ≠ 81 → a ≠ 82 → a ≠ 87 → D a = G a := fun a h1 h2 h3 h4 => by rw [d2 a h1 h2 h3 h4, up_a h1]
  have head : fX10_begin (some 80) v1 (nI e) (wi σ G) = bnS (fX10_may (some 80) 1 1 (bI (begQ I.2 e N v1).isSome) (wi σ (cw D 81 N))) (fun x29 s31 => (if x29 = true then bnP (fX10_remembers (some 80) s31) (fun s34 => bnS (fX10_isRead (some 80) v1 (nI e) s34) (fun x35 s37 => bnP (pI s37 (some 80) 10 9 0) (fun s40 => some (D 81 3, s40)))) else some (0, s31))) := by
    unfold fX10_begin
    rw [mk_o mk, bnP_1, mk_I mk, bnP_1, mk_I mk, bnP_1, e9, m_in, bnP_1, bnP_1, show inR (nI e) 0 (nI I.1) = true from hin, q6, if_neg hE, m_canBegin mk hw f81, bnP_1, hc, if_pos rfl, bnP_1]
    dsimp only
    rw [show fX10_may (some 80) E.1 (bI true) 1 (wi σ G) = _ from emay, bnS_1, if_pos (show (true && true && true) = true from rfl), show thr true true true = 0 from rfl, d1, bnS_1, mk_r1 mk, bnP_1, show aI (wi σ D) (some (80 + 1)) 20 3 = _ from mk_a1 mk (n := 3) (by decide), bnP_1, show D (80 + 1) 3 = D 81 3 from rfl, b1, bnS_1]
  have em2 : ∀ bb : Bool, fX10_may (some 80) 1 1 (bI bb) (wi σ (cw D 81 N)) = some (true && true && bb, wi σ (up (cw D 81 N) 80 0 (thr true true bb))) := fun bb => m_may mk true true bb
  have frm : ∀ x, MR σ (up (cw D 81 N) 80 0 x) E I N U V T := fun x => mr_frame hM (fun k hk => by rw [up_k (by omega), cw_b (by decide)]; exact d80 k (by omega) (by omega)) (fun a ha => by
    by_cases z : a = 81
    · subst z
      rw [up_a (by decide), cw_a, f81]
    · rw [up_a (by omega), cw_b z]
      exact dO a (by omega) z (by omega) (by omega))
  cases qb : begQ I.2 e N v1 with
  | none =>
    rw [qb] at head
    refine ⟨up (cw D 81 N) 80 0 3, ?_, up_eq _ _ _ _, frm 3, fun a ha => by rw [up_a (by omega), cw_b (by omega)]; exact dO a (by omega) (by omega) (by omega) (by omega)⟩
    rw [head, show (none : Option tN).isSome = false from rfl, em2, bnS_1, if_neg (by decide)]
    rfl
  | some N' =>
    rw [qb] at head
    obtain ⟨n1, n2, n3⟩ := d6 N' qb
    have m2 := frm 0
    obtain ⟨eR, hf⟩ := m_remembers m2 hA
    have m4 := mr_push m2 hf
    generalize hf0 : remF U N (up (cw D 81 N) 80 0 0 83) = fR at eR m4
    generalize hG1 : up (cw (up (cw D 81 N) 80 0 0) 83 fR) 80 7 (nI (pushU U N).1) = G1 at eR m4
    have z0 : G1 80 0 = 0 := by rw [← hG1, up_k (by decide), cw_b (by decide), up_eq]
    have oa : ∀ a, a ≠ 80 → a ≠ 81 → a ≠ 82 → a ≠ 83 → a ≠ 87 → G1 a = G a := fun a h0 h1 h2 h3 h4 => by rw [← hG1, up_a h0, cw_b h3, up_a h0, cw_b h1]; exact dO a h0 h1 h2 h4
    obtain ⟨D2, p1, p2, p3, p4, p5, p6⟩ := m_isRead (σ := σ) (G := G1) (f := I.2) mk hw fz ha (e := e) (by omega) m4.2.2.2.1.1 (fun k hk => m4.2.2.1.2 k (by omega)) v1
    obtain ⟨n4, -, -⟩ := p6 N' qb
    have nz : zr N' := bi_z n2 hw ha fz
    have i3 := mr_in (I' := (0, I.2)) m4 (G' := cw (up G1 80 9 0) 81 N) (fun k hk => by rw [cw_b (by decide), up_k (by omega)]) (by rw [cw_b (by decide), up_eq]; rfl) (fun k hk => absurd hk (Nat.not_lt_zero _)) (fun a ha => by
      by_cases z : a = 81
      · subst z
        rw [cw_a]
        exact m4.2.2.2.1.1.symm
      · rw [cw_b z, up_a (by omega)])
    have hfin : MR σ (up D2 80 9 0) E (0, I.2) N' (pushU U N) V T := by
      obtain ⟨mk', ⟨y1, y2, y3⟩, ⟨y4, y5⟩, -, ⟨y6, y7⟩, y8, ⟨y9, y10⟩⟩ := m4
      have k80 : ∀ k, k ≠ 9 → (k < 12 ∨ 21 ≤ k) → up D2 80 9 0 80 k = G1 80 k := fun k h9 hk => by rw [up_k h9]; exact p3 k hk
      have kO : ∀ a, a ≠ 80 → a ≠ 81 → a ≠ 82 → a ≠ 87 → up D2 80 9 0 a = G1 a := fun a h0 h1 h2 h3 => by rw [up_a h0]; exact p2 a h0 h1 h2 h3
      refine ⟨mk', ⟨by rw [k80 6 (by decide) (by decide)]; exact y1, by rw [k80 10 (by decide) (by decide)]; exact y2, by rw [k80 11 (by decide) (by decide)]; exact y3⟩, ⟨by rw [up_eq]; rfl, fun k hk => absurd hk (Nat.not_lt_zero _)⟩, ⟨by rw [up_a (by decide)]; exact n4, nz⟩, ⟨by rw [k80 7 (by decide) (by decide)]; exact y6, fun k hk => by rw [kO 83 (by decide) (by decide) (by decide) (by decide)]; exact y7 k hk⟩, fun k hk => by rw [kO 85 (by decide) (by decide) (by decide) (by decide), kO 84 (by decide) (by decide) (by decide) (by decide)]; exact y8 k hk, ⟨by rw [k80 23 (by decide) (by decide)]; exact y9, fun k hk => by rw [kO 88 (by decide) (by decide) (by decide) (by decide)]; exact y10 k hk⟩⟩
    refine ⟨up D2 80 9 0, ?_, ?_, hfin, fun a ha => by rw [up_a (by omega), p2 a (by omega) (by omega) (by omega) (by omega)]; exact oa a (by omega) (by omega) (by omega) (by omega) (by omega)⟩
    · rw [head, show (some N' : Option tN).isSome = true from rfl, em2, bnS_1, if_pos (show (true && true && true) = true from rfl), show thr true true true = 0 from rfl, eR, bnP_1, p1, bnS_1, mk_P mk, bnP_1, n1]
    · rw [up_k (by decide), p3 0 (by decide)]
      exact z0
end MBG
