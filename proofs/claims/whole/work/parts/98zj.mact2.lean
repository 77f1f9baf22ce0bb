/-! THE PURE LEVEL, 94: the reference reads an act's line, a leaf's line, a line -/
def lnLine (f : Nat → Int32) (e p : Nat) (N : tN) : PRes := if kw f e p 2 = true then lnAct f e p N else if kw f e p 6 = true then lnStrike f e p N else if kw f e p 7 = true then lnOut f e p N else if kw f e p 8 = true then lnInsert f e p N else if kw f e p 9 = true then lnSeal f e p N else if kw f e p 10 = true then lnCancel f e p N else if kw f e p 11 = true then lnCopy f e p N else if kw f e p 12 = true then lnShake f e p N else lnLeaf f e p N
section MA2
variable {σ : HpT} {G : Nat → Nat → Int32} {f : Nat → Int32} {e p n : Nat} {N0 N N' M R : tN} {kd lo hi x y : Int32} {cur d cur' d' a l W : Nat}
theorem m_kw (h : MK σ 80) (hS : hN σ ≤ BIG) (g : MGd f e p N G) (i j : Nat) (hj : j < 60) (hk : (1 ≤ j ∧ j < 16) ∨ 45 ≤ j) (eb : byS j = byS i) : fX10_isWord (some 80) (some (BIG + j)) (wi σ G) = some (kw f e p i) := by
  unfold kw
  rw [← eb]
  exact m_isWord h hS g.1.1 g.1.2.1 g.2.1 g.1.2.2 hj (kw_ok j hj hk)
theorem m_kwE (h : MK σ 80) {x : Nat × Nat} (r : MER x G) (l : Option Nat) : fX10_isWord (some 80) l (wi σ G) = some false := m_isWord_err h r.1.1 (by have := r.1.2; omega) r.2.1 l
theorem m_kind (h : MK σ 80) (hS : hN σ ≤ BIG) (g : MGd f e p N G) : fX10_kindHere (some 80) (wi σ G) = some (match kdS f e p with | none => nO | some k => nI k) := by
  unfold fX10_kindHere kdS
  rw [mk_o h, bnP_1, m_kw h hS g 3 47 (by decide) (by decide) (by decide), bnP_1]
  cases kw f e p 3
  · rw [if_neg (by decide), if_neg (by decide), m_kw h hS g 4 48 (by decide) (by decide) (by decide), bnP_1]
    cases kw f e p 4
    · rw [if_neg (by decide), if_neg (by decide), m_kw h hS g 5 49 (by decide) (by decide) (by decide), bnP_1]
      cases kw f e p 5
      · rfl
      · rfl
    · rfl
  · rfl
theorem m_kindE (h : MK σ 80) {x : Nat × Nat} (r : MER x G) : fX10_kindHere (some 80) (wi σ G) = some (-1) := by
  unfold fX10_kindHere
  rw [mk_o h, bnP_1, m_kwE h r, bnP_1, if_neg (by decide), m_kwE h r, bnP_1, if_neg (by decide), m_kwE h r, bnP_1, if_neg (by decide)]
theorem kd_b {k : Nat} (q : kdS f e p = some k) : k < 3 := by
  unfold kdS at q
  split at q
  · cases q
    decide
  · split at q
    · cases q
      decide
    · split at q
      · cases q
        decide
      · cases q
theorem m_addsAct (h : MK σ 80) (hw : WFN N) (ha : nAc N < 10) (e81 : G 81 = N) (kd : Int32) : fX10_addsAct (some 80) kd (wi σ G) = some (nI (nAc N), wi σ (cw G 81 (bgN N kd))) := by
  have he := w1_e hw.1
  have hG : G = cw G 81 N := by rw [← e81, cw_self]
  have lp : lpS (fX10_addsAct_l1 (some 80) kd (nI (nAc N))) FUEL 0 (wi σ (cw G 81 N)) = some ((), wi σ (cw G 81 (fun j => if 9 + 9 * nAc N ≤ j ∧ j < 9 + 9 * nAc N + 9 then 0 else N j))) := by
    refine lpS_f 9 (fun k => nI k) (fun k => wi σ (cw G 81 (fun j => if 9 + 9 * nAc N ≤ j ∧ j < 9 + 9 * nAc N + k then 0 else N j))) rfl ?_ (by decide) (fun k hk => ?_) ?_
    · show wi σ (cw G 81 _) = wi σ (cw G 81 _)
      congr 2
      funext j
      rw [if_neg (by omega)]
    · unfold fX10_addsAct_l1
      rw [if_neg (show ¬ 9 ≤ nI k from nI_ge (b := 9) hk (by decide)), mP1 h _ _ _ (by omega), bnP_1, nI_a1]
      congr 4
      funext j
      unfold u1
      by_cases z : j = 9 + 9 * nAc N + k
      · rw [if_pos z, if_pos (by omega)]
      · rw [if_neg z]
        dsimp only
        by_cases y : 9 + 9 * nAc N ≤ j ∧ j < 9 + 9 * nAc N + k
        · rw [if_pos y, if_pos (by omega)]
        · rw [if_neg y, if_neg (by omega)]
    · unfold fX10_addsAct_l1
      rw [if_pos (show 9 ≤ nI 9 by decide)]
  unfold fX10_addsAct
  rw [mk_o h, bnP_1, hG, mk_r1 h, bnP_1, show aI (wi σ (cw G 81 N)) (some (80 + 1)) 20 3 = _ from mA1 h (n := 3) (by decide), bnP_1, he.2.1, lp, bnS_1]
  generalize hR0 : (fun j => if 9 + 9 * nAc N ≤ j ∧ j < 9 + 9 * nAc N + 9 then (0 : Int32) else N j) = R0
  have r0 : ∀ j, ¬ (9 + 9 * nAc N ≤ j ∧ j < 9 + 9 * nAc N + 9) → R0 j = N j := fun j hj => by
    rw [← hR0]
    exact if_neg hj
  rw [show fX10_putsAct (some 80) (nI (nAc N)) 0 kd (wi σ (cw G 81 R0)) = _ from mP1 h (nAc N) 0 _ (by omega), bnP_1, mk_r1 h, bnP_1, show aI (wi σ (cw G 81 (u1 R0 (9 + 9 * nAc N + 0) kd))) (some (80 + 1)) 20 4 = _ from mA1 h (n := 4) (by decide), bnP_1, u1_k (by omega), r0 4 (by omega), show fX10_putsAct (some 80) (nI (nAc N)) 5 (N 4) (wi σ (cw G 81 (u1 R0 (9 + 9 * nAc N + 0) kd))) = _ from mP1 h (nAc N) 5 _ (by omega), bnP_1, mk_r1 h, bnP_1, show aI (wi σ (cw G 81 (u1 (u1 R0 (9 + 9 * nAc N + 0) kd) (9 + 9 * nAc N + 5) (N 4)))) (some (80 + 1)) 20 5 = _ from mA1 h (n := 5) (by decide), bnP_1, u1_k (by omega), u1_k (by omega), r0 5 (by omega)]
  rw [show fX10_putsAct (some 80) (nI (nAc N)) 7 (N 5) (wi σ (cw G 81 (u1 (u1 R0 (9 + 9 * nAc N + 0) kd) (9 + 9 * nAc N + 5) (N 4)))) = _ from mP1 h (nAc N) 7 _ (by omega), bnP_1, mk_r1 h, bnP_1]
  generalize hR : u1 (u1 (u1 R0 (9 + 9 * nAc N + 0) kd) (9 + 9 * nAc N + 5) (N 4)) (9 + 9 * nAc N + 7) (N 5) = R
  have r3 : R 3 = nI (nAc N) := by rw [← hR, u1_k (by omega), u1_k (by omega), u1_k (by omega), r0 _ (by omega)]; exact he.2.1
  rw [show aI (wi σ (cw G 81 R)) (some (80 + 1)) 20 3 = _ from mA1 h (n := 3) (by decide), bnP_1, r3, nI_a1, show sI (wi σ (cw G 81 R)) (some (80 + 1)) 3 (nI (nAc N + 1)) = _ from mS1 h (n := 3) (by decide), bnP_1]
  have hfin : u1 R 3 (nI (nAc N + 1)) = bgN N kd := by
    funext j
    rw [← hR, ← hR0]
    unfold u1 bgN
    by_cases z3 : j = 3
    · rw [if_pos z3, if_neg (by omega), if_neg (by omega), if_neg (by omega), if_neg (by omega), if_pos z3]
    · rw [if_neg z3]
      by_cases z7 : j = 9 + 9 * nAc N + 7
      · rw [if_pos z7, if_neg (by omega), if_neg (by omega), if_pos (by omega)]
      · rw [if_neg z7]
        by_cases z5 : j = 9 + 9 * nAc N + 5
        · rw [if_pos z5, if_neg (by omega), if_pos (by omega)]
        · rw [if_neg z5]
          by_cases z0 : j = 9 + 9 * nAc N
          · rw [if_pos (show j = 9 + 9 * nAc N + 0 from z0), if_pos z0]
          · rw [if_neg (show ¬ j = 9 + 9 * nAc N + 0 from z0), if_neg z0, if_neg (show ¬ j = 14 + 9 * nAc N by omega), if_neg (show ¬ j = 16 + 9 * nAc N by omega)]
            dsimp only
            by_cases y : 9 + 9 * nAc N ≤ j ∧ j < 9 + 9 * nAc N + 9
            · rw [if_pos y, if_pos (by omega)]
            · rw [if_neg y, if_neg (by omega), if_neg z3]
  rw [hfin, cw_cw]
theorem ml_act (h : MK σ 80) (hS : hN σ ≤ BIG) (g : MGd f e p N G) : MPo σ f e G (fX10_readsAct (some 80) (wi σ G)) (lnAct f e p N) := by
  have hw := g.2.2.1
  have hb := w1_b hw.1
  have he := w1_e hw.1
  have e81 : G (80 + 1) = N := g.2.2.2
  have tail : ∀ (x : Nat × Nat) (G2 : Nat → Nat → Int32), MER x G2 → MPo σ f e G2 (bnP (fX10_goes (some 80) (wi σ G2)) (fun s27 => bnP (fX10_kindHere (some 80) s27) (fun x28 => bnS ((if x28 = (-1) then bnP (fX10_faults (some 80) 1 s27) (fun s37 => some ((), s37)) else some ((), s27))) (fun (j30 : Unit) s38 => bnP (fX10_goes (some 80) s38) (fun s41 => bnP (gI s41 (some 80) 10 17) (fun x42 => (if x42 = 0 then bnS (fX10_addsAct (some 80) x28 s41) (fun x44 s46 => bnP (fX10_readsBody (some 80) x44 s46) (fun s49 => some s49)) else some s41))))))) (.error x) := fun x G2 r => by
    rw [m_goE h r, bnP_1, m_kindE h r, bnP_1, if_pos rfl, m_fltE h r, bnP_1, bnS_1, m_goE h r, bnP_1, mk_I h, bnP_1, r.2.1, if_neg (mr_0 r)]
    exact mp_er0 r
  unfold fX10_readsAct lnAct
  rw [mk_o h, bnP_1]
  by_cases q : isO N
  · obtain ⟨G2, e2, f2, f3, r2⟩ := m_flt h g (n := 3) (by decide) (by decide)
    refine mp_pre f2 ?_
    have hp := q.1
    rw [if_pos (isOb_1 q), m_openAct1 h (by rw [e81]; exact hw.1) (by rw [e81]; exact q), bnP_1, e81, if_neg (show ¬ nI (nAc N - 1) = -1 from nI_nO (by omega)), show (3 : Int32) = nI 3 from rfl, e2, bnP_1, bnS_1, mk_r1 h, bnP_1, mk_a1 h (by decide), bnP_1]
    by_cases z : G2 (80 + 1) 3 = 10
    · rw [if_pos z, m_fltE h r2, bnP_1, bnS_1]
      exact tail _ G2 r2
    · rw [if_neg z, bnS_1]
      exact tail _ G2 r2
  · rw [if_neg (fun z => q (isOb_t z)), m_openAct0 h (by rw [e81]; exact hw.1) (by rw [e81]; exact q), bnP_1, if_pos (show nO = -1 from rfl), bnS_1, mk_r1 h, bnP_1, show aI (wi σ G) (some (80 + 1)) 20 3 = _ from mk_a1 h (n := 3) (by decide), bnP_1, e81, he.2.1]
    by_cases z10 : nAc N = 10
    · obtain ⟨G2, e2, f2, f3, r2⟩ := m_flt h g (n := 4) (by decide) (by decide)
      refine mp_pre f2 ?_
      rw [if_pos z10, if_pos (show nI (nAc N) = 10 by rw [z10]; rfl), show (4 : Int32) = nI 4 from rfl, e2, bnP_1, bnS_1]
      exact tail _ G2 r2
    · obtain ⟨G1, e1, f1, -, g1⟩ := m_go h g
      refine mp_pre f1 ?_
      rw [if_neg z10, if_neg (show ¬ nI (nAc N) = 10 from fun z => z10 ((nI_eq (b := 10) (by omega) (by decide)).mp z)), bnS_1, e1, bnP_1, m_kind h hS g1, bnP_1]
      cases qk : kdS f e (tkX f e p) with
      | none =>
        obtain ⟨G2, e2, f2, f3, r2⟩ := m_flt h g1 (n := 1) (by decide) (by decide)
        refine mp_pre f2 ?_
        dsimp only
        rw [if_pos (show nO = -1 from rfl), show (1 : Int32) = nI 1 from rfl, e2, bnP_1, bnS_1, m_goE h r2, bnP_1, mk_I h, bnP_1, r2.2.1, if_neg (mr_0 r2)]
        exact mp_er0 r2
      | some k =>
        have hk3 := kd_b qk
        obtain ⟨G2, e2, f2, -, g2⟩ := m_go h g1
        refine mp_pre f2 ?_
        dsimp only
        rw [if_neg (show ¬ nI k = -1 from nI_nO (by omega)), bnS_1, e2, bnP_1, mk_I h, bnP_1, mg_17 g2, if_pos rfl, m_addsAct h hw (by omega) g2.2.2.2, bnS_1]
        unfold fX10_readsBody
        rw [mk_o h, bnP_1, mk_P h, bnP_1, mk_P h, bnP_1, up_is (cw G2 81 (bgN N (nI k))), up_cw, cw_b (by decide)]
        have b0 := bi_bg (kd := nI k) hw (by omega) rfl
        have hg : MG0 f e (tkX f e (tkX f e p)) (bgN N (nI k)) (cw (cw G2 81 (bgN N (nI k))) 80 (u1 (u1 (G2 80) 19 0) 20 0)) := mg0_2 (mg_0 g2)
        obtain ⟨G3, e3, f3, r3⟩ := m_body h hw (by omega) (e + 1) _ _ 0 0 _ (by omega) b0 hg (by rw [cw_a, u1_k (by decide), u1_e]; rfl) (by rw [cw_a, u1_e]; rfl) FUEL (show e + 1 < 200000 by have := g.1.1; omega)
        rw [e3, bnS_1, bnP_1]
        refine ⟨G3, rfl, mf_tr (mf_2 (fun j hj => by
          rw [g2.2.2.2]
          exact b0.1 j (by omega) (by omega) (by omega) (by omega) (by omega) (by omega) (by omega)) _ _) f3, ?_⟩
        cases qb : bdS f e (nAc N) (e + 1) (bgN N (nI k)) (tkX f e (tkX f e p)) 0 0 with
        | error x =>
          rw [qb] at r3
          exact r3
        | ok r =>
          rw [qb] at r3
          exact mg_w r3.1 (bi_wf hw (by omega) r3.2.1 r3.2.2 q rfl hk3)
theorem ml_leaf (h : MK σ 80) (hS : hN σ ≤ BIG) (g : MGd f e p N G) (k12 : kw f e p 12 = false) : MPo σ f e G (fX10_readsLeafLine (some 80) (wi σ G)) (lnLeaf f e p N) := by
  unfold fX10_readsLeafLine lnLeaf
  rw [mk_o h, bnP_1, m_kw h hS g 13 56 (by decide) (by decide) (by decide), bnP_1]
  cases kw f e p 13
  · rw [if_neg (by decide), if_neg (by decide), m_kw h hS g 14 57 (by decide) (by decide) (by decide), bnP_1]
    cases kw f e p 14
    · rw [if_neg (by decide), if_neg (by decide), m_kw h hS g 15 58 (by decide) (by decide) (by decide), bnP_1]
      cases kw f e p 15
      · obtain ⟨G2, e2, f2, -, r2⟩ := m_flt h g (n := 1) (by decide) (by decide)
        rw [if_neg (by decide), if_neg (by decide), m_kw h hS g 12 59 (by decide) (by decide) (by decide), bnP_1, k12, if_neg (by decide), show (1 : Int32) = nI 1 from rfl, e2, bnP_1]
        exact ⟨G2, rfl, f2, r2⟩
      · rw [if_pos rfl, if_pos rfl]
        exact mp_id (ml_sew h g)
    · rw [if_pos rfl, if_pos rfl]
      exact mp_id (ml_find h g)
  · rw [if_pos rfl, if_pos rfl]
    exact mp_id (ml_lose h g)
theorem ml_leafS (h : MK σ 80) (hS : hN σ ≤ BIG) (g : MGd f e p N G) (k12 : kw f e p 12 = true) : MPo σ f e G (fX10_readsLeafLine (some 80) (wi σ G)) (lnShake f e p N) := by
  have k13 : kw f e p 13 = false := kw_x k12 (by decide) (by decide) (by decide)
  have k14 : kw f e p 14 = false := kw_x k12 (by decide) (by decide) (by decide)
  have k15 : kw f e p 15 = false := by
    cases q : kw f e p 15
    · rfl
    · have h1 := ((kwB_t _).mp k12).2.1
      have h2 := ((kwB_t _).mp q).2.1
      rw [h1] at h2
      exact absurd h2 (by decide)
  unfold fX10_readsLeafLine
  rw [mk_o h, bnP_1, m_kw h hS g 13 56 (by decide) (by decide) (by decide), bnP_1, k13, if_neg (by decide), m_kw h hS g 14 57 (by decide) (by decide) (by decide), bnP_1, k14, if_neg (by decide), m_kw h hS g 15 58 (by decide) (by decide) (by decide), bnP_1, k15, if_neg (by decide), m_kw h hS g 12 59 (by decide) (by decide) (by decide), bnP_1, k12, if_pos rfl]
  exact mp_id (ml_shake h g)
theorem ml_line (h : MK σ 80) (hS : hN σ ≤ BIG) (g : MGd f e p N G) : MPo σ f e G (fX10_readsLine (some 80) (wi σ G)) (lnLine f e p N) := by
  unfold fX10_readsLine lnLine
  rw [mk_o h, bnP_1, m_kw h hS g 2 46 (by decide) (by decide) (by decide), bnP_1]
  cases kw f e p 2
  · rw [if_neg (by decide), if_neg (by decide), m_kw h hS g 6 50 (by decide) (by decide) (by decide), bnP_1]
    cases kw f e p 6
    · rw [if_neg (by decide), if_neg (by decide), m_kw h hS g 7 51 (by decide) (by decide) (by decide), bnP_1]
      cases kw f e p 7
      · rw [if_neg (by decide), if_neg (by decide), m_kw h hS g 8 52 (by decide) (by decide) (by decide), bnP_1]
        cases kw f e p 8
        · rw [if_neg (by decide), if_neg (by decide), m_kw h hS g 9 53 (by decide) (by decide) (by decide), bnP_1]
          cases kw f e p 9
          · rw [if_neg (by decide), if_neg (by decide), m_kw h hS g 10 54 (by decide) (by decide) (by decide), bnP_1]
            cases kw f e p 10
            · rw [if_neg (by decide), if_neg (by decide), m_kw h hS g 11 55 (by decide) (by decide) (by decide), bnP_1]
              cases kw f e p 11
              · rw [if_neg (by decide), if_neg (by decide)]
                cases k12 : kw f e p 12
                · rw [if_neg (by decide)]
                  exact mp_id (ml_leaf h hS g k12)
                · rw [if_pos rfl]
                  exact mp_id (ml_leafS h hS g k12)
              · rw [if_pos rfl, if_pos rfl]
                exact mp_id (ml_copy h g)
            · rw [if_pos rfl, if_pos rfl]
              exact mp_id (ml_cancel h g)
          · rw [if_pos rfl, if_pos rfl]
            exact mp_id (ml_seal h g)
        · rw [if_pos rfl, if_pos rfl]
          exact mp_id (ml_insert h g)
      · rw [if_pos rfl, if_pos rfl]
        exact mp_id (ml_out h g)
    · rw [if_pos rfl, if_pos rfl]
      exact mp_id (ml_strike h g)
  · rw [if_pos rfl, if_pos rfl]
    exact mp_id (ml_act h hS g)
end MA2
