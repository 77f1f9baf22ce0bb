/-! THE PURE LEVEL, 93: the reference reads an act's line -/
def kdS (f : Nat → Int32) (e p : Nat) : Option Nat := if kw f e p 3 = true then some 0 else if kw f e p 4 = true then some 1 else if kw f e p 5 = true then some 2 else none
def lnAct (f : Nat → Int32) (e p : Nat) (N : tN) : PRes := if isOb N = true then .error (3, tkS f e p) else if nAc N = 10 then .error (4, tkS f e p) else match kdS f e (tkX f e p) with
  | none => .error (1, tkS f e (tkX f e p))
  | some k => bdS f e (nAc N) (e + 1) (bgN N (nI k)) (tkX f e (tkX f e p)) 0 0
section MAC
variable {σ : HpT} {G : Nat → Nat → Int32} {f : Nat → Int32} {e p n : Nat} {N0 N N' M R : tN} {kd lo hi x y : Int32} {cur d cur' d' a l W : Nat}
theorem mg0_2 (g : MG0 f e p N G) : MG0 f e p N' (cw (cw G 81 N') 80 (u1 (u1 (G 80) 19 x) 20 y)) := by
  obtain ⟨⟨h1, h2, h3⟩, ⟨t1, t2, t3, t4, t5, t6⟩, e81⟩ := g
  refine ⟨⟨h1, h2, fun k hk => by rw [cw_b (by decide), cw_b (by decide)]; exact h3 k hk⟩, ?_, by rw [cw_b (by decide), cw_a]⟩
  rw [cw_a]
  refine ⟨?_, ?_, ?_, ?_, fun q => ?_, ?_⟩
  · rw [u1_k (by decide), u1_k (by decide)]
    exact t1
  · rw [u1_k (by decide), u1_k (by decide)]
    exact t2
  · rw [u1_k (by decide), u1_k (by decide)]
    exact t3
  · rw [u1_k (by decide), u1_k (by decide)]
    exact t4
  · rw [u1_k (by decide), u1_k (by decide)]
    exact t5 q
  · rw [u1_k (by decide), u1_k (by decide)]
    exact t6
theorem bi_zz {kd2 : Int32} {c1 d1 c2 d2 j : Nat} (hw : WFN N0) (ha : nAc N0 < 10) (b1 : BI N0 N kd c1 d1) (b2 : BI N0 M kd2 c2 d2) (hj : 6139 ≤ j) : N j = M j := by
  have hb := w1_b hw.1
  rw [b1.1 j (by omega) (by omega) (by omega) (by omega) (by omega) (by omega) (by omega), b2.1 j (by omega) (by omega) (by omega) (by omega) (by omega) (by omega) (by omega)]
theorem mf_2 {G : Nat → Nat → Int32} {N' : tN} (hz : ∀ j, 6139 ≤ j → N' j = G 81 j) (x y : Int32) : MFR G (cw (cw G 81 N') 80 (u1 (u1 (G 80) 19 x) 20 y)) := ⟨fun a a1 a2 _ => by rw [cw_b a1, cw_b a2], fun k hk => by rw [cw_a, u1_k (by omega), u1_k (by omega)], fun _ _ => by rw [cw_a, u1_k (by decide), u1_k (by decide)], fun _ => by rw [cw_a, u1_k (by decide), u1_k (by decide)], fun j hj => by rw [cw_b (by decide), cw_a]; exact hz j hj⟩
theorem mg0_81 (g : MG0 f e p N G) : MG0 f e p N' (cw G 81 N') := ⟨⟨g.1.1, g.1.2.1, fun k hk => by rw [cw_b (by decide)]; exact g.1.2.2 k hk⟩, by rw [cw_b (by decide)]; exact g.2.1, cw_a _ _ _⟩
theorem m_item (h : MK σ 80) (hw : WFN N0) (ha : nAc N0 < 10) (b : BI N0 N kd cur d) (g : MG0 f e p N G) (g19 : G 80 19 = nI cur) (g20 : G 80 20 = nI d) : ∃ G', fX10_readsItem (some 80) (nI (nAc N0)) (wi σ G) = some (wi σ G') ∧ MFR G G' ∧ (match itS f e (nAc N0) N p cur d with
    | .error x => MER x G'
    | .ok r => MG0 f e (tkX f e p) r.1 G' ∧ G' 80 19 = nI r.2.1 ∧ G' 80 20 = nI r.2.2) := by
  have hb := bi_b hw b
  have hb0 := w1_b hw.1
  have hrm := (bi_rm hw b).1
  have hc := bi_cur b
  have n4 := b.2.1.2.1
  have h12 := b.2.1.2.2.2.2
  have e81 : G 81 = N := g.2.2
  have e81' : G (80 + 1) = N := e81
  have g17 : G 80 17 = 0 := g.2.1.2.2.2.2.2
  have er : ∀ {n : Nat}, 0 < n → n < 5 → ∃ G', fX10_faults (some 80) (nI n) (wi σ G) = some (wi σ G') ∧ MFR G G' ∧ (∀ a, a ≠ 80 → G' a = G a) ∧ MER (n, tkS f e p) G' := fun h0 h5 => m_flt0 h g h0 h5
  unfold fX10_readsItem itS
  rw [mk_o h, bnP_1, m_isT0 h g (k := 1) (by decide) (v := 2) rfl, bnP_1]
  by_cases z1 : tkK f e p = 1
  · have e12 : (12 : Int32) * nI (nRm N0) = nI (12 * nRm N0) := by
      show nI 12 * nI (nRm N0) = _
      rw [pk_mul]
    have em0 : N 0 = nI (nRm N0) := by rw [(bi_rm hw b).2.2.1]; exact (w1_e hw.1).1
    rw [if_pos z1, decide_eq_true z1, if_pos rfl, mk_r1 h, bnP_1, show aI (wi σ G) (some (80 + 1)) 20 4 = _ from mk_a1 h (n := 4) (by decide), bnP_1, bnP_1, show aI (wi σ G) (some (80 + 1)) 20 0 = _ from mk_a1 h (n := 0) (by decide), bnP_1, e81', n4, em0, e12, hrm]
    by_cases y : nWd N = 12 * nRm N0
    · obtain ⟨G2, e2, f2, -, r2⟩ := er (n := 4) (by decide) (by decide)
      rw [if_pos y, if_pos (congrArg nI y), show (4 : Int32) = nI 4 from rfl, e2, bnP_1, bnS_1, mk_I h, bnP_1, r2.2.1, if_neg (mr_0 r2), bnS_1, m_goE h r2, bnP_1]
      exact ⟨G2, rfl, f2, r2⟩
    · have hg : MG0 f e p (adW N (nAc N0) cur (wLo f e p) (wHi f e p)) (cw G 81 (adW N (nAc N0) cur (wLo f e p) (wHi f e p))) := mg0_81 g
      obtain ⟨G2, e2, f2, f3, g2, q19, q20⟩ := m_go0 h hg
      rw [if_neg y, if_neg (fun q => y ((nI_eq (by omega) (by omega)).mp q)), bnS_1, mk_I h, bnP_1, g17, if_pos rfl, m_addsWord h hw ha b g g19 z1 (by omega), bnP_1, bnS_1, e2, bnP_1]
      refine ⟨G2, rfl, mf_tr (mf_81 fun j hj => by
        rw [e81]
        exact bi_zz hw ha (bi_word hw ha b (by omega) (by omega)).1 b hj) f2, g2, ?_, ?_⟩
      · rw [q19, cw_b (by decide)]
        exact g19
      · rw [q20, cw_b (by decide)]
        exact g20
  · rw [if_neg z1, decide_eq_false z1, if_neg (by decide), m_isT0 h g (k := 4) (by decide) (v := 5) rfl, bnP_1]
    by_cases z4 : tkK f e p = 4
    · rw [if_pos z4, decide_eq_true z4, if_pos rfl]
      by_cases y : d = 4
      · obtain ⟨G2, e2, f2, -, r2⟩ := er (n := 4) (by decide) (by decide)
        have eo : fX10_opensClause (some 80) (nI (nAc N0)) (wi σ G) = some (wi σ G2) := by
          unfold fX10_opensClause
          rw [mk_o h, bnP_1, mk_I h, bnP_1, g20, if_pos (show nI d = 4 by rw [y]; rfl), show (4 : Int32) = nI 4 from rfl, e2, bnP_1, bnS_1, mk_I h, bnP_1, r2.2.1, if_neg (mr_le r2)]
        rw [if_pos y, eo, bnP_1, bnS_1, m_goE h r2, bnP_1]
        exact ⟨G2, rfl, f2, r2⟩
      · have hg : MG0 f e p (obN N (nAc N0) cur) (cw (cw G 81 (obN N (nAc N0) cur)) 80 (u1 (u1 (G 80) 19 (nI (nCl N + 1))) 20 (nI (d + 1)))) := mg0_2 g
        obtain ⟨G2, e2, f2, f3, g2, q19, q20⟩ := m_go0 h hg
        rw [if_neg y, m_opens h hw ha b e81 g17 g19 g20 (by omega), bnP_1, bnS_1, e2, bnP_1]
        refine ⟨G2, rfl, mf_tr (mf_2 (fun j hj => by
          rw [e81]
          exact bi_zz hw ha (bi_open hw ha b (by omega) (by omega)) b hj) _ _) f2, g2, ?_, ?_⟩
        · rw [q19, cw_a, u1_k (by decide), u1_e]
        · rw [q20, cw_a, u1_e]
    · rw [if_neg z4, decide_eq_false z4, if_neg (by decide), m_isT0 h g (k := 5) (by decide) (v := 6) rfl, bnP_1]
      by_cases z5 : tkK f e p = 5
      · rw [if_pos z5, decide_eq_true z5, if_pos rfl]
        obtain ⟨G2, e2, f2, -, r2⟩ := er (n := 1) (by decide) (by decide)
        have e2' : fX10_faults (some 80) 1 (wi σ G) = some (wi σ G2) := e2
        by_cases y : d = 0
        · have eo : fX10_closesClause (some 80) (wi σ G) = some (wi σ G2) := by
            unfold fX10_closesClause
            rw [mk_o h, bnP_1, mk_I h, bnP_1, mk_I h, bnP_1, g20, if_pos (show nI d = 0 by rw [y]; rfl), e2', bnP_1, bnS_1, mk_I h, bnP_1, r2.2.1, if_neg (mr_le r2)]
          rw [if_pos (Or.inl y), eo, bnP_1, bnS_1, m_goE h r2, bnP_1]
          exact ⟨G2, rfl, f2, r2⟩
        · obtain ⟨r, rfl⟩ := hc.2.1 y
          rw [Nat.add_sub_cancel]
          by_cases u : cF N r = nWd N
          · have eo : fX10_closesClause (some 80) (wi σ G) = some (wi σ G2) := by
              have hcl := b.2.2.2.1 r (by
                rcases b.2.2.2.2.2.1.2.2.2.2 with ⟨b1, -⟩ | ⟨p', b1, b2, b3, b4, b5⟩
                · omega
                · omega) (by omega)
              unfold fX10_closesClause
              rw [mk_o h, bnP_1, mk_I h, bnP_1, mk_I h, bnP_1, g20, g19, if_neg (show ¬ nI d = 0 from fun z => y ((nI_eq (b := 0) (by omega) (by decide)).mp z)), show nI (r + 1) - 1 = nI r from nI_pred r, show fX10_ofClause (some 80) (nI r) 0 (wi σ G) = some (G (80 + 1) (3247 + 3 * r)) from m_ofClause h r 0 (by omega), bnP_1, mk_r1 h, bnP_1, show aI (wi σ G) (some (80 + 1)) 20 4 = _ from mk_a1 h (n := 4) (by decide), bnP_1, e81', hcl.1, n4, if_pos (congrArg nI u), e2', bnP_1, bnS_1, mk_I h, bnP_1, r2.2.1, if_neg (mr_le r2)]
            rw [if_pos (Or.inr u), eo, bnP_1, bnS_1, m_goE h r2, bnP_1]
            exact ⟨G2, rfl, f2, r2⟩
          · have hg : MG0 f e p (cbN N r) (cw (cw G 81 (cbN N r)) 80 (u1 (u1 (G 80) 19 (nI (cA N r))) 20 (nI (d - 1)))) := mg0_2 g
            obtain ⟨G3, e3, f3, -, g3, q19, q20⟩ := m_go0 h hg
            rw [if_neg (fun q => q.elim y u), m_closes h hw ha b e81 g17 g19 g20 u, bnP_1, bnS_1, e3, bnP_1]
            refine ⟨G3, rfl, mf_tr (mf_2 (fun j hj => by
              rw [e81]
              exact bi_zz hw ha (bi_close hw ha b u).1 b hj) _ _) f3, g3, ?_, ?_⟩
            · rw [q19, cw_a, u1_k (by decide), u1_e]
            · rw [q20, cw_a, u1_e]
      · obtain ⟨G2, e2, f2, -, r2⟩ := er (n := 1) (by decide) (by decide)
        rw [if_neg z5, decide_eq_false z5, if_neg (by decide), show (1 : Int32) = nI 1 from rfl, e2, bnP_1, bnS_1, m_goE h r2, bnP_1]
        exact ⟨G2, rfl, f2, r2⟩
theorem m_bl (h : MK σ 80) (b : BI N0 N kd cur d) (ha : nAc N0 < 10) (g : MG0 f e p N G) (g20 : G 80 20 = nI d) (hd : d ≤ 4) : fX10_readsBody_l1 (some 80) (nI (nAc N0)) () (wi σ G) = if stopB f e (nAc N0) N p d then some (.inr (), wi σ G) else bnP (fX10_readsItem (some 80) (nI (nAc N0)) (wi σ G)) (fun s => some (.inl (), s)) := by
  have g17 : G 80 17 = 0 := g.2.1.2.2.2.2.2
  have e81' : G (80 + 1) = N := g.2.2
  unfold fX10_readsBody_l1
  rw [mk_I h, bnP_1, g17, if_pos rfl, mk_I h, bnP_1, g20]
  by_cases y : d = 0
  · rw [if_neg (show ¬ 0 < nI d by rw [y]; decide), show fX10_ofAct (some 80) (nI (nAc N0)) 6 (wi σ G) = _ from m_ofAct h (nAc N0) 6 (by omega), bnP_1, e81', show 9 + 9 * nAc N0 + 6 = 15 + 9 * nAc N0 by omega]
    by_cases y2 : N (15 + 9 * nAc N0) = 0
    · rw [if_pos y2, if_neg (fun q => q.2.1 y2)]
    · rw [if_neg y2, m_isT0 h g (k := 1) (by decide) (v := 2) rfl, bnP_1]
      by_cases z1 : tkK f e p = 1
      · rw [decide_eq_true z1, if_pos rfl, if_neg (fun q => q.2.2.1 z1)]
      · rw [decide_eq_false z1, if_neg (by decide), m_isT0 h g (k := 4) (by decide) (v := 5) rfl, bnP_1]
        by_cases z4 : tkK f e p = 4
        · rw [decide_eq_true z4, if_pos rfl, if_neg (fun q => q.2.2.2.1 z4)]
        · rw [decide_eq_false z4, if_neg (by decide), m_isT0 h g (k := 5) (by decide) (v := 6) rfl, bnP_1]
          by_cases z5 : tkK f e p = 5
          · rw [decide_eq_true z5, if_pos rfl, if_neg (fun q => q.2.2.2.2 z5)]
          · rw [decide_eq_false z5, if_neg (by decide), if_pos ⟨y, y2, z1, z4, z5⟩]
  · rw [if_pos (show 0 < nI d from nI_lt (a := 0) (by omega) (by omega)), if_neg (fun q => y q.1)]
theorem m_body (h : MK σ 80) (hw : WFN N0) (ha : nAc N0 < 10) : ∀ (n : Nat) (N : tN) (p cur d : Nat) (G : Nat → Nat → Int32), e - p < n → BI N0 N kd cur d → MG0 f e p N G → G 80 19 = nI cur → G 80 20 = nI d → ∀ F, n < F → ∃ G', lpS (fX10_readsBody_l1 (some 80) (nI (nAc N0))) F () (wi σ G) = some ((), wi σ G') ∧ MFR G G' ∧ (match bdS f e (nAc N0) n N p cur d with
    | .error x => MER x G'
    | .ok r => MG0 f e r.1 r.2 G' ∧ BI N0 r.2 kd 0 0 ∧ nWd N0 < nWd r.2) := by
  intro n
  induction n with
  | zero => exact fun N p cur d G hn => absurd hn (Nat.not_lt_zero _)
  | succ n ih =>
    intro N p cur d G hn b g g19 g20 F hF
    have hb := bi_b hw b
    have hc := bi_cur b
    obtain ⟨F, rfl⟩ : ∃ F', F = F' + 1 := ⟨F - 1, by omega⟩
    have hl := m_bl h b ha g g20 hb.2.2.1
    unfold bdS
    by_cases s : stopB f e (nAc N0) N p d
    · rw [if_pos s] at hl
      rw [if_pos s, lpS_e F hl]
      obtain rfl : d = 0 := s.1
      obtain rfl : cur = 0 := by
        by_cases z : cur = 0
        · exact z
        · exact absurd rfl (hc.2.2 z)
      refine ⟨G, rfl, mf_rf G, g, b, ?_⟩
      show nWd N0 < nWd N
      have := b.2.2.1.2.2.1
      by_cases z : nWd N = nWd N0
      · rw [z, Nat.sub_self] at this
        exact absurd this s.2.1
      · omega
    · rw [if_neg s] at hl
      obtain ⟨G1, e1, f1, r1⟩ := m_item h hw ha b g g19 g20
      rw [e1, bnP_1] at hl
      rw [if_neg s, lpS_s F hl]
      cases q : itS f e (nAc N0) N p cur d with
      | error x =>
        rw [q] at r1
        have r1 : MER x G1 := r1
        obtain ⟨F, rfl⟩ : ∃ F', F = F' + 1 := ⟨F - 1, by omega⟩
        have hl2 : fX10_readsBody_l1 (some 80) (nI (nAc N0)) () (wi σ G1) = some (.inr (), wi σ G1) := by
          unfold fX10_readsBody_l1
          rw [mk_I h, bnP_1, r1.2.1, if_neg (mr_0 r1)]
        rw [lpS_e F hl2]
        exact ⟨G1, rfl, f1, r1⟩
      | ok r =>
        obtain ⟨N', cur', d'⟩ := r
        rw [q] at r1
        obtain ⟨r1, r2, r3⟩ := r1
        obtain ⟨b1, hk0⟩ := bi_it hw ha b q
        have ht := tk_b (f := f) g.1.2.1
        have hm := ht.2.2.2.1 hk0
        have hlt : e - tkX f e p < n := by
          have h1 := ht.1
          clear hc hb b b1 ih
          omega
        obtain ⟨G2, e2, f2, q2⟩ := ih N' (tkX f e p) cur' d' G1 hlt b1 r1 r2 r3 F (by omega)
        exact ⟨G2, e2, mf_tr f1 f2, q2⟩
end MAC
