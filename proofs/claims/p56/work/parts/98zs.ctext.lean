/-! THE PURE LEVEL, 103: the class reads a text -/
def CS0 (f : Nat → Int32) (e p : Nat) (G : Nat → Nat → Int32) (J : Nat → Nat → Int64) : Prop := (e ≤ 600 ∧ p ≤ e ∧ ∀ k, k < e → G 1 k = f k) ∧ SCN f e p (G 69) (J 69 6)
section CTX
variable {σ : HpT} {G G' G2 : Nat → Nat → Int32} {J J' J2 : Nat → Nat → Int64} {f : Nat → Int32} {e p c lo hi v : Nat} {N : tN} {x : Nat × Nat}
theorem c_step0 (h : PC σ c) (g : CS0 f e p G J) : ∃ G' J', fX7_step (some 69) (wc σ G J) = some (wc σ G' J') ∧ (∀ a, a ≠ 69 → G' a = G a ∧ J' a = J a) ∧ CS0 f e (tkX f e p) G' J' := by
  obtain ⟨⟨he, hp, hf⟩, s⟩ := g
  have hb := tk_b (f := f) hp
  obtain ⟨g, w, e1, s1⟩ := c_step h.1 he (p := tkX f e p) hb.2.2.1 s.1 s.2.1 hf
  refine ⟨_, _, e1, fun a ha => ⟨cw_b ha, upJ_a ha⟩, ⟨he, hb.2.2.1, fun k hk => by rw [cw_b (by decide)]; exact hf k hk⟩, ?_⟩
  rw [cw_a, upJ_eq]
  exact s1
theorem cs_num (h : PC σ c) (g : CS0 f e p G J) (hk : tkK f e p = 2) : gI (wc σ G J) (some 69) 7 5 = some (nI (tkV f e p)) := by
  rw [pk_I h.1, g.2.2.2.2.2.1 hk]
theorem cs_kind (h : PC σ c) (g : CS0 f e p G J) : gI (wc σ G J) (some 69) 7 3 = some (nI (tkK f e p)) := by
  rw [pk_I h.1, g.2.2.2.1]
theorem cs_in (g : CS0 f e p G J) (h1 : G' 1 = G 1) (h2 : G' 69 = G 69) : CS0 f e p G' J := ⟨⟨g.1.1, g.1.2.1, fun k hk => by rw [h1]; exact g.1.2.2 k hk⟩, by rw [h2]; exact g.2⟩
theorem c_cnn0 (h : PC σ c) (g : CS0 f e p G J) {H : Int32} (hH : HB H hi) (hlo : lo < 2 ^ 31) (q : nmS f e (tkX f e p) lo hi = .ok v) : ∃ G' J', fX5_checkNextNumber (some 68) (nI lo) H (wc σ G J) = some (true, wc σ G' J') ∧ (∀ a, a ≠ 69 → G' a = G a ∧ J' a = J a) ∧ CS0 f e (tkX f e p) G' J' ∧ gI (wc σ G' J') (some 69) 7 5 = some (nI v) ∧ v ≤ 99 := by
  obtain ⟨G', J', e1, e2, e3⟩ := c_step0 h g
  obtain ⟨k1, rfl, k3, k4⟩ := nm_ok q
  have hn := tk_nm e3.1.2.1 k1
  have en := cs_num h e3 k1
  refine ⟨G', J', ?_, e2, e3, en, hn.1⟩
  unfold fX5_checkNextNumber fX5_checkNumber
  rw [pc_o h, bnP_1, pc_s h, bnP_1, e1, bnP_1, pc_o h, bnP_1, pc_s h, bnP_1, cs_kind h e3, bnP_1, if_pos (show nI (tkK f e (tkX f e p)) = 2 by rw [k1]; rfl), bnP_1, en, bnP_1, if_neg (nI_nlt k3 (by omega)), bnP_1, en, bnP_1, if_pos ((hH _ hn.1).mpr k4), bnS_1]
theorem c_cnn_err0 (h : PC σ c) (g : CS0 f e p G J) {H : Int32} (hH : HB H hi) (hlo : lo < 2 ^ 31) (q : nmS f e (tkX f e p) lo hi = .error x) : ∃ G' J', fX5_checkNextNumber (some 68) (nI lo) H (wc σ G J) = some (false, wc σ G' J') ∧ PFR c G G' J J' ∧ G' 68 0 = nI x.1 ∧ G' 68 1 = nI x.2 := by
  obtain ⟨G', J', e1, e2, e3⟩ := c_step0 h g
  have h7 := tk_7 (f := f) (e := e) (p := tkX f e p)
  unfold fX5_checkNextNumber fX5_checkNumber
  rw [pc_o h, bnP_1, pc_s h, bnP_1, e1, bnP_1, pc_o h, bnP_1, pc_s h, bnP_1, cs_kind h e3, bnP_1]
  rcases nm_err q with ⟨k1, rfl⟩ | ⟨k1, k2, rfl⟩
  · obtain ⟨G2, f1, f2, f3, f4⟩ := c_fail (J := J') h 1 e3.2.2.2.2.1
    rw [if_neg (show ¬ nI (tkK f e (tkX f e p)) = 2 from fun z => k1 ((kI h7 (by decide)).mp z))]
    exact ⟨G2, J', by rw [show (1 : Int32) = nI 1 from rfl, f1, bnS_1, bnS_1], pf_tr (pf_69 e2) f2, f3, f4⟩
  · obtain ⟨G2, f1, f2, f3, f4⟩ := c_fail (J := J') h 2 e3.2.2.2.2.1
    have hn := tk_nm e3.1.2.1 k1
    have en := cs_num h e3 k1
    rw [if_pos (show nI (tkK f e (tkX f e p)) = 2 by rw [k1]; rfl), bnP_1, en, bnP_1]
    refine ⟨G2, J', ?_, pf_tr (pf_69 e2) f2, f3, f4⟩
    by_cases y : tkV f e (tkX f e p) < lo
    · rw [if_pos (nI_lt y hlo), show (2 : Int32) = nI 2 from rfl, f1, bnS_1, if_neg (by decide), bnS_1]
    · rw [if_neg (nI_nlt (by omega) (by omega)), bnP_1, en, bnP_1, if_neg (fun z => k2 ⟨by omega, (hH _ hn.1).mp z⟩), show (2 : Int32) = nI 2 from rfl, f1, bnS_1, if_neg (by decide), bnS_1]
theorem pf_bk {G2 : Nat → Nat → Int32} (h : ∀ a, a ≠ 68 → a ≠ 69 → (a < c ∨ c + 33 ≤ a) → G2 a = G a) : PFR c G G2 J J := fun a a1 a2 a3 => ⟨h a a1 a2 a3, rfl⟩
theorem c_head (h : PC σ c) (g : CS0 f e 0 G J) (z2 : G c 2 = 0 ∧ G c 3 = 0 ∧ G c 4 = 0 ∧ G c 5 = 0) (z3 : G (c + 3) 0 = 0) (z10 : G (c + 10) 1 = 0) : CPo σ f e c G J (fX5_readHead (some 68) (wc σ G J)) (hdS f e) := by
  have hc := h.2.2.2.2
  have B := pc_B h
  have ew : fX5_isAtWord (some 68) (some (BIG + 1)) (wc σ G J) = some (kw f e 0 1) := c_isAtWord h.1 h.2.1.1 h.2.1.2.1 h.2.2.1 g.1.2.1 g.2 (by decide) (kw_ok 1 (by decide) (by decide))
  unfold fX5_readHead hdS
  rw [pc_o h, bnP_1, ew, bnP_1]
  cases kw f e 0 1
  · rw [if_neg (by decide), if_neg (by decide)]
    obtain ⟨G', e1, e2, e3, e4⟩ := c_fail (J := J) h 1 g.2.2.2.2.1
    exact cp_id ⟨false, G', J, e1, e2, rfl, e3, e4⟩
  · rw [if_pos rfl, if_pos rfl]
    cases q1 : nmS f e (tkX f e 0) 4 21 with
    | error x =>
      obtain ⟨G', J', e1, e2, e3, e4⟩ := c_cnn_err0 h g (hb_n (n := 20) (by decide)) (by decide) q1
      refine ⟨false, G', J', ?_, e2, rfl, e3, e4⟩
      rw [show fX5_checkNextNumber (some 68) 4 20 (wc σ G J) = _ from e1, bnS_1, if_neg (by decide)]
    | ok r =>
      obtain ⟨G1, J1, e1, e2, g1, e4, -⟩ := c_cnn0 h g (hb_n (n := 20) (by decide)) (by decide) q1
      refine cp_pre (pf_69 e2) ?_
      have g1' : CS0 f e (tkX f e 0) (up G1 c 0 (nI r)) J1 := cs_in g1 (up_a (by omega)) (up_a (by omega))
      rw [show fX5_checkNextNumber (some 68) 4 20 (wc σ G J) = _ from e1, bnS_1, if_pos rfl, pc_b h, bnP_1, pc_s h, bnP_1, e4, bnP_1, bk_P B, bnP_1]
      refine cp_pre (pf_bk (G2 := up G1 c 0 (nI r)) (J := J1) (fun a _ _ h3 => up_a (by omega))) ?_
      dsimp only
      have k0 : up G1 c 0 (nI r) c 0 = nI r := up_eq _ _ _ _
      have kz : (up G1 c 0 (nI r) c 2 = 0 ∧ up G1 c 0 (nI r) c 3 = 0 ∧ up G1 c 0 (nI r) c 4 = 0 ∧ up G1 c 0 (nI r) c 5 = 0) ∧ up G1 c 0 (nI r) (c + 3) 0 = 0 ∧ up G1 c 0 (nI r) (c + 10) 1 = 0 := by
        rw [up_k (by decide), up_k (by decide), up_k (by decide), up_k (by decide), up_a (by omega), up_a (by omega), (e2 c (by omega)).1, (e2 (c + 3) (by omega)).1, (e2 (c + 10) (by omega)).1]
        exact ⟨z2, z3, z10⟩
      generalize up G1 c 0 (nI r) = G2 at *
      cases q2 : nmS f e (tkX f e (tkX f e 0)) 0 5 with
      | error x =>
        obtain ⟨G', J', e1, e2, e3, e4⟩ := c_cnn_err0 h g1' (hb_n (n := 4) (by decide)) (by decide) q2
        refine ⟨false, G', J', ?_, e2, rfl, e3, e4⟩
        rw [show fX5_checkNextNumber (some 68) 0 4 (wc σ G2 J1) = _ from e1, bnS_1, if_neg (by decide)]
      | ok t =>
        obtain ⟨G3, J3, d1, d2, g3, d4, -⟩ := c_cnn0 h g1' (hb_n (n := 4) (by decide)) (by decide) q2
        refine cp_pre (pf_69 d2) ?_
        have g3' : CS0 f e (tkX f e (tkX f e 0)) (up G3 c 1 (nI t)) J3 := cs_in g3 (up_a (by omega)) (up_a (by omega))
        rw [show fX5_checkNextNumber (some 68) 0 4 (wc σ G2 J1) = _ from d1, bnS_1, if_pos rfl, pc_b h, bnP_1, pc_s h, bnP_1, d4, bnP_1, bk_P B, bnP_1]
        refine cp_pre (pf_bk (G2 := up G3 c 1 (nI t)) (J := J3) (fun a _ _ h3 => up_a (by omega))) ?_
        dsimp only
        have l0 : up G3 c 1 (nI t) c 0 = nI r ∧ up G3 c 1 (nI t) c 1 = nI t := by
          rw [up_k (by decide), up_eq, (d2 c (by omega)).1]
          exact ⟨k0, rfl⟩
        have lz : (up G3 c 1 (nI t) c 2 = 0 ∧ up G3 c 1 (nI t) c 3 = 0 ∧ up G3 c 1 (nI t) c 4 = 0 ∧ up G3 c 1 (nI t) c 5 = 0) ∧ up G3 c 1 (nI t) (c + 3) 0 = 0 ∧ up G3 c 1 (nI t) (c + 10) 1 = 0 := by
          rw [up_k (by decide), up_k (by decide), up_k (by decide), up_k (by decide), up_a (by omega), up_a (by omega), (d2 c (by omega)).1, (d2 (c + 3) (by omega)).1, (d2 (c + 10) (by omega)).1]
          exact kz
        generalize up G3 c 1 (nI t) = G4 at *
        cases q3 : nmS f e (tkX f e (tkX f e (tkX f e 0))) 2 5 with
        | error x =>
          obtain ⟨G', J', e1, e2, e3, e4⟩ := c_cnn_err0 h g3' (hb_n (n := 4) (by decide)) (by decide) q3
          refine ⟨false, G', J', ?_, e2, rfl, e3, e4⟩
          rw [show fX5_checkNextNumber (some 68) 2 4 (wc σ G4 J3) = _ from e1, bnS_1, if_neg (by decide)]
        | ok qq =>
          obtain ⟨G5, J5, b1, b2, g5, b4, -⟩ := c_cnn0 h g3' (hb_n (n := 4) (by decide)) (by decide) q3
          refine cp_pre (pf_69 b2) ?_
          have g5' : CS0 f e (tkX f e (tkX f e (tkX f e 0))) (up G5 (c + 10) 0 (nI qq)) J5 := cs_in g5 (up_a (by omega)) (up_a (by omega))
          rw [show fX5_checkNextNumber (some 68) 2 4 (wc σ G4 J3) = _ from b1, bnS_1, if_pos rfl, pc_b h, bnP_1, bk_r9 B, bnP_1, pc_s h, bnP_1, b4, bnP_1, lk_P (bk_L B), bnP_1]
          refine cp_pre (pf_bk (G2 := up G5 (c + 10) 0 (nI qq)) (J := J5) (fun a _ _ h3 => up_a (by omega))) ?_
          dsimp only
          obtain ⟨G7, J7, a1, a2, g7⟩ := c_step0 h g5'
          unfold fX5_finishLine
          rw [pc_o h, bnP_1, pc_s h, bnP_1, a1, bnP_1, bnS_1]
          have hq1 := nm_ok q1
          have hq2 := nm_ok q2
          have hq3 := nm_ok q3
          obtain ⟨wf, nl, n0, n1, n2, no⟩ := nw_wf (r := r) (t := t) (q := qq) hq1.2.2.1 hq1.2.2.2 hq2.2.2.2 hq3.2.2.1 hq3.2.2.2
          have zA : nAc (nwN r t qq) = 0 := nv_n (n := 0) (no 3 (by decide)) (by decide)
          have zW : nWd (nwN r t qq) = 0 := nv_n (n := 0) (no 4 (by decide)) (by decide)
          have zP : nCp (nwN r t qq) = 0 := nv_n (n := 0) (no 6 (by decide)) (by decide)
          have ec : ∀ j, G7 c j = G4 c j := fun j => by rw [(a2 c (by omega)).1, up_a (by omega), (b2 c (by omega)).1]
          have e3 : G7 (c + 3) 0 = G4 (c + 3) 0 := by rw [(a2 (c + 3) (by omega)).1, up_a (by omega), (b2 (c + 3) (by omega)).1]
          have e10 : G7 (c + 10) 0 = nI qq ∧ G7 (c + 10) 1 = G4 (c + 10) 1 := by
            rw [(a2 (c + 10) (by omega)).1, up_eq, up_k (by decide), (b2 (c + 10) (by omega)).1]
            exact ⟨rfl, rfl⟩
          have rbz : RB G7 J7 c (nwN r t qq) := by
            refine ⟨⟨?_, ?_, ?_, ?_, ?_, ?_, ?_, ?_, ?_, fun a ha => by omega, fun l hl => by omega⟩, ⟨fun g hg => by omega, fun a ha => by omega⟩, fun k hk => by omega⟩
            · rw [ec, l0.1, n0]
            · rw [ec, l0.2, n1]
            · rw [ec, lz.1.1, no 3 (by decide)]
            · rw [ec, lz.1.2.1, no 6 (by decide)]
            · rw [ec, lz.1.2.2.1, no 7 (by decide)]
            · rw [ec, lz.1.2.2.2, no 8 (by decide)]
            · rw [e3, lz.2.1, no 4 (by decide)]
            · rw [e10.1, n2]
            · rw [e10.2, lz.2.2, nl]
              rfl
          exact ⟨true, G7, J7, rfl, pf_69 a2, rfl, g7.1, g7.2, wf, rbz⟩
theorem c_txt (h : PC σ c) : ∀ (n : Nat) (N : tN) (p cnt : Nat) (G : Nat → Nat → Int32) (J : Nat → Nat → Int64), e - p < n → CGd f e p c N G J → cnt ≤ p → ∀ F, n < F → ∃ b G' J', lpS (fX5_readText_l1 (some 68)) F (nI cnt) (wc σ G J) = some (.inr b, wc σ G' J') ∧ PFR c G G' J J' ∧ CRs f e c (txS f e n N p) b G' J' := by
  intro n
  induction n with
  | zero => exact fun N p cnt G J hn => absurd hn (Nat.not_lt_zero _)
  | succ n ih =>
    intro N p cnt G J hn g hcnt F hF
    obtain ⟨F, rfl⟩ : ∃ F', F = F' + 1 := ⟨F - 1, by omega⟩
    have he := g.1.1
    have hpe := g.1.2.1
    have h7 := tk_7 (f := f) (e := e) (p := p)
    have hb := tk_b (f := f) g.1.2.1
    have e2 : gI (wc σ G J) (some 69) 7 2 = some (nI e) := by rw [pk_I h.1, g.2.1.2.1]
    have hhead : ¬ nI e < nI cnt := nI_nlt (by omega) (by omega)
    have ekd := cg_kind h g
    have hx : ∀ {p' : Nat} {N' : tN} {G1 : Nat → Nat → Int32} {J1 : Nat → Nat → Int64} {cnt' : Nat}, CGd f e p' c N' G1 J1 → tkK f e p' = 5 → cnt' ≤ e → ∃ G', fX5_readText_l1 (some 68) (nI cnt') (wc σ G1 J1) = some (.inr (.inr false), wc σ G' J1) ∧ PFR c G1 G' J1 J1 ∧ G' 68 0 = nI 1 ∧ G' 68 1 = nI (tkS f e p') := fun {p'} {N'} {G1} {J1} {cnt'} g' k5 hc' => by
      obtain ⟨G', f1, f2, f3, f4⟩ := c_fail (J := J1) h 1 g'.2.1.2.2.2.1
      refine ⟨G', ?_, f2, f3, f4⟩
      have e2' : gI (wc σ G1 J1) (some 69) 7 2 = some (nI e) := by rw [pk_I h.1, g'.2.1.2.1]
      unfold fX5_readText_l1
      rw [pc_s h, bnP_1, e2', bnP_1, if_neg (show ¬ nI e < nI cnt' from nI_nlt hc' (by omega)), bnP_1, cg_kind h g', bnP_1, k5, if_neg (show ¬ nI 5 = 0 by decide), bnP_1, cg_kind h g', bnP_1, k5, if_neg (show ¬ nI 5 = 3 by decide), show (1 : Int32) = nI 1 from rfl, f1, bnS_1]
    unfold txS
    by_cases k0 : tkK f e p = 0
    · have l1 : fX5_readText_l1 (some 68) (nI cnt) (wc σ G J) = some (.inr (.inr true), wc σ G J) := by
        unfold fX5_readText_l1
        rw [pc_s h, bnP_1, e2, bnP_1, if_neg hhead, bnP_1, ekd, bnP_1, if_pos (show nI (tkK f e p) = 0 by rw [k0]; rfl)]
      rw [if_pos k0, lpS_e F l1]
      exact ⟨true, G, J, rfl, pf_rf _ _ _, rfl, g⟩
    · by_cases k3 : tkK f e p = 3
      · obtain ⟨G1, J1, s1, s2, g1⟩ := c_stepX h g
        obtain ⟨b, G2, J2, t1, t2, t3⟩ := cl_line h g1
        have l1 : fX5_readText_l1 (some 68) (nI cnt) (wc σ G J) = if b = true then some (.inl (nI (cnt + 1)), wc σ G2 J2) else some (.inr (.inr false), wc σ G2 J2) := by
          unfold fX5_readText_l1
          rw [pc_s h, bnP_1, e2, bnP_1, if_neg hhead, bnP_1, ekd, bnP_1, if_neg (show ¬ nI (tkK f e p) = 0 from fun z => k0 ((kI h7 (by decide)).mp z)), bnP_1, ekd, bnP_1, if_pos (show nI (tkK f e p) = 3 by rw [k3]; rfl), bnP_1, s1, bnP_1, t1, bnS_1, nI_a1]
        have hlt := hb.2.2.2.1 k0
        rw [if_neg k0, if_pos k3]
        cases q : lnLine f e (tkX f e p) N with
        | error x =>
          rw [q] at t3
          rcases t3 with ⟨rfl, t3, t4⟩ | ⟨rfl, p', N', g', k5, rfl⟩
          · rw [if_neg (by decide)] at l1
            rw [lpS_e F l1]
            exact ⟨false, G2, J2, rfl, pf_tr (pf_69 s2) t2, rfl, t3, t4⟩
          · rw [if_pos rfl] at l1
            obtain ⟨F, rfl⟩ : ∃ F', F = F' + 1 := ⟨F - 1, by omega⟩
            obtain ⟨G3, u1', u2, u3, u4⟩ := hx (cnt' := cnt + 1) g' k5 (by omega)
            rw [lpS_s _ l1, lpS_e F u1']
            exact ⟨false, G3, J2, rfl, pf_tr (pf_69 s2) (pf_tr t2 u2), rfl, u3, u4⟩
        | ok r =>
          rw [q] at t3
          obtain ⟨rfl, g2⟩ := t3
          rw [if_pos rfl] at l1
          rw [lpS_s F l1]
          have hp := ln_pos hb.2.2.1 q
          have := g2.1.2.1
          obtain ⟨b, G3, J3, u1', u2, u3⟩ := ih r.2 r.1 (cnt + 1) G2 J2 (by omega) g2 (by omega) F (by omega)
          exact ⟨b, G3, J3, u1', pf_tr (pf_69 s2) (pf_tr t2 u2), u3⟩
      · obtain ⟨G', f1, f2, f3, f4⟩ := c_fail (J := J) h 1 g.2.1.2.2.2.1
        have l1 : fX5_readText_l1 (some 68) (nI cnt) (wc σ G J) = some (.inr (.inr false), wc σ G' J) := by
          unfold fX5_readText_l1
          rw [pc_s h, bnP_1, e2, bnP_1, if_neg hhead, bnP_1, ekd, bnP_1, if_neg (show ¬ nI (tkK f e p) = 0 from fun z => k0 ((kI h7 (by decide)).mp z)), bnP_1, ekd, bnP_1, if_neg (show ¬ nI (tkK f e p) = 3 from fun z => k3 ((kI h7 (by decide)).mp z)), show (1 : Int32) = nI 1 from rfl, f1, bnS_1]
        rw [if_neg k0, if_neg k3, lpS_e F l1]
        exact ⟨false, G', J, rfl, f2, rfl, f3, f4⟩
end CTX
