/-! THE PURE LEVEL, 102: the reference reads a text -/
def rtD (s : HpT) : Option HpT := bnS (lpS (fX10_readsText_l1 (some 80)) FUEL () s) (fun r43 s60 => bnP (fX10_is (some 80) 1 s60) (fun x61 => (if x61 = true then some s60 else bnP (fX10_faults (some 80) 1 s60) (fun s65 => some s65))))
def rtC (s : HpT) : Option HpT := bnP (gR s (some 80) 10 1) (fun x34 => bnS (fX10_number (some 80) 2 4 s) (fun x36 s38 => bnP (sI s38 x34 2 x36) (fun s41 => rtD s41)))
def rtB (s : HpT) : Option HpT := bnP (gR s (some 80) 10 1) (fun x26 => bnS (fX10_number (some 80) 0 4 s) (fun x28 s30 => bnP (sI s30 x26 1 x28) (fun s33 => rtC s33)))
def rtA (s : HpT) : Option HpT := bnP (gR s (some 80) 10 1) (fun x18 => bnS (fX10_number (some 80) 4 20 s) (fun x20 s22 => bnP (sI s22 x18 0 x20) (fun s25 => rtB s25)))
section MTX
variable {σ : HpT} {G G' : Nat → Nat → Int32} {f : Nat → Int32} {e p lo hi v n : Nat} {N R : tN} {x : Nat × Nat}
theorem m_nh_ok0 (h : MK σ 80) (g : MG0 f e p N G) {H : Int32} (hH : HB H hi) (hlo : lo < 2 ^ 31) (q : nmS f e p lo hi = .ok v) : fX10_numberHere (some 80) (nI lo) H (wi σ G) = some (nI v, wi σ G) := by
  obtain ⟨k1, rfl, k3, k4⟩ := nm_ok q
  have hn := tk_nm g.1.2.1 k1
  have hin : inR (nI (tkV f e p)) (nI lo) H = true := by
    unfold inR
    rw [decide_eq_true (nI_le k3 (by omega)), decide_eq_true ((hH _ hn.1).mpr k4)]
    rfl
  unfold fX10_numberHere
  rw [mk_o h, bnP_1, m_isT0 h g (k := 2) (by decide) (v := 3) rfl, bnP_1, decide_eq_true k1, if_pos rfl, mk_I h, bnP_1, g.2.1.2.2.2.2.1 k1, m_in, bnP_1, hin, if_pos rfl, bnS_1, mk_I h, bnP_1, g.2.1.2.2.2.2.2, if_pos (show (0 : Int32) ≤ 0 by decide), mk_I h, bnP_1, g.2.1.2.2.2.2.1 k1]
theorem m_nh_bad0 (h : MK σ 80) (g : MG0 f e p N G) {H : Int32} (hH : HB H hi) (hlo : lo < 2 ^ 31) (q : nmS f e p lo hi = .error x) : ∃ G', fX10_numberHere (some 80) (nI lo) H (wi σ G) = some (nI lo, wi σ G') ∧ MFR G G' ∧ (∀ a, a ≠ 80 → G' a = G a) ∧ MER x G' := by
  unfold fX10_numberHere
  rw [mk_o h, bnP_1, m_isT0 h g (k := 2) (by decide) (v := 3) rfl, bnP_1]
  rcases nm_err q with ⟨k1, rfl⟩ | ⟨k1, k2, rfl⟩
  · obtain ⟨G2, f1, f2, f3, f4⟩ := m_flt0 h g (n := 1) (by decide) (by decide)
    refine ⟨G2, ?_, f2, f3, f4⟩
    rw [decide_eq_false k1, if_neg (by decide), show (1 : Int32) = nI 1 from rfl, f1, bnP_1, bnS_1, mk_I h, bnP_1, f4.2.1, if_neg (mr_le f4)]
  · obtain ⟨G2, f1, f2, f3, f4⟩ := m_flt0 h g (n := 2) (by decide) (by decide)
    have hn := tk_nm g.1.2.1 k1
    have hin : ¬ inR (nI (tkV f e p)) (nI lo) H = true := by
      unfold inR
      intro z
      rw [Bool.and_eq_true] at z
      exact k2 ⟨by
        have y := of_decide_eq_true z.1
        rw [nI_leI hlo (by omega)] at y
        exact y, (hH _ hn.1).mp (of_decide_eq_true z.2)⟩
    refine ⟨G2, ?_, f2, f3, f4⟩
    rw [decide_eq_true k1, if_pos rfl, mk_I h, bnP_1, g.2.1.2.2.2.2.1 k1, m_in, bnP_1, if_neg hin, show (2 : Int32) = nI 2 from rfl, f1, bnP_1, bnS_1, mk_I h, bnP_1, f4.2.1, if_neg (mr_le f4)]
theorem m_num_ok0 (h : MK σ 80) (g : MG0 f e p N G) {H : Int32} (hH : HB H hi) (hlo : lo < 2 ^ 31) (q : nmS f e p lo hi = .ok v) : ∃ G', fX10_number (some 80) (nI lo) H (wi σ G) = some (nI v, wi σ G') ∧ MFR G G' ∧ (∀ a, a ≠ 80 → G' a = G a) ∧ MG0 f e (tkX f e p) N G' := by
  obtain ⟨G', e1, e2, e3, e4, -⟩ := m_go0 h g
  refine ⟨G', ?_, e2, e3, e4⟩
  unfold fX10_number
  rw [mk_o h, bnP_1, m_nh_ok0 h g hH hlo q, bnS_1, e1, bnP_1]
theorem m_num_bad0 (h : MK σ 80) (g : MG0 f e p N G) {H : Int32} (hH : HB H hi) (hlo : lo < 2 ^ 31) (q : nmS f e p lo hi = .error x) : ∃ G', fX10_number (some 80) (nI lo) H (wi σ G) = some (nI lo, wi σ G') ∧ MFR G G' ∧ (∀ a, a ≠ 80 → G' a = G a) ∧ MER x G' := by
  obtain ⟨G', e1, e2, e3, e4⟩ := m_nh_bad0 h g hH hlo q
  refine ⟨G', ?_, e2, e3, e4⟩
  unfold fX10_number
  rw [mk_o h, bnP_1, e1, bnS_1, m_goE h e4, bnP_1]
theorem m_kw0 (h : MK σ 80) (hS : hN σ ≤ BIG) (g : MG0 f e p N G) (i j : Nat) (hj : j < 60) (hk : (1 ≤ j ∧ j < 16) ∨ 45 ≤ j) (eb : byS j = byS i) : fX10_isWord (some 80) (some (BIG + j)) (wi σ G) = some (kw f e p i) := by
  unfold kw
  rw [← eb]
  exact m_isWord h hS g.1.1 g.1.2.1 g.2.1 g.1.2.2 hj (kw_ok j hj hk)
theorem mr_81 (r : MER x G) : MER x (cw G 81 N) := by
  refine ⟨r.1, ?_, ?_⟩
  · rw [cw_b (by decide)]
    exact r.2.1
  · rw [cw_b (by decide)]
    exact r.2.2
theorem mS2 (h : MK σ 80) {n : Nat} {y : Int32} (hn : n < 6139) : sI (wi σ G) (some (80 + 1)) (nI n) y = some (wi σ (cw G 81 (u1 (G 81) n y))) := by
  rw [mk_s1 h hn]
  show some (wi σ (up G 81 n y)) = _
  rw [up_is]
theorem rtE (h : MK σ 80) (r : MER x G) : MPo σ f e G (rtD (wi σ G)) (.error x) := by
  have l1 : fX10_readsText_l1 (some 80) () (wi σ G) = some (.inr (), wi σ G) := by
    unfold fX10_readsText_l1
    rw [m_isE h r, bnP_1, if_neg (by decide)]
  unfold rtD
  rw [show lpS (fX10_readsText_l1 (some 80)) FUEL () (wi σ G) = some ((), wi σ G) from lpS_e 199999 l1, bnS_1, m_isE h r, bnP_1, if_neg (by decide), m_fltE h r, bnP_1]
  exact ⟨G, rfl, mf_rf G, r⟩
theorem rtCE (h : MK σ 80) (r : MER x G) : MPo σ f e G (rtC (wi σ G)) (.error x) := by
  unfold rtC
  rw [mk_r1 h, bnP_1, m_numE h r, bnS_1, show sI (wi σ G) (some (80 + 1)) 2 2 = _ from mS2 h (n := 2) (by decide), bnP_1]
  exact mp_pre (mf_81 fun j hj => u1_k (by omega)) (rtE h (mr_81 r))
theorem rtBE (h : MK σ 80) (r : MER x G) : MPo σ f e G (rtB (wi σ G)) (.error x) := by
  unfold rtB
  rw [mk_r1 h, bnP_1, m_numE h r, bnS_1, show sI (wi σ G) (some (80 + 1)) 1 0 = _ from mS2 h (n := 1) (by decide), bnP_1]
  exact mp_pre (mf_81 fun j hj => u1_k (by omega)) (rtCE h (mr_81 r))
theorem rtAE (h : MK σ 80) (r : MER x G) : MPo σ f e G (rtA (wi σ G)) (.error x) := by
  unfold rtA
  rw [mk_r1 h, bnP_1, m_numE h r, bnS_1, show sI (wi σ G) (some (80 + 1)) 0 4 = _ from mS2 h (n := 0) (by decide), bnP_1]
  exact mp_pre (mf_81 fun j hj => u1_k (by omega)) (rtBE h (mr_81 r))
theorem m_txt (h : MK σ 80) (hS : hN σ ≤ BIG) : ∀ (n : Nat) (N : tN) (p : Nat) (G : Nat → Nat → Int32), e - p < n → MGd f e p N G → ∀ F, n < F → ∃ G', lpS (fX10_readsText_l1 (some 80)) F () (wi σ G) = some ((), wi σ G') ∧ MFR G G' ∧ (match txS f e n N p with
    | .ok r => MGd f e r.1 r.2 G' ∧ tkK f e r.1 = 0
    | .error x => MER x G' ∨ ∃ p N, MGd f e p N G' ∧ tkK f e p ≠ 0 ∧ x = (1, tkS f e p)) := by
  intro n
  induction n with
  | zero => exact fun N p G hn => absurd hn (Nat.not_lt_zero _)
  | succ n ih =>
    intro N p G hn g F hF
    obtain ⟨F, rfl⟩ : ∃ F', F = F' + 1 := ⟨F - 1, by omega⟩
    have ei := m_isT h g (k := 3) (by decide) (v := 4) rfl
    unfold txS
    by_cases k3 : tkK f e p = 3
    · have hb := tk_b (f := f) g.1.2.1
      have hlt := hb.2.2.2.1 (by omega)
      obtain ⟨G1, e1, f1, -, g1⟩ := m_go h g
      obtain ⟨G2, e2, f2, r2⟩ := ml_line h hS g1
      have l1 : fX10_readsText_l1 (some 80) () (wi σ G) = some (.inl (), wi σ G2) := by
        unfold fX10_readsText_l1
        rw [ei, bnP_1, decide_eq_true k3, if_pos rfl, e1, bnP_1, e2, bnP_1]
      rw [if_neg (by omega), if_pos k3, lpS_s F l1]
      cases q : lnLine f e (tkX f e p) N with
      | error x =>
        rw [q] at r2
        have r2 : MER x G2 := r2
        obtain ⟨F, rfl⟩ : ∃ F', F = F' + 1 := ⟨F - 1, by omega⟩
        have l2 : fX10_readsText_l1 (some 80) () (wi σ G2) = some (.inr (), wi σ G2) := by
          unfold fX10_readsText_l1
          rw [m_isE h r2, bnP_1, if_neg (by decide)]
        rw [lpS_e F l2]
        exact ⟨G2, rfl, mf_tr f1 f2, Or.inl r2⟩
      | ok r =>
        rw [q] at r2
        have r2 : MGd f e r.1 r.2 G2 := r2
        have hp := ln_pos hb.2.2.1 q
        have := r2.1.2.1
        obtain ⟨G3, e3, f3, r3⟩ := ih r.2 r.1 G2 (by omega) r2 F (by omega)
        exact ⟨G3, e3, mf_tr f1 (mf_tr f2 f3), r3⟩
    · have l1 : fX10_readsText_l1 (some 80) () (wi σ G) = some (.inr (), wi σ G) := by
        unfold fX10_readsText_l1
        rw [ei, bnP_1, decide_eq_false k3, if_neg (by decide)]
      rw [lpS_e F l1]
      by_cases k0 : tkK f e p = 0
      · rw [if_pos k0]
        exact ⟨G, rfl, mf_rf G, g, k0⟩
      · rw [if_neg k0, if_neg k3]
        exact ⟨G, rfl, mf_rf G, Or.inr ⟨p, N, g, k0, rfl⟩⟩
theorem m_text (h : MK σ 80) (hS : hN σ ≤ BIG) (he : e ≤ 600) (e12 : G 80 12 = nI e) (e13 : G 80 13 = 0) (e17 : G 80 17 = 0) (hf : ∀ k, k < e → G 86 k = f k) (e81 : G 81 = fun _ => 0) : MPo σ f e G (fX10_readsText (some 80) (wi σ G)) (ldS f e) := by
  obtain ⟨u, e1, t1, q⟩ := m_goes h he (p := 0) (Nat.zero_le _) e12 e13 e17 hf
  have g1 : MG0 f e 0 (fun _ => 0) (cw G 80 u) := ⟨⟨he, Nat.zero_le _, fun k hk => by rw [cw_b (by decide)]; exact hf k hk⟩, by rw [cw_a]; exact t1, by rw [cw_b (by decide)]; exact e81⟩
  have f1 : MFR G (cw G 80 u) := ⟨fun a a1 _ _ => cw_b a1, fun k hk => by rw [cw_a]; exact q k (by omega), fun _ _ => by rw [cw_a]; exact q 18 (by omega), fun _ => by rw [cw_a]; exact q 17 (by omega), fun _ _ => by rw [cw_b (by decide)]⟩
  refine mp_pre f1 ?_
  show MPo σ f e (cw G 80 u) (bnP (isK (wi σ G) (some 80) 10) (fun _ => bnP (fX10_goes (some 80) (wi σ G)) (fun s3 => bnP (fX10_isWord (some 80) (some (BIG + 45)) s3) (fun x4 => bnS ((if x4 = true then some ((), s3) else bnP (fX10_faults (some 80) 1 s3) (fun s13 => some ((), s13)))) (fun (j6 : Unit) s14 => bnP (fX10_goes (some 80) s14) (fun s17 => rtA s17)))))) (ldS f e)
  rw [mk_o h, bnP_1, e1, bnP_1, m_kw0 h hS g1 1 45 (by decide) (by decide) (by decide), bnP_1]
  unfold ldS hdS
  generalize cw G 80 u = G1 at *
  cases qk : kw f e 0 1
  · obtain ⟨G2, e2, f2, f3, r2⟩ := m_flt0 h g1 (n := 1) (by decide) (by decide)
    refine mp_pre f2 ?_
    rw [if_neg (by decide), if_neg (by decide), show (1 : Int32) = nI 1 from rfl, e2, bnP_1, bnS_1, m_goE h r2, bnP_1]
    exact rtAE h r2
  · rw [if_pos rfl, if_pos rfl, bnS_1]
    obtain ⟨G2, e2, f2, f3, g2, -⟩ := m_go0 h g1
    refine mp_pre f2 ?_
    rw [e2, bnP_1]
    unfold rtA
    rw [mk_r1 h, bnP_1]
    cases q1 : nmS f e (tkX f e 0) 4 21 with
    | error x =>
      obtain ⟨G3, e3, f3, -, r3⟩ := m_num_bad0 h g2 (hb_n (n := 20) (by decide)) (by decide) q1
      refine mp_pre f3 ?_
      rw [show fX10_number (some 80) 4 20 (wi σ G2) = _ from e3, bnS_1, show sI (wi σ G3) (some (80 + 1)) 0 (nI 4) = _ from mS2 h (n := 0) (by decide), bnP_1]
      exact mp_pre (mf_81 fun j hj => u1_k (by omega)) (rtBE h (mr_81 r3))
    | ok r =>
      obtain ⟨G3, e3, f3, -, g3⟩ := m_num_ok0 h g2 (hb_n (n := 20) (by decide)) (by decide) q1
      refine mp_pre f3 ?_
      rw [show fX10_number (some 80) 4 20 (wi σ G2) = _ from e3, bnS_1, show sI (wi σ G3) (some (80 + 1)) 0 (nI r) = _ from mS2 h (n := 0) (by decide), bnP_1, g3.2.2]
      refine mp_pre (mf_81 (N := u1 (fun _ => 0) 0 (nI r)) fun j hj => by rw [g3.2.2, u1_k (by omega)]) ?_
      have g3' : MG0 f e (tkX f e (tkX f e 0)) (u1 (fun _ => 0) 0 (nI r)) (cw G3 81 (u1 (fun _ => 0) 0 (nI r))) := mg0_81 g3
      generalize cw G3 81 (u1 (fun _ => 0) 0 (nI r)) = G4 at *
      dsimp only
      unfold rtB
      rw [mk_r1 h, bnP_1]
      cases q2 : nmS f e (tkX f e (tkX f e 0)) 0 5 with
      | error x =>
        obtain ⟨G5, e5, f5, -, r5⟩ := m_num_bad0 h g3' (hb_n (n := 4) (by decide)) (by decide) q2
        refine mp_pre f5 ?_
        rw [show fX10_number (some 80) 0 4 (wi σ G4) = _ from e5, bnS_1, show sI (wi σ G5) (some (80 + 1)) 1 (nI 0) = _ from mS2 h (n := 1) (by decide), bnP_1]
        exact mp_pre (mf_81 fun j hj => u1_k (by omega)) (rtCE h (mr_81 r5))
      | ok t =>
        obtain ⟨G5, e5, f5, -, g5⟩ := m_num_ok0 h g3' (hb_n (n := 4) (by decide)) (by decide) q2
        refine mp_pre f5 ?_
        rw [show fX10_number (some 80) 0 4 (wi σ G4) = _ from e5, bnS_1, show sI (wi σ G5) (some (80 + 1)) 1 (nI t) = _ from mS2 h (n := 1) (by decide), bnP_1, g5.2.2]
        refine mp_pre (mf_81 (N := u1 (u1 (fun _ => 0) 0 (nI r)) 1 (nI t)) fun j hj => by rw [g5.2.2, u1_k (by omega)]) ?_
        have g5' : MG0 f e (tkX f e (tkX f e (tkX f e 0))) (u1 (u1 (fun _ => 0) 0 (nI r)) 1 (nI t)) (cw G5 81 (u1 (u1 (fun _ => 0) 0 (nI r)) 1 (nI t))) := mg0_81 g5
        generalize cw G5 81 (u1 (u1 (fun _ => 0) 0 (nI r)) 1 (nI t)) = G6 at *
        dsimp only
        unfold rtC
        rw [mk_r1 h, bnP_1]
        cases q3 : nmS f e (tkX f e (tkX f e (tkX f e 0))) 2 5 with
        | error x =>
          obtain ⟨G7, e7, f7, -, r7⟩ := m_num_bad0 h g5' (hb_n (n := 4) (by decide)) (by decide) q3
          refine mp_pre f7 ?_
          rw [show fX10_number (some 80) 2 4 (wi σ G6) = _ from e7, bnS_1, show sI (wi σ G7) (some (80 + 1)) 2 (nI 2) = _ from mS2 h (n := 2) (by decide), bnP_1]
          exact mp_pre (mf_81 fun j hj => u1_k (by omega)) (rtE h (mr_81 r7))
        | ok qq =>
          obtain ⟨G7, e7, f7, -, g7⟩ := m_num_ok0 h g5' (hb_n (n := 4) (by decide)) (by decide) q3
          refine mp_pre f7 ?_
          rw [show fX10_number (some 80) 2 4 (wi σ G6) = _ from e7, bnS_1, show sI (wi σ G7) (some (80 + 1)) 2 (nI qq) = _ from mS2 h (n := 2) (by decide), bnP_1, g7.2.2]
          refine mp_pre (mf_81 (N := nwN r t qq) fun j hj => by
            show u1 (u1 (u1 (fun _ => 0) 0 (nI r)) 1 (nI t)) 2 (nI qq) j = _
            rw [g7.2.2, u1_k (by omega)]) ?_
          have hq1 := nm_ok q1
          have hq2 := nm_ok q2
          have hq3 := nm_ok q3
          have wf := (nw_wf (r := r) (t := t) (q := qq) hq1.2.2.1 hq1.2.2.2 hq2.2.2.2 hq3.2.2.1 hq3.2.2.2).1
          have g7' : MGd f e (tkX f e (tkX f e (tkX f e (tkX f e 0)))) (nwN r t qq) (cw G7 81 (nwN r t qq)) := mg_w (mg0_81 g7) wf
          show MPo σ f e (cw G7 81 (nwN r t qq)) (rtD (wi σ (cw G7 81 (nwN r t qq)))) (txS f e (e + 1) (nwN r t qq) (tkX f e (tkX f e (tkX f e (tkX f e 0)))))
          generalize cw G7 81 (nwN r t qq) = G8 at *
          obtain ⟨G9, e9, f9, r9⟩ := m_txt h hS (e + 1) (nwN r t qq) (tkX f e (tkX f e (tkX f e (tkX f e 0)))) G8 (by omega) g7' FUEL (show e + 1 < 200000 by omega)
          unfold rtD
          rw [e9, bnS_1]
          refine mp_pre f9 ?_
          cases qt : txS f e (e + 1) (nwN r t qq) (tkX f e (tkX f e (tkX f e (tkX f e 0)))) with
          | ok w =>
            rw [qt] at r9
            rw [m_isT h r9.1 (k := 0) (by decide) (v := 1) rfl, bnP_1, decide_eq_true r9.2, if_pos rfl]
            exact ⟨G9, rfl, mf_rf G9, r9.1⟩
          | error x =>
            rw [qt] at r9
            rcases r9 with r9 | ⟨p, N, g9, k9, rfl⟩
            · rw [m_isE h r9, bnP_1, if_neg (by decide), m_fltE h r9, bnP_1]
              exact ⟨G9, rfl, mf_rf G9, r9⟩
            · obtain ⟨G10, e10, f10, -, r10⟩ := m_flt h g9 (n := 1) (by decide) (by decide)
              rw [m_isT h g9 (k := 0) (by decide) (v := 1) rfl, bnP_1, decide_eq_false k9, if_neg (by decide), show (1 : Int32) = nI 1 from rfl, e10, bnP_1]
              exact ⟨G10, rfl, f10, r10⟩
end MTX
