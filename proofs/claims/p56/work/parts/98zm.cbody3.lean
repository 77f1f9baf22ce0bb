/-! THE PURE LEVEL, 97: the class reads an act's body, whole -/
section CB3
variable {σ : HpT} {G G' G3 : Nat → Nat → Int32} {J J' J3 : Nat → Nat → Int64} {f : Nat → Int32} {e p c n i o : Nat} {N0 N N' M R : tN} {kd lo hi : Int32} {cur d cur' d' a l W : Nat} {w : Int64}
theorem bc_69 (q : BC G J c N0 N) (hc : c = 2 ∨ c = 35 ∨ 91 ≤ c) (h : ∀ a, a ≠ 69 → G' a = G a ∧ J' a = J a) : BC G' J' c N0 N := by
  obtain ⟨q1, q2⟩ := q
  refine ⟨by rw [(h 68 (by decide)).1]; exact q1, fun g h1 h2 => ?_⟩
  rw [(h (c + 4) (by omega)).2, (h (c + 5) (by omega)).1, (h (c + 6) (by omega)).1, (h (c + 7) (by omega)).1, (h (c + 8) (by omega)).1]
  exact q2 g h1 h2
theorem c_body (h : PC σ c) (hw : WFN N0) (ha : nAc N0 < 10) : ∀ (n : Nat) (N : tN) (p cur d cnt : Nat) (G : Nat → Nat → Int32) (J : Nat → Nat → Int64), e - p < n → BI N0 N kd cur d → CGd f e p c N0 G J → BC G J c N0 N → cnt ≤ p → ∀ F, n < F → ∃ b G' J', lpS (fX5_readBody_l1 (some 68) (some (c + 3))) F (nI d, nI (cntV (cF N) (nCl N0) (nCl N - nCl N0) (nWd N)), nI cnt) (wc σ G J) = some (.inr b, wc σ G' J') ∧ PFR c G G' J J' ∧ CBR f e c N0 kd (bdS f e (nAc N0) n N p cur d) b G' J' := by
  intro n
  induction n with
  | zero => exact fun N p cur d cnt G J hn => absurd hn (Nat.not_lt_zero _)
  | succ n ih =>
    intro N p cur d cnt G J hn b g q hcnt F hF
    have hb := bi_b hw b
    have hb0 := w1_b hw.1
    have hrm := (bi_rm hw b).1
    have h12 := b.2.1.2.2.2.2
    have hbv := b.2.2.2.2.2.1
    have hpd := bv_pd hbv
    have hcu := bi_cur b
    have hc := h.2.2.2.2
    have B := pc_B h
    have ht := tk_b (f := f) g.1.2.1
    have h7 := tk_7 (f := f) (e := e) (p := p)
    have he := g.1.1
    have hpe := g.1.2.1
    have e3 : G (c + 3) 0 = nI (nWd N0) := g.2.2.2.1.2.2.2.2.2.2.1.trans (w1_e hw.1).2.2.1
    have est : gI (wc σ G J) (some 68) 5 2 = some (nI (nWd N - nWd N0)) := by rw [pc_I h, q.1]
    have ekd := cg_kind h g
    have esz : gI (wc σ G J) (some (c + 3)) 8 0 = some (nI (nWd N0)) := by rw [sk_I (bk_S B), e3]
    have hlt : tkK f e p ≠ 0 → e - tkX f e p < n := fun hk0 => by
      have h1 := ht.1
      have h2 := ht.2.2.2.1 hk0
      have h3 := ht.2.2.1
      clear hcu hb ih b hbv hpd
      omega
    have hcn : tkK f e p ≠ 0 → cnt + 1 ≤ tkX f e p := fun hk0 => by
      have h1 := ht.1
      have h2 := ht.2.2.2.1 hk0
      clear hcu hb ih b hbv hpd
      omega
    have h15 : N (15 + 9 * nAc N0) = nI (nWd N - nWd N0) := b.2.2.1.2.2.1
    have s0 : (0 < nI (nWd N - nWd N0)) ↔ 0 < nWd N - nWd N0 := by
      by_cases z : 0 < nWd N - nWd N0
      · exact ⟨fun _ => z, fun _ => nI_lt (a := 0) z (by omega)⟩
      · exact ⟨fun u => absurd u (nI_nlt (a := 0) (by omega) (by decide)), fun u => absurd u z⟩
    have d0 : (nI d = 0) ↔ d = 0 := nI_eq (b := 0) (by omega) (by decide)
    have er : ∀ m, ∃ G2, fX5_fail (some 68) (nI m) (wc σ G J) = some (false, wc σ G2 J) ∧ PFR c G G2 J J ∧ CBR f e c N0 kd (.error (m, tkS f e p)) false G2 J := fun m => c_failX h g m
    obtain ⟨F, rfl⟩ : ∃ F', F = F' + 1 := ⟨F - 1, by omega⟩
    have hhead : ¬ nI e < nI cnt := nI_nlt (by omega) (by omega)
    have e2 : gI (wc σ G J) (some 69) 7 2 = some (nI e) := by rw [pk_I h.1, g.2.1.2.1]
    unfold bdS
    by_cases k1 : tkK f e p = 1
    · have hs : ¬ stopB f e (nAc N0) N p d := fun z => z.2.2.1 k1
      rw [if_neg hs]
      unfold itS
      rw [if_pos k1, hrm]
      by_cases y : nWd N = 12 * nRm N0
      · obtain ⟨G2, f1, f2, f3⟩ := er 4
        have l1 : fX5_readBody_l1 (some 68) (some (c + 3)) (nI d, nI (cntV (cF N) (nCl N0) (nCl N - nCl N0) (nWd N)), nI cnt) (wc σ G J) = some (.inr (.inr false), wc σ G2 J) := by
          unfold fX5_readBody_l1
          dsimp only
          rw [pc_s h, bnP_1, e2, bnP_1, if_neg hhead, bnP_1, ekd, bnP_1, if_pos (show nI (tkK f e p) = 1 by rw [k1]; rfl), esz, bnP_1, est, bnP_1, pc_b h, bnP_1, c_mostW B hw.1 g.2.2.2, bnP_1, nI_add, if_neg (nI_nlt (by omega) (by omega)), show (4 : Int32) = nI 4 from rfl, f1, bnS_1]
        rw [if_pos y, lpS_e F l1]
        exact ⟨false, G2, J, rfl, f2, f3⟩
      · have hW : nWd N < 12 * nRm N0 := by omega
        have hwd := tk_wd g.1.2.1 k1
        have wd : wdR (wLo f e p) (wHi f e p) (wLg f e p) := ⟨_, _, hwd.1, hwd.2.1, fun k hk => (hwd.2.2 k hk).2, rfl, rfl, rfl⟩
        have eJ : gJ (wc σ G J) (some 69) 7 6 = some (wLg f e p) := by rw [pk_J h.1, g.2.1.2.2.2.2.2 k1]; rfl
        generalize hP : cntV (cF N) (nCl N0) (nCl N - nCl N0) (nWd N) = P at *
        generalize hG1 : up (up (up (up (up G (c + 5) (nWd N) (nI P)) (c + 6) (nWd N) 0) (c + 7) (nWd N) 0) (c + 8) (nWd N) 0) 68 2 (nI (nWd N - nWd N0 + 1)) = G1
        generalize hJ1 : upJ J (c + 4) (nWd N) (wLg f e p) = J1
        have o1 : ∀ a, a ≠ 68 → a ≠ c + 5 → a ≠ c + 6 → a ≠ c + 7 → a ≠ c + 8 → G1 a = G a := fun a a1 a2 a3 a4 a5 => by rw [← hG1, up_a a1, up_a a5, up_a a4, up_a a3, up_a a2]
        have o68 : G1 68 2 = nI (nWd N - nWd N0 + 1) := by rw [← hG1, up_eq]
        have p5 : G1 (c + 5) = u1 (G (c + 5)) (nWd N) (nI P) := by rw [← hG1, up_a (by omega), up_a (by omega), up_a (by omega), up_a (by omega), up_is, cw_a]
        have p6 : G1 (c + 6) = u1 (G (c + 6)) (nWd N) 0 := by rw [← hG1, up_a (by omega), up_a (by omega), up_a (by omega), up_is, cw_a, up_a (by omega)]
        have p7 : G1 (c + 7) = u1 (G (c + 7)) (nWd N) 0 := by rw [← hG1, up_a (by omega), up_a (by omega), up_is, cw_a, up_a (by omega), up_a (by omega)]
        have p8 : G1 (c + 8) = u1 (G (c + 8)) (nWd N) 0 := by rw [← hG1, up_a (by omega), up_is, cw_a, up_a (by omega), up_a (by omega), up_a (by omega)]
        have pj : J1 (c + 4) = upJ J (c + 4) (nWd N) (wLg f e p) (c + 4) := by rw [← hJ1]
        obtain ⟨g1, fr1⟩ := cg_stg h g (G' := G1) (J' := J1) o1 (fun a k a1 a2 a3 => by
          have : a = c + 5 ∨ a = c + 6 ∨ a = c + 7 ∨ a = c + 8 := by omega
          rcases this with rfl | rfl | rfl | rfl
          · rw [p5, u1_k (by omega)]
          · rw [p6, u1_k (by omega)]
          · rw [p7, u1_k (by omega)]
          · rw [p8, u1_k (by omega)]) (fun a a1 => by rw [← hJ1, upJ_a a1]) (fun k hk => by rw [← hJ1, upJ_k (by omega)])
        obtain ⟨G3, J3, t1, t2, t3⟩ := c_stepX h g1
        have l1 : fX5_readBody_l1 (some 68) (some (c + 3)) (nI d, nI P, nI cnt) (wc σ G J) = some (.inl (nI d, 0, nI (cnt + 1)), wc σ G3 J3) := by
          unfold fX5_readBody_l1
          dsimp only
          rw [pc_s h, bnP_1, e2, bnP_1, if_neg hhead, bnP_1, ekd, bnP_1, if_pos (show nI (tkK f e p) = 1 by rw [k1]; rfl), esz, bnP_1, est, bnP_1, pc_b h, bnP_1, c_mostW B hw.1 g.2.2.2, bnP_1, nI_add, if_pos (nI_lt (by omega) (by omega)), bnP_1, bnP_1, bnP_1, eJ, bnP_1, nI_add, show nWd N0 + (nWd N - nWd N0) = nWd N by omega, c_stage B hw.1 g.2.2.2 (by omega) (by omega), bnP_1, pc_I h, bnP_1, up_a (by omega), up_a (by omega), up_a (by omega), up_a (by omega), q.1, nI_a1, pI_c h.2.1.1 (by have := h.1.1; omega), bnP_1, hG1, hJ1, pc_s h, bnP_1, t1, bnP_1, nI_a1]
        rw [if_neg y, lpS_s F l1]
        obtain ⟨bc1, c4, cz⟩ := bc_word (lo := wLo f e p) (hi := wHi f e p) (G3 := G1) (J3 := J1) hw ha b q hW wd o68 pj (by rw [hP]; exact p5) p6 p7 p8
        have b1 := (bi_word (lo := wLo f e p) (hi := wHi f e p) hw ha b hW (by omega)).1
        obtain ⟨bb, G4, J4, u1', u2, u3⟩ := ih _ (tkX f e p) cur d (cnt + 1) G3 J3 (hlt (by omega)) b1 t3 (bc_69 bc1 hc t2) (hcn (by omega)) F (by omega)
        rw [c4, cz] at u1'
        exact ⟨bb, G4, J4, u1', pf_tr fr1 (pf_tr (pf_69 t2) u2), u3⟩
    · by_cases k4 : tkK f e p = 4
      · have hs : ¬ stopB f e (nAc N0) N p d := fun z => z.2.2.2.1 k4
        rw [if_neg hs]
        unfold itS
        rw [if_neg k1, if_pos k4]
        have l0 : fX5_readBody_l1 (some 68) (some (c + 3)) (nI d, nI (cntV (cF N) (nCl N0) (nCl N - nCl N0) (nWd N)), nI cnt) (wc σ G J) = if nI d = 4 then bnS (fX5_fail (some 68) 4 (wc σ G J)) (fun x75 s77 => some ((.inr (.inr x75)), s77)) else bnP (fX7_step (some 69) (wc σ G J)) (fun s74 => some ((.inl ((nI d + 1), (nI (cntV (cF N) (nCl N0) (nCl N - nCl N0) (nWd N)) + 1), (nI cnt + 1))), s74)) := by
          unfold fX5_readBody_l1
          dsimp only
          rw [pc_s h, bnP_1, e2, bnP_1, if_neg hhead, bnP_1, ekd, bnP_1, if_neg (show ¬ nI (tkK f e p) = 1 from fun z => k1 ((kI h7 (by decide)).mp z)), bnP_1, ekd, bnP_1, if_pos (show nI (tkK f e p) = 4 by rw [k4]; rfl), bnP_1]
        by_cases y : d = 4
        · obtain ⟨G2, f1, f2, f3⟩ := er 4
          rw [if_pos (show nI d = 4 by rw [y]; rfl), show (4 : Int32) = nI 4 from rfl, f1, bnS_1] at l0
          rw [if_pos y, lpS_e F l0]
          exact ⟨false, G2, J, rfl, f2, f3⟩
        · obtain ⟨G3, J3, t1, t2, t3⟩ := c_stepX h g
          rw [if_neg (show ¬ nI d = 4 from fun z => y ((nI_eq (b := 4) (by omega) (by decide)).mp z)), t1, bnP_1, nI_a1, nI_a1, nI_a1] at l0
          obtain ⟨bc1, cz⟩ := bc_open (cur := cur) (G3 := G) (J3 := J) hw ha b (by omega) q rfl rfl (fun _ _ _ => rfl)
          have b1 := bi_open (cur := cur) hw ha b (by omega) (by omega)
          obtain ⟨bb, G4, J4, u1', u2, u3⟩ := ih _ (tkX f e p) (nCl N + 1) (d + 1) (cnt + 1) G3 J3 (hlt (by omega)) b1 t3 (bc_69 bc1 hc t2) (hcn (by omega)) F (by omega)
          rw [cz] at u1'
          rw [if_neg y, lpS_s F l0]
          exact ⟨bb, G4, J4, u1', pf_tr (pf_69 t2) u2, u3⟩
      · by_cases k5 : tkK f e p = 5
        · have hs : ¬ stopB f e (nAc N0) N p d := fun z => z.2.2.2.2 k5
          rw [if_neg hs]
          unfold itS
          rw [if_neg k1, if_neg k4, if_pos k5]
          obtain ⟨G2, f1, f2, f3⟩ := er 1
          have f1' : fX5_fail (some 68) 1 (wc σ G J) = some (false, wc σ G2 J) := f1
          by_cases y : d = 0
          · rw [if_pos (Or.inl y)]
            have l0 : fX5_readBody_l1 (some 68) (some (c + 3)) (nI d, nI (cntV (cF N) (nCl N0) (nCl N - nCl N0) (nWd N)), nI cnt) (wc σ G J) = if 0 < nI (nWd N - nWd N0) then some ((.inr (.inr true)), wc σ G J) else some ((.inr (.inr false)), wc σ G2 J) := by
              unfold fX5_readBody_l1
              dsimp only
              rw [pc_s h, bnP_1, e2, bnP_1, if_neg hhead, bnP_1, ekd, bnP_1, if_neg (show ¬ nI (tkK f e p) = 1 from fun z => k1 ((kI h7 (by decide)).mp z)), bnP_1, ekd, bnP_1, if_neg (show ¬ nI (tkK f e p) = 4 from fun z => k4 ((kI h7 (by decide)).mp z)), bnP_1, ekd, bnP_1, if_pos (show nI (tkK f e p) = 5 by rw [k5]; rfl), if_pos (show nI d ≤ 0 by rw [y]; decide), if_pos (d0.mpr y), est, bnP_1, f1', bnS_1, if_neg (show ¬ (false = true) from Bool.false_ne_true)]
            by_cases u : 0 < nWd N - nWd N0
            · rw [if_pos (s0.mpr u)] at l0
              rw [lpS_e F l0]
              have hcur : cur = 0 := by
                by_cases z : cur = 0
                · exact z
                · exact absurd y (hcu.2.2 z)
              subst y hcur
              exact ⟨true, G, J, rfl, pf_rf _ _ _, p, g, Or.inr ⟨rfl, k5, rfl, N, q, b, by omega⟩⟩
            · rw [if_neg (fun z => u (s0.mp z))] at l0
              rw [lpS_e F l0]
              exact ⟨false, G2, J, rfl, f2, f3⟩
          · obtain ⟨r, rfl⟩ := hcu.2.1 y
            clear hcu
            rw [Nat.add_sub_cancel]
            have hp0 := bv_p0 hbv
            by_cases u : cF N r = nWd N
            · have hne : ¬ nI (cntV (cF N) (nCl N0) (nCl N - nCl N0) (nWd N)) = 0 := fun z => hp0.mp ((nI_eq (b := 0) (by omega) (by decide)).mp z) u
              have l0 : fX5_readBody_l1 (some 68) (some (c + 3)) (nI d, nI (cntV (cF N) (nCl N0) (nCl N - nCl N0) (nWd N)), nI cnt) (wc σ G J) = some ((.inr (.inr false)), wc σ G2 J) := by
                unfold fX5_readBody_l1
                dsimp only
                rw [pc_s h, bnP_1, e2, bnP_1, if_neg hhead, bnP_1, ekd, bnP_1, if_neg (show ¬ nI (tkK f e p) = 1 from fun z => k1 ((kI h7 (by decide)).mp z)), bnP_1, ekd, bnP_1, if_neg (show ¬ nI (tkK f e p) = 4 from fun z => k4 ((kI h7 (by decide)).mp z)), bnP_1, ekd, bnP_1, if_pos (show nI (tkK f e p) = 5 by rw [k5]; rfl), if_neg (show ¬ nI d ≤ 0 from nI_ge (a := 0) (by omega) (by omega)), if_neg hne, if_neg (fun z => y (d0.mp z)), f1', bnS_1, if_neg (by decide)]
              rw [if_pos (Or.inr u), lpS_e F l0]
              exact ⟨false, G2, J, rfl, f2, f3⟩
            · have hz : cntV (cF N) (nCl N0) (nCl N - nCl N0) (nWd N) = 0 := hp0.mpr u
              have hgt : nWd N0 < nWd N := (bc_close (G3 := up G (c + 6) (nWd N - 1) (G (c + 6) (nWd N - 1) + 1)) (J3 := J) hw ha b u q (by rw [up_a (by omega)]) rfl (by rw [up_a (by omega)]) (by rw [up_is, cw_a]) (by rw [up_a (by omega)]) (by rw [up_a (by omega)])).2.2
              generalize hG1 : up G (c + 6) (nWd N - 1) (G (c + 6) (nWd N - 1) + 1) = G1
              have o1 : ∀ a, a ≠ c + 6 → G1 a = G a := fun a a1 => by rw [← hG1, up_a a1]
              have p6 : G1 (c + 6) = u1 (G (c + 6)) (nWd N - 1) (G (c + 6) (nWd N - 1) + 1) := by rw [← hG1, up_is, cw_a]
              obtain ⟨bc1, cz, -⟩ := bc_close (G3 := G1) (J3 := J) hw ha b u q (by rw [o1 _ (by omega)]) rfl (o1 _ (by omega)) p6 (o1 _ (by omega)) (o1 _ (by omega))
              obtain ⟨g1, fr1⟩ := cg_stg h g (G' := G1) (J' := J) (fun a _ _ a3 _ _ => o1 a a3) (fun a k a1 a2 a3 => by
                by_cases z : a = c + 6
                · subst z
                  rw [p6, u1_k (by omega)]
                · rw [o1 a z]) (fun _ _ => rfl) (fun _ _ => rfl)
              obtain ⟨G3, J3, t1, t2, t3⟩ := c_stepX h g1
              have l0 : fX5_readBody_l1 (some 68) (some (c + 3)) (nI d, nI (cntV (cF N) (nCl N0) (nCl N - nCl N0) (nWd N)), nI cnt) (wc σ G J) = some (.inl (nI (d - 1), nI (cntV (cF N) (nCl N0) (nCl N - nCl N0) (nWd N)), nI (cnt + 1)), wc σ G3 J3) := by
                unfold fX5_readBody_l1
                dsimp only
                rw [pc_s h, bnP_1, e2, bnP_1, if_neg hhead, bnP_1, ekd, bnP_1, if_neg (show ¬ nI (tkK f e p) = 1 from fun z => k1 ((kI h7 (by decide)).mp z)), bnP_1, ekd, bnP_1, if_neg (show ¬ nI (tkK f e p) = 4 from fun z => k4 ((kI h7 (by decide)).mp z)), bnP_1, ekd, bnP_1, if_pos (show nI (tkK f e p) = 5 by rw [k5]; rfl), if_neg (show ¬ nI d ≤ 0 from nI_ge (a := 0) (by omega) (by omega)), hz, if_pos (show nI 0 = 0 from rfl), esz, bnP_1, est, bnP_1, nI_add, show nWd N0 + (nWd N - nWd N0) = nWd N by omega, nI_m1 (by omega), c_closeBehind B hw.1 g.2.2.2 (by omega) (by omega), bnP_1, hG1, pc_s h, bnP_1, t1, bnP_1, show nI d + -1 = nI (d - 1) from nI_pO (by omega), nI_a1]
              have b1 := (bi_close hw ha b u).1
              obtain ⟨bb, G4, J4, u1', u2, u3⟩ := ih _ (tkX f e p) (cA N r) (d - 1) (cnt + 1) G3 J3 (hlt (by omega)) b1 t3 (bc_69 bc1 hc t2) (hcn (by omega)) F (by omega)
              rw [cz] at u1'
              rw [if_neg (fun z => z.elim y u), lpS_s F l0]
              exact ⟨bb, G4, J4, u1', pf_tr fr1 (pf_tr (pf_69 t2) u2), u3⟩
        · obtain ⟨G2, f1, f2, f3⟩ := er 1
          have f1' : fX5_fail (some 68) 1 (wc σ G J) = some (false, wc σ G2 J) := f1
          have l0 : fX5_readBody_l1 (some 68) (some (c + 3)) (nI d, nI (cntV (cF N) (nCl N0) (nCl N - nCl N0) (nWd N)), nI cnt) (wc σ G J) = if nI d = 0 then (if 0 < nI (nWd N - nWd N0) then some ((.inr (.inr true)), wc σ G J) else some ((.inr (.inr false)), wc σ G2 J)) else some ((.inr (.inr false)), wc σ G2 J) := by
            unfold fX5_readBody_l1
            dsimp only
            rw [pc_s h, bnP_1, e2, bnP_1, if_neg hhead, bnP_1, ekd, bnP_1, if_neg (show ¬ nI (tkK f e p) = 1 from fun z => k1 ((kI h7 (by decide)).mp z)), bnP_1, ekd, bnP_1, if_neg (show ¬ nI (tkK f e p) = 4 from fun z => k4 ((kI h7 (by decide)).mp z)), bnP_1, ekd, bnP_1, if_neg (show ¬ nI (tkK f e p) = 5 from fun z => k5 ((kI h7 (by decide)).mp z)), est, bnP_1, f1', bnS_1, if_neg (show ¬ (false = true) from Bool.false_ne_true)]
          by_cases y : d = 0
          · rw [if_pos (d0.mpr y)] at l0
            by_cases u : 0 < nWd N - nWd N0
            · have hs : stopB f e (nAc N0) N p d := ⟨y, fun z => by
                rw [h15] at z
                have := (nI_eq (b := 0) (by omega) (by decide)).mp z
                omega, k1, k4, k5⟩
              have hcur : cur = 0 := by
                by_cases z : cur = 0
                · exact z
                · exact absurd y (hcu.2.2 z)
              rw [if_pos (s0.mpr u)] at l0
              rw [if_pos hs, lpS_e F l0]
              subst y hcur
              exact ⟨true, G, J, rfl, pf_rf _ _ _, rfl, g, q, b, by show nWd N0 < nWd N; omega⟩
            · have hs : ¬ stopB f e (nAc N0) N p d := fun z => z.2.1 (by rw [h15, show nWd N - nWd N0 = 0 by omega]; rfl)
              rw [if_neg (fun z => u (s0.mp z))] at l0
              rw [if_neg hs, lpS_e F l0]
              unfold itS
              rw [if_neg k1, if_neg k4, if_neg k5]
              exact ⟨false, G2, J, rfl, f2, f3⟩
          · have hs : ¬ stopB f e (nAc N0) N p d := fun z => y z.1
            rw [if_neg (fun z => y (d0.mp z))] at l0
            rw [if_neg hs, lpS_e F l0]
            unfold itS
            rw [if_neg k1, if_neg k4, if_neg k5]
            exact ⟨false, G2, J, rfl, f2, f3⟩
end CB3
