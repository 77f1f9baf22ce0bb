/-! THE PURE LEVEL, 105: behind a row nothing is written -/
def zr (N : tN) : Prop := ∀ j, 6139 ≤ j → N j = 0
section ZRO
variable {σ : HpT} {f : Nat → Int32} {e p a n : Nat} {N N0 : tN} {r : Nat × tN} {kd : Int32}
theorem bd_bi (hw : WFN N0) (ha : nAc N0 < 10) : ∀ (n : Nat) (N : tN) (p cur d : Nat), BI N0 N kd cur d → bdS f e (nAc N0) n N p cur d = .ok r → BI N0 r.2 kd 0 0 := by
  intro n
  induction n with
  | zero =>
    intro N p cur d b h
    cases h
  | succ n ih =>
    intro N p cur d b h
    unfold bdS at h
    split at h
    · rename_i s
      cases h
      have hc := bi_cur b
      obtain rfl : d = 0 := s.1
      obtain rfl : cur = 0 := by
        by_cases z : cur = 0
        · exact z
        · exact absurd rfl (hc.2.2 z)
      exact b
    · cases q : itS f e (nAc N0) N p cur d with
      | error x =>
        rw [q] at h
        cases h
      | ok s =>
        obtain ⟨N', cur', d'⟩ := s
        rw [q] at h
        exact ih N' (tkX f e p) cur' d' (bi_it hw ha b q).1 h
theorem bi_z (b : BI N0 N kd 0 0) (hw : WFN N0) (ha : nAc N0 < 10) (z : zr N0) : zr N := fun j hj => by
  have hb := w1_b hw.1
  rw [b.1 j (by omega) (by omega) (by omega) (by omega) (by omega) (by omega) (by omega)]
  exact z j hj
theorem z_stk {f n : Nat} (hw : WFN N) (z : zr N) (hf : f + n ≤ 240) : zr (stkN N f n) := fun j hj => by
  have hb := w1_b hw.1
  rw [stk_o (by omega) (by omega)]
  exact z j hj
theorem op_in (hw : WFN N) {v : Nat} (q : v < opSz N) : opW N v < 240 ∧ opW N v < nWd N ∧ isO N := by
  have hb := w1_b hw.1
  obtain ⟨qo, qs⟩ := (opSz_b hw.1 hw.2.1).2 (by omega)
  have hl := act_le hw.1 hw.2.1 (a := nAc N - 1) (by have := qo.1; omega)
  unfold opW
  exact ⟨by omega, by omega, qo⟩
theorem ln_z (hw : WFN N) (z : zr N) (h : lnLine f e p N = .ok r) : zr r.2 := by
  have hb := w1_b hw.1
  have h12 := nlv_12 hw.1
  unfold lnLine at h
  split at h
  · unfold lnAct at h
    split at h
    · cases h
    · split at h
      · cases h
      · split at h
        · cases h
        · exact bi_z (bd_bi hw (by omega) _ _ _ _ _ (bi_bg hw (by omega) rfl) h) hw (by omega) z
  · split at h
    · unfold lnStrike at h
      split at h
      · cases h
      · rename_i v q
        have ho := op_in hw (nm_ok q).2.2.2
        split at h
        · cases h
          exact z_stk hw z (by omega)
        · cases h
    · split at h
      · unfold lnOut at h
        split at h
        · cases h
        · rename_i v q
          have ho := op_in hw (nm_ok q).2.2.2
          split at h
          · cases h
          · rename_i y
            cases h
            have hkb : cT N (wW N (opW N v) - 1) < 240 ∧ cF N (wW N (opW N v) - 1) ≤ cT N (wW N (opW N v) - 1) := by
              have ha : nAc N - 1 < nAc N := by have := ho.2.2.1; omega
              obtain ⟨qo, qs⟩ := (opSz_b hw.1 hw.2.1).2 (by have := (nm_ok q).2.2.2; omega)
              have hl := act_le hw.1 hw.2.1 ha
              have hv := (nm_ok q).2.2.2
              obtain ⟨-, -, s⟩ := w3_w hw.2.2.1 (a := nAc N - 1) (g := opW N v) ha (by unfold opW; omega) (by unfold opW; omega)
              rcases s with ⟨s, -⟩ | ⟨p', s1, s2, s3, s4, s5, s6⟩
              · exact absurd s y
              · have cl := w3_cl hw.2.2.1 (a := nAc N - 1) ha p' s2 s3
                rw [s1, Nat.add_sub_cancel]
                omega
            exact z_stk hw z (by omega)
      · split at h
        · unfold lnInsert at h
          split at h
          · cases h
          · rename_i v q
            have ho := op_in hw (nm_ok q).2.2.2
            split at h
            · split at h
              · cases h
                intro j hj
                show intN N (opW N v) _ _ j = 0
                rw [int_o (by omega) (by omega) (by omega) (by omega)]
                exact z j hj
              · cases h
            · cases h
        · split at h
          · unfold lnSeal at h
            split at h
            · cases h
            · split at h
              · cases h
              · split at h
                · cases h
                  intro j hj
                  show sealN N _ _ _ _ j = 0
                  rw [sl_o (by omega) (by omega) (by omega) (by omega)]
                  exact z j hj
                · cases h
          · split at h
            · unfold lnCancel at h
              split at h
              · cases h
                intro j hj
                show sealN N _ _ _ _ j = 0
                rw [sl_o (by omega) (by omega) (by omega) (by omega)]
                exact z j hj
              · cases h
            · split at h
              · unfold lnCopy at h
                split at h
                · cases h
                · split at h
                  · cases h
                  · split at h
                    · cases h
                    · split at h
                      · cases h
                        intro j hj
                        show adN N _ _ j = 0
                        rw [ad_o (by omega) (by omega) (by omega) (by omega)]
                        exact z j hj
                      · cases h
              · split at h
                · unfold lnShake at h
                  cases h
                  intro j hj
                  show shK N (nLv N) j = 0
                  rw [(sh_wf hw (nLv N) (Nat.le_refl _)).2.2.2 j (by omega)]
                  exact z j hj
                · unfold lnLeaf at h
                  split at h
                  · unfold lnLose at h
                    split at h
                    · cases h
                    · rename_i l q
                      split at h
                      · cases h
                      · cases h
                        intro j hj
                        show lsN (lfN N l 2) l j = 0
                        rw [(ls_lost hw (nm_ok q).2.2.2).2.2.2.1 j (by omega)]
                        exact z j hj
                  · split at h
                    · unfold lnFind at h
                      split at h
                      · cases h
                      · rename_i l q
                        split at h
                        · cases h
                          intro j hj
                          have hl := (nm_ok q).2.2.2
                          show bmN (lfN N l 0) l j = 0
                          rw [(bm_wf (l := l) (lf_wf (x := 0) hw hl (Or.inl rfl))).2.2.1 j (by rw [(lf_n2 (x := 0) hw hl).2]; omega), lf_o (by omega)]
                          exact z j hj
                        · cases h
                    · split at h
                      · unfold lnSew at h
                        split at h
                        · cases h
                        · rename_i l q
                          have hl := (nm_ok q).2.2.2
                          split at h
                          · cases h
                            intro j hj
                            show lfN N l 0 j = 0
                            rw [lf_o (by omega)]
                            exact z j hj
                          · cases h
                      · cases h
theorem mg_ex (he : e ≤ 600) (hp : p ≤ e) (hw : WFN N) : ∃ G, MGd f e p N G := by
  refine ⟨cw (cw (cw (fun _ _ => 0) 86 f) 81 N) 80 (fun k => if k = 12 then nI e else if k = 13 then nI (tkX f e p) else if k = 14 then nI (tkS f e p) else if k = 15 then nI ((tkK f e p + 1) % 7) else if k = 16 then nI (tkV f e p) else 0), ⟨he, hp, fun k hk => by rw [cw_b (by decide), cw_b (by decide), cw_a]⟩, ?_, hw, by rw [cw_b (by decide), cw_a]⟩
  rw [cw_a]
  exact ⟨rfl, rfl, rfl, rfl, fun _ => rfl, rfl⟩
theorem tx_z (h : MK σ 80) (hS : hN σ ≤ BIG) (he : e ≤ 600) : ∀ (n : Nat) (N : tN) (p : Nat), p ≤ e → WFN N → zr N → txS f e n N p = .ok r → zr r.2 ∧ WFN r.2 := by
  intro n
  induction n with
  | zero =>
    intro N p hp hw z q
    cases q
  | succ n ih =>
    intro N p hp hw z q
    unfold txS at q
    split at q
    · cases q
      exact ⟨z, hw⟩
    · split at q
      · cases q1 : lnLine f e (tkX f e p) N with
        | error x =>
          rw [q1] at q
          cases q
        | ok r1 =>
          rw [q1] at q
          obtain ⟨G, g⟩ := mg_ex (f := f) he (tkx_le (f := f) hp).2 hw
          obtain ⟨G2, -, -, r2⟩ := ml_line h hS g
          rw [q1] at r2
          exact ih r1.2 r1.1 r2.1.2.1 r2.2.2.1 (ln_z hw z q1) q
      · cases q
theorem ld_z (h : MK σ 80) (hS : hN σ ≤ BIG) (he : e ≤ 600) (q : ldS f e = .ok r) : zr r.2 ∧ WFN r.2 := by
  unfold ldS at q
  cases q1 : hdS f e with
  | error x =>
    rw [q1] at q
    cases q
  | ok w =>
    rw [q1] at q
    have hw : w.1 ≤ e ∧ WFN w.2 ∧ zr w.2 := by
      unfold hdS at q1
      split at q1
      · split at q1
        · cases q1
        · rename_i r0 n1
          split at q1
          · cases q1
          · rename_i t0 n2
            split at q1
            · cases q1
            · rename_i q0 n3
              cases q1
              have hq1 := nm_ok n1
              have hq2 := nm_ok n2
              have hq3 := nm_ok n3
              obtain ⟨wf, -, -, -, -, no⟩ := nw_wf (r := r0) (t := t0) (q := q0) hq1.2.2.1 hq1.2.2.2 hq2.2.2.2 hq3.2.2.1 hq3.2.2.2
              have e0 := (tkx_le (f := f) (Nat.zero_le e)).2
              have e1 := (tkx_le (f := f) e0).2
              have e2 := (tkx_le (f := f) e1).2
              exact ⟨(tkx_le (f := f) e2).2, wf, fun j hj => no j (by omega)⟩
      · cases q1
    exact tx_z h hS he (e + 1) w.2 w.1 hw.1 hw.2.1 hw.2.2 q
end ZRO
