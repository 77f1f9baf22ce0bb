/-! THE PURE LEVEL, 57: the book shaken once, both sides -/
def lsB (M : Nat → Int32) (i : Nat) : Bool := decide (M (99 + i) = 1)
section SHK
variable {σ : HpT} {G G1 G2 : Nat → Nat → Int32} {J J2 : Nat → Nat → Int64} {b L : Nat} {N M : Nat → Int32} {l : Nat}
theorem lvr_fr (r : LvR G L M) (h0 : ∀ k, G1 L k = G L k) (h1 : ∀ k, G1 (L + 1) k = G (L + 1) k) : LvR G1 L M := ⟨by rw [h0]; exact r.1, by rw [h0]; exact r.2.1, fun l hl => by rw [h1]; exact r.2.2 l hl⟩
theorem l_dropLoose (h : LK σ L) (hw : WFN M) (r : LvR G L M) : ∃ G2, fX4_dropLoose (some L) (wc σ G J) = some (nI (cntN (lsB M) (nLv M)), wc σ G2 J) ∧ (∀ a, a ≠ L + 1 → a ≠ L + 2 → G2 a = G a) ∧ LvR G2 L (shK M (nLv M)) := by
  have h12 := nlv_12 hw.1
  obtain ⟨r1, S1, e1, rfl, G1, rfl, f1, l1, z1⟩ := lpS_i (f := fX4_dropLoose_l1 (some L)) (fun n (a : Int32 × Int32) S => ∃ k G', k + n = nLv M ∧ a = (nI (cntN (lsB M) k), nI k) ∧ S = wc σ G' J ∧ (∀ a, a ≠ L + 1 → a ≠ L + 2 → G' a = G a) ∧ LvR G' L (drK M k) ∧ ∀ i, i < k → G' (L + 2) i = bI (lsB M i)) (fun (q : Int32) S => q = nI (cntN (lsB M) (nLv M)) ∧ ∃ G', S = wc σ G' J ∧ (∀ a, a ≠ L + 1 → a ≠ L + 2 → G' a = G a) ∧ LvR G' L (drK M (nLv M)) ∧ ∀ i, i < nLv M → G' (L + 2) i = bI (lsB M i)) (nLv M) FUEL (0, 0) (wc σ G J) (show nLv M < 200000 by omega) ⟨0, G, Nat.zero_add _, rfl, rfl, fun _ _ _ => rfl, r, fun i hi => absurd hi (Nat.not_lt_zero i)⟩ (by
    rintro n a S ⟨k, G', hk, rfl, rfl, fr, lv, zz⟩
    have hk2 : k < nLv M := by omega
    obtain ⟨d1, d2, d3, d4⟩ := dr_wf hw k (by omega)
    refine Or.inl ?_
    have ex : G' (L + 1) k = M (99 + k) := by rw [lv.2.2 k (by omega), d4 _ (by omega)]
    unfold fX4_dropLoose_l1
    dsimp only
    rw [lk_I h, bnP_1, lv.2.1, d2, if_neg (nI_ge hk2 (by omega)), lk_r3 h, bnP_1, lk_r2 h, bnP_1, lk_a2 h (by omega), bnP_1, ex]
    have lv2 : ∀ x, LvR (up G' (L + 2) k x) L (drK M k) := fun x => lvr_fr lv (fun j => by rw [up_a (by omega)]) (fun j => by rw [up_a (by omega)])
    by_cases q : M (99 + k) = 1
    · have eb : lsB M k = true := decide_eq_true q
      rw [if_pos q, bnP_1]
      dsimp only
      rw [lk_s3 h (by omega), bnP_1, lk_r3 h, bnP_1, lk_a3 h (by omega), bnP_1, up_eq, if_neg (show ¬ vp_nar .boolean 1 = 0 by decide), lk_r2 h, bnP_1, lk_s2 h (by omega), bnP_1]
      refine ⟨_, _, rfl, k + 1, _, by omega, ?_, rfl, fun a h1 h2 => by rw [up_a h1, up_a h2]; exact fr a h1 h2, ?_, fun i hi => ?_⟩
      · rw [nI_a1, nI_a1, show cntN (lsB M) (k + 1) = cntN (lsB M) k + 1 by
          show cntN (lsB M) k + (if lsB M k = true then 1 else 0) = _
          rw [eb, if_pos rfl]]
      · show LvR _ L (if M (99 + k) = 1 then lfN (drK M k) k 2 else drK M k)
        rw [if_pos q]
        exact rl_set d1 (by omega) (lv2 _) 2
      · rw [up_a (by omega)]
        by_cases z : i = k
        · rw [z, up_eq, eb]
          rfl
        · rw [up_k z]
          exact zz i (by omega)
    · have eb : lsB M k = false := decide_eq_false q
      rw [if_neg q, bnP_1]
      dsimp only
      rw [lk_s3 h (by omega), bnP_1, lk_r3 h, bnP_1, lk_a3 h (by omega), bnP_1, up_eq, if_pos (show vp_nar .boolean 0 = 0 by decide)]
      refine ⟨_, _, rfl, k + 1, _, by omega, ?_, rfl, fun a h1 h2 => by rw [up_a h2]; exact fr a h1 h2, ?_, fun i hi => ?_⟩
      · rw [nI_a1, show cntN (lsB M) (k + 1) = cntN (lsB M) k by
          show cntN (lsB M) k + (if lsB M k = true then 1 else 0) = _
          rw [eb, if_neg (by decide), Nat.add_zero]]
      · show LvR _ L (if M (99 + k) = 1 then lfN (drK M k) k 2 else drK M k)
        rw [if_neg q]
        exact lv2 _
      · by_cases z : i = k
        · rw [z, up_eq, eb]
          rfl
        · rw [up_k z]
          exact zz i (by omega)) (by
    rintro a S ⟨k, G', hk, rfl, rfl, fr, lv, zz⟩
    obtain rfl : k = nLv M := by omega
    obtain ⟨d1, d2, d3, d4⟩ := dr_wf hw (nLv M) (Nat.le_refl _)
    refine ⟨_, _, ?_, rfl, G', rfl, fr, lv, zz⟩
    unfold fX4_dropLoose_l1
    dsimp only
    rw [lk_I h, bnP_1, lv.2.1, d2, if_pos (nI_le (Nat.le_refl _) (by omega))])
  obtain ⟨r2, S2, e2, G2, rfl, f2, l2⟩ := lpS_i (f := fX4_dropLoose_l2 (some L) (nI (cntN (lsB M) (nLv M)))) (fun n (a : Int32) S => ∃ k G', k + n = nLv M ∧ a = nI k ∧ S = wc σ G' J ∧ (∀ a, a ≠ L + 1 → a ≠ L + 2 → G' a = G a) ∧ LvR G' L (shK M k) ∧ ∀ i, i < nLv M → G' (L + 2) i = bI (lsB M i)) (fun (_ : Unit) S => ∃ G', S = wc σ G' J ∧ (∀ a, a ≠ L + 1 → a ≠ L + 2 → G' a = G a) ∧ LvR G' L (shK M (nLv M))) (nLv M) FUEL 0 (wc σ G1 J) (show nLv M < 200000 by omega) ⟨0, G1, Nat.zero_add _, rfl, rfl, f1, l1, z1⟩ (by
    rintro n a S ⟨k, G', hk, rfl, rfl, fr, lv, zz⟩
    have hk2 : k < nLv M := by omega
    obtain ⟨d1, d2, d3, d4⟩ := sh_wf hw k (by omega)
    refine Or.inl ?_
    unfold fX4_dropLoose_l2
    rw [lk_I h, bnP_1, lv.2.1, d2, if_neg (nI_ge hk2 (by omega)), lk_r3 h, bnP_1, lk_a3 h (by omega), bnP_1, zz k hk2]
    by_cases q : M (99 + k) = 1
    · have eb : lsB M k = true := decide_eq_true q
      obtain ⟨G3, e3, f3, r3⟩ := l_loosen (J := J) h d1 lv (l := k) (by omega)
      rw [eb, if_neg (show ¬ bI true = 0 by decide), e3, bnP_1]
      refine ⟨_, _, rfl, k + 1, G3, by omega, nI_a1 k, rfl, fun a h1 h2 => (f3 a h1).trans (fr a h1 h2), ?_, fun i hi => by rw [f3 (L + 2) (by omega)]; exact zz i hi⟩
      show LvR G3 L (if M (99 + k) = 1 then lsN (shK M k) k else shK M k)
      rw [if_pos q]
      exact r3
    · have eb : lsB M k = false := decide_eq_false q
      rw [eb, if_pos (show bI false = 0 by decide)]
      refine ⟨_, _, rfl, k + 1, G', by omega, nI_a1 k, rfl, fr, ?_, zz⟩
      show LvR G' L (if M (99 + k) = 1 then lsN (shK M k) k else shK M k)
      rw [if_neg q]
      exact lv) (by
    rintro a S ⟨k, G', hk, rfl, rfl, fr, lv, zz⟩
    obtain rfl : k = nLv M := by omega
    obtain ⟨d1, d2, d3, d4⟩ := sh_wf hw (nLv M) (Nat.le_refl _)
    refine ⟨(), _, ?_, G', rfl, fr, lv⟩
    unfold fX4_dropLoose_l2
    rw [lk_I h, bnP_1, lv.2.1, d2, if_pos (nI_le (Nat.le_refl _) (by omega))])
  refine ⟨G2, ?_, f2, l2⟩
  unfold fX4_dropLoose
  rw [lk_o h, bnP_1, e1, bnS_1, e2, bnS_1]
end SHK
