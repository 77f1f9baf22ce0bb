/-! THE PURE LEVEL, 12: KNOWN, FIRSTUNKNOWN, LEAVESFOR -/
theorem act_le {N : Nat → Int32} (w1 : W1 N) (w2 : W2 N) {a : Nat} (ha : a < nAc N) : aF N a + aM N a ≤ nWd N := by
  have e := (act_ok w1 w2 (a := nAc N - 1) (by omega)).2.2.1 (by omega)
  by_cases q : a = nAc N - 1
  · rw [← q] at e
    omega
  · have := act_mono w1 w2 (j := a) (nAc N - 1) (by omega) (by omega)
    omega
section LQ2
variable {σ : HpT} {G : Nat → Nat → Int32} {J : Nat → Nat → Int64} {o b m d : Nat} {N : Nat → Int32}
theorem c_requireAct0 (h : NK σ o b) (w1 : W1 N) (r : RB G J b N) {v : Int32} (e : inR v (nI 1) (N 3) = false) : fX9_requireAct (some o) v (wc σ G J) = some (.error 1) := by
  have hb := w1_b w1
  unfold fX9_requireAct
  rw [nk_o h, bnP_1]
  by_cases h1 : v < 1
  · rw [if_pos h1]
  · rw [if_neg h1, nk_b h, bnP_1, bk_I (nk_B h), bnP_1, r.1.2.2.1]
    by_cases h2 : v ≤ N 3
    · exfalso
      have : inR v (nI 1) (N 3) = true := by
        unfold inR
        rw [decide_eq_true (show nI 1 ≤ v from Int32.not_lt.mp h1), decide_eq_true h2]
        rfl
      rw [this] at e
      cases e
    · rw [if_neg h2]
theorem c_requireAct1 (h : NK σ o b) (w1 : W1 N) (r : RB G J b N) {a : Nat} (ha : a < nAc N) : fX9_requireAct (some o) (nI (a + 1)) (wc σ G J) = some (.ok (some (b + 15 + a))) := by
  have hb := w1_b w1
  unfold fX9_requireAct
  rw [nk_o h, bnP_1, if_neg (by rw [li_1, nI_ltI (by omega) (by omega)]; omega), nk_b h, bnP_1, bk_I (nk_B h), bnP_1, rb_n r w1, if_pos (by rw [nI_leI (by omega) (by omega)]; omega), bnP_1, bk_r6 (nk_B h), bnP_1, nI_pred, bk_aR (nk_B h) (by omega), bnP_1]
end LQ2
