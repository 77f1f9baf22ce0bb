/-! p56, pure: the words of an act are read -/
def BRw (f : Nat → Int32) (e : Nat) (N0 : tN) (kd : Int32) (X : PRes) (d k : Nat) (rest : List Nat) : Prop := ∃ n N p cur, X = bdS f e (nAc N0) n N p cur d ∧ e < n + p ∧ ATT f e p rest ∧ BI N0 N kd cur d ∧ nWd N = nWd N0 + k
def BRs (f : Nat → Int32) (e : Nat) (N0 : tN) (kd : Int32) (X : PRes) (d k : Nat) (rest : List Nat) : Prop := ∃ n N p cur, X = bdS f e (nAc N0) n N p cur d ∧ e < n + p ∧ ATT f e p rest ∧ BI N0 N kd cur d ∧ nWd N = nWd N0 + k ∧ ∀ c, nCl N0 ≤ c → c < nCl N → cF N c < nWd N
section P56XB
variable {f : Nat → Int32} {e p q c n a d d' k cur cur' : Nat} {l w rest : List Nat} {N0 N N' : tN} {kd : Int32} {X : PRes}
theorem br_w (h : BRs f e N0 kd X d k rest) : BRw f e N0 kd X d k rest := by
  obtain ⟨n, N, p, cur, h1, h2, h3, h4, h5, -⟩ := h
  exact ⟨n, N, p, cur, h1, h2, h3, h4, h5⟩
theorem bd_go (h : ¬ stopB f e a N p d) (q : itS f e a N p cur d = .ok (N', cur', d')) : bdS f e a (n + 1) N p cur d = bdS f e a n N' (tkX f e p) cur' d' := by
  show (if stopB f e a N p d then Except.ok (p, N) else match itS f e a N p cur d with
    | .error x => .error x
    | .ok (N', cur', d') => bdS f e a n N' (tkX f e p) cur' d') = _
  rw [if_neg h, q]
theorem br_open (hw : WFN N0) (ha : nAc N0 < 10) (h : BRs f e N0 kd X d k (40 :: rest)) (hd : d < 4) : BRw f e N0 kd X (d + 1) k rest := by
  obtain ⟨n, N, p, cur, h1, h2, h3, h4, h5, h6⟩ := h
  obtain ⟨t1, t2, t3, t4⟩ := tk_si h3 (Or.inl rfl)
  have t3 : tkK f e p = 4 := t3
  have hp := (at_hd h3).2.1
  obtain ⟨n, rfl⟩ : ∃ m, n = m + 1 := ⟨n - 1, by omega⟩
  have hb := bi_b hw h4
  have hcur := (bi_cur h4).1
  have hwb := w1_b hw.1
  have hq : itS f e (nAc N0) N p cur d = .ok (obN N (nAc N0) cur, nCl N + 1, d + 1) := by
    unfold itS
    rw [t3, if_neg (by decide), if_pos rfl, if_neg (by omega)]
  refine ⟨n, obN N (nAc N0) cur, p + 1, nCl N + 1, ?_, by omega, t4, bi_open hw ha h4 hd (by omega), ?_⟩
  · rw [h1, bd_go (fun s => s.2.2.2.1 t3) hq, t2]
  · rw [← h5]
    refine nv_e ?_
    unfold obN
    rw [if_neg (by omega), if_neg (by omega), if_neg (by omega), if_neg (by omega), if_neg (by omega)]
theorem br_word (hw : WFN N0) (ha : nAc N0 < 10) (h : BRw f e N0 kd X d k (32 :: (w ++ rest))) (hk : nWd N0 + k < 12 * nRm N0) (h0 : 0 < w.length) (h8 : w.length ≤ 8) (hww : ∀ b ∈ w, 97 ≤ b ∧ b ≤ 122) (hl : ∀ x l', rest = x :: l' → ¬ (97 ≤ x ∧ x ≤ 122)) : BRs f e N0 kd X d (k + 1) rest := by
  obtain ⟨n, N, p, cur, h1, h2, h3, h4, h5⟩ := h
  obtain ⟨-, hp, -, h3'⟩ := at_hd h3
  obtain ⟨t1, t2, t3, -, t5⟩ := tk_wo h3' h0 h8 hww hl
  obtain ⟨s1, s2, -⟩ := tk_sm (tk_bl h3)
  obtain ⟨n, rfl⟩ : ∃ m, n = m + 1 := ⟨n - 1, by omega⟩
  have hb := bi_b hw h4
  have hcur := (bi_cur h4).1
  have hwb := w1_b hw.1
  have hrm := (bi_rm hw h4).1
  have hlt : nWd N / nRm N < 12 := Nat.div_lt_of_lt_mul (by rw [Nat.mul_comm, hrm]; omega)
  have hq : itS f e (nAc N0) N p cur d = .ok (adW N (nAc N0) cur (wLo f e p) (wHi f e p), cur, d) := by
    unfold itS
    rw [if_pos (s2.trans t3), if_neg (by rw [hrm]; omega)]
  have B' := (bi_word (lo := wLo f e p) (hi := wHi f e p) hw ha h4 (by omega) (by omega)).1
  have n4 : nWd (adW N (nAc N0) cur (wLo f e p) (wHi f e p)) = nWd N + 1 := nv_n (adw_n hlt ha).2.2 (by omega)
  have n5 : nCl (adW N (nAc N0) cur (wLo f e p) (wHi f e p)) = nCl N := nv_e (adw_o hlt (by omega) (by omega) ha (by omega) (by omega) (by omega))
  refine ⟨n, _, p + 1 + w.length, cur, ?_, by omega, t5, B', by omega, fun c hc1 hc2 => ?_⟩
  · rw [h1, bd_go (fun s => s.2.2.1 (s2.trans t3)) hq, s1, t2]
  · rw [n5] at hc2
    have hc3 := ((h4.2.2.2.2.2.1.2.1 c hc1 (by omega)).1).2.1
    have e1 : cF (adW N (nAc N0) cur (wLo f e p) (wHi f e p)) c = cF N c := nv_e (adw_o hlt (by omega) (by omega) ha (by omega) (by omega) (by omega))
    rw [e1, n4]
    omega
theorem br_close (hw : WFN N0) (ha : nAc N0 < 10) (h : BRs f e N0 kd X d k (41 :: rest)) (hd : 0 < d) : BRs f e N0 kd X (d - 1) k rest := by
  obtain ⟨n, N, p, cur, h1, h2, h3, h4, h5, h6⟩ := h
  obtain ⟨t1, t2, t3, t4⟩ := tk_si h3 (Or.inr (Or.inl rfl))
  have t3 : tkK f e p = 5 := t3
  have hp := (at_hd h3).2.1
  obtain ⟨n, rfl⟩ : ∃ m, n = m + 1 := ⟨n - 1, by omega⟩
  have hb := bi_b hw h4
  have hwb := w1_b hw.1
  obtain ⟨c, rfl⟩ := (bi_cur h4).2.1 (by omega)
  have hcc := (bi_cur h4).1
  have hne : cF N c ≠ nWd N := by
    by_cases z : nCl N0 ≤ c
    · have := h6 c z (by omega)
      omega
    · exfalso
      obtain ⟨-, -, -, -, hs⟩ := h4.2.2.2.2.2.1
      rcases hs with ⟨b1, b2⟩ | ⟨p2, b1, b2, b3, b4, b5⟩
      · omega
      · omega
  obtain ⟨B', b1, b2, b3⟩ := bi_close hw ha h4 hne
  have hq : itS f e (nAc N0) N p (c + 1) d = .ok (cbN N c, cA N c, d - 1) := by
    unfold itS
    rw [t3, if_neg (by decide), if_neg (by decide), if_pos rfl, Nat.add_sub_cancel, if_neg (by omega)]
  have oN : ∀ j, j ≠ 3248 + 3 * c → cbN N c j = N j := fun j hj => by
    unfold cbN
    rw [u1_k hj]
  have n4 : nWd (cbN N c) = nWd N := nv_e (oN 4 (by omega))
  have n5 : nCl (cbN N c) = nCl N := nv_e (oN 5 (by omega))
  refine ⟨n, cbN N c, p + 1, cA N c, ?_, by omega, t4, B', by omega, fun c2 hc1 hc2 => ?_⟩
  · rw [h1, bd_go (fun s => s.2.2.2.2 t3) hq, t2]
  · rw [n4, show cF (cbN N c) c2 = cF N c2 from nv_e (oN _ (by omega))]
    exact h6 c2 hc1 (by omega)
theorem br_end (hw : WFN N0) (h : BRs f e N0 kd X 0 k rest) (hk : 0 < k) (hl : rest = [] ∨ ∃ l, rest = 59 :: l) : ∃ p N, X = .ok (p, N) ∧ ATT f e p rest ∧ BI N0 N kd 0 0 ∧ nWd N = nWd N0 + k := by
  obtain ⟨n, N, p, cur, h1, h2, h3, h4, h5, h6⟩ := h
  have hp := at_le h3
  obtain ⟨n, rfl⟩ : ∃ m, n = m + 1 := ⟨n - 1, by omega⟩
  have hb := bi_b hw h4
  have hz : cur = 0 := by
    by_cases z : cur = 0
    · exact z
    · exact absurd rfl ((bi_cur h4).2.2 z)
  rw [hz] at h4 h1
  have kk : tkK f e p = 0 ∨ tkK f e p = 3 := by
    rcases hl with rfl | ⟨l, rfl⟩
    · exact Or.inl (tk_en h3).1
    · exact Or.inr (tk_si h3 (Or.inr (Or.inr rfl))).2.2.1
  have n15 : N (15 + 9 * nAc N0) ≠ 0 := by
    rw [h4.2.2.1.2.2.1]
    exact nI_ne0 (by omega) (by omega)
  refine ⟨p, N, ?_, h3, h4, h5⟩
  rw [h1]
  show (if stopB f e (nAc N0) N p 0 then Except.ok (p, N) else _) = _
  rw [if_pos ⟨rfl, n15, by omega, by omega, by omega⟩]
theorem wd_lt : ∀ u, u < 32 → (0 < (wdB u).length ∧ (wdB u).length ≤ 8 ∧ ∀ b ∈ wdB u, 97 ≤ b ∧ b ≤ 122) := by decide +kernel
theorem it_nl {u dd : Nat} {us : Nat → Nat} {rest : List Nat} (hr : ∀ x l', rest = x :: l' → ¬ (97 ≤ x ∧ x ≤ 122)) : ∀ x l', itC u dd ++ rest = x :: l' → ¬ (97 ≤ x ∧ x ≤ 122) := fun x l' q => by
  unfold itC at q
  split at q
  · cases q
    omega
  · exact hr x l' q
theorem br_item (hw : WFN N0) (ha : nAc N0 < 10) {u : Nat} (hu : u < 32) (h : BRs f e N0 kd X d k (itL u d ++ rest)) (hk : nWd N0 + k < 12 * nRm N0) (hr : ∀ x l', rest = x :: l' → ¬ (97 ≤ x ∧ x ≤ 122)) : BRs f e N0 kd X (itD2 u d) (k + 1) rest := by
  obtain ⟨w1, w2, w3⟩ := wd_lt u hu
  have e1 : itL u d ++ rest = itO u d ++ (32 :: (wdB u ++ (itC u d ++ rest))) := by
    unfold itL
    simp only [List.append_assoc, List.cons_append, List.nil_append]
  rw [e1] at h
  have h2 : BRw f e N0 kd X (itD1 u d) k (32 :: (wdB u ++ (itC u d ++ rest))) := by
    unfold itO at h
    unfold itD1
    by_cases z : itOp u d = true
    · rw [if_pos z] at h ⊢
      have zd : d < 4 := (of_decide_eq_true z).2
      exact br_open hw ha h zd
    · rw [if_neg z] at h ⊢
      exact br_w h
  have h3 := br_word hw ha h2 hk w1 w2 w3 (it_nl (us := fun _ => 0) hr)
  unfold itC at h3
  unfold itD2
  by_cases z : itCl u d = true
  · rw [if_pos z] at h3 ⊢
    exact br_close hw ha h3 (of_decide_eq_true z).2
  · rw [if_neg z] at h3 ⊢
    exact h3
theorem it_h {u dd : Nat} : ∃ x l, itL u dd = x :: l ∧ ¬ (97 ≤ x ∧ x ≤ 122) := by
  unfold itL itO
  split
  · exact ⟨40, _, rfl, by omega⟩
  · exact ⟨32, _, rfl, by omega⟩
theorem br_body (hw : WFN N0) (ha : nAc N0 < 10) {us : Nat → Nat} (hu : ∀ k, us k < 32) : ∀ k rest, nWd N0 + k ≤ 12 * nRm N0 → (∀ x l', rest = x :: l' → ¬ (97 ≤ x ∧ x ≤ 122)) → BRs f e N0 kd X 0 0 (bdL us k ++ rest) → BRs f e N0 kd X (bdD us k) k rest
  | 0, rest, _, _, h => h
  | k + 1, rest, hk, hr, h => by
    have e1 : bdL us (k + 1) ++ rest = bdL us k ++ (itL (us k) (bdD us k) ++ rest) := List.append_assoc _ _ _
    rw [e1] at h
    refine br_item hw ha (hu k) (br_body hw ha hu k _ (by omega) (fun x l' q => ?_) h) (by omega) hr
    obtain ⟨y, l, e2, hy⟩ := it_h (u := us k) (dd := bdD us k)
    rw [e2] at q
    cases q
    exact hy
theorem br_tail (hw : WFN N0) (ha : nAc N0 < 10) : ∀ d, BRs f e N0 kd X d k (List.replicate d 41 ++ rest) → BRs f e N0 kd X 0 k rest
  | 0, h => h
  | d + 1, h => br_tail hw ha d (br_close hw ha (d := d + 1) (rest := List.replicate d 41 ++ rest) h (Nat.succ_pos d))
/-- the blank ahead of the words -/
theorem br_bl (hw : WFN N0) (h : BRs f e N0 kd X d 0 (32 :: rest)) : BRs f e N0 kd X d 0 rest := by
  obtain ⟨n, N, p, cur, h1, h2, h3, h4, h5, h6⟩ := h
  obtain ⟨-, hp, -, h3'⟩ := at_hd h3
  have s0 := tk_bl h3
  obtain ⟨s1, s2, -⟩ := tk_sm s0
  obtain ⟨n, rfl⟩ : ∃ m, n = m + 1 := ⟨n - 1, by omega⟩
  have n15 : N (15 + 9 * nAc N0) = 0 := by
    rw [h4.2.2.1.2.2.1, h5, Nat.add_zero, Nat.sub_self]
    rfl
  refine ⟨n + 1, N, p + 1, cur, ?_, by omega, h3', h4, h5, h6⟩
  rw [h1]
  have hit : itS f e (nAc N0) N p cur d = itS f e (nAc N0) N (p + 1) cur d := by
    unfold itS wLo wHi
    rw [s0, s1, s2]
  show (if stopB f e (nAc N0) N p d then Except.ok (p, N) else match itS f e (nAc N0) N p cur d with
    | .error x => .error x
    | .ok (N', cur', d') => bdS f e (nAc N0) n N' (tkX f e p) cur' d') = (if stopB f e (nAc N0) N (p + 1) d then Except.ok (p + 1, N) else match itS f e (nAc N0) N (p + 1) cur d with
    | .error x => .error x
    | .ok (N', cur', d') => bdS f e (nAc N0) n N' (tkX f e (p + 1)) cur' d')
  rw [if_neg (fun q => q.2.1 n15), if_neg (fun q => q.2.1 n15), hit, s1]
/-- the act line -/
theorem ln_act (hw : WFN N0) (ha : nAc N0 < 10) {us : Nat → Nat} (hu : ∀ k, us k < 32) (hk : nWd N0 + k ≤ 12 * nRm N0) (hk0 : 0 < k) (hp : ATT f e p (32 :: (bdL us k ++ List.replicate (bdD us k) 41 ++ rest))) (hl : rest = [] ∨ ∃ l, rest = 59 :: l) : ∃ p' N, bdS f e (nAc N0) (e + 1) (bgN N0 kd) p 0 0 = .ok (p', N) ∧ ATT f e p' rest ∧ BI N0 N kd 0 0 ∧ nWd N = nWd N0 + k := by
  have hb := w1_b hw.1
  have c4 : nWd (bgN N0 kd) = nWd N0 := nv_e (by
    unfold bgN
    rw [if_neg (by omega), if_neg (by omega), if_neg (by omega), if_neg (by omega), if_neg (by omega)])
  have c5 : nCl (bgN N0 kd) = nCl N0 := nv_e (by
    unfold bgN
    rw [if_neg (by omega), if_neg (by omega), if_neg (by omega), if_neg (by omega), if_neg (by omega)])
  rw [List.append_assoc] at hp
  have h0 : BRs f e N0 kd (bdS f e (nAc N0) (e + 1) (bgN N0 kd) p 0 0) 0 0 (bdL us k ++ (List.replicate (bdD us k) 41 ++ rest)) := br_bl hw ⟨e + 1, bgN N0 kd, p, 0, rfl, by omega, hp, bi_bg hw ha rfl, by omega, fun c h1 h2 => by omega⟩
  have h1 := br_body hw ha hu k _ hk (fun x l' q => ?_) h0
  · exact br_end hw (br_tail hw ha _ h1) hk0 hl
  · cases hd : bdD us k with
    | zero =>
      rw [hd] at q
      rcases hl with rfl | ⟨l, rfl⟩
      · cases q
      · cases q
        omega
    | succ m =>
      rw [hd] at q
      cases q
      omega
end P56XB
