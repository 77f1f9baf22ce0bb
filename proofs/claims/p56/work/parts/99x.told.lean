/-! p56, pure: the text is told -/
theorem kd_len (kd : Nat) : (kKd kd).length ≤ 4 := by
  unfold kKd
  rw [List.length_take]
  omega
theorem txt_len (R nd Q kd : Nat) {B1 B2 : List Nat} (st : Bool) (h1 : B1.length ≤ 34) (h2 : B2.length ≤ 34) : (txtL R nd Q kd B1 st B2).length ≤ 128 := by
  have hk := kd_len kd
  have hs : (if st = true then kStr else ([] : List Nat)).length ≤ 9 := by
    cases st
    · exact Nat.zero_le 9
    · exact Nat.le_refl 9
  unfold txtL
  simp only [List.length_append, List.length_cons, List.length_nil]
  rw [show kBook.length = 5 from rfl, show kAct.length = 5 from rfl, show kIns.length = 20 from rfl, show kLoan.length = 10 from rfl]
  omega
theorem told_1 (L : Nat) (xs : Nat → Int32) : ∃ R nd Q kd st v1 c1 v2 c2, (4 ≤ R ∧ R ≤ 5 ∧ nd < 2 ∧ 2 ≤ Q ∧ Q ≤ 4 ∧ kd < 3 ∧ c1 < 4 ∧ c2 < 4) ∧ ∃ S i j x σ' i2 j2 G' J f e, prC (σE L xs) = some (.ok (some 0, some 80, some 81), S, i, j) ∧ i ≤ 1000 ∧ j ≤ 100000 ∧ fL_text (some 81) (some (BIG + 204)) S = some (.ok x, σ', i2, j2) ∧ i2 ≤ 700 ∧ j2 ≤ 700 * 700 ∧ hN σ' ≤ 685 ∧ fL_told (some 0) (some 80) x σ' = some (nI (txtL R nd Q kd (bodyB v1 c1) st (bodyB v2 c2)).length, wc σ' G' J) ∧ CR σ' G' J 2 35 0 (fun i => if i = 0 then some 2 else if i = 1 then some 35 else none) 79 (0, 0, nO) (e, f) (fun _ => 0) (0, fun _ _ => 0) (fun _ => false, fun _ _ => 0) (0, fun _ => 0) ∧ AW (0, 0, nO) (e, f) (fun _ => 0) (0, fun _ _ => 0) (fun _ => false, fun _ _ => 0) (0, fun _ => 0) ∧ (txtL R nd Q kd (bodyB v1 c1) st (bodyB v2 c2)).length ≤ e ∧ (∀ k, k < (txtL R nd Q kd (bodyB v1 c1) st (bodyB v2 c2)).length → f k = nI ((txtL R nd Q kd (bodyB v1 c1) st (bodyB v2 c2)).getD k 0)) ∧ (hK σ' 80 = 20 ∧ hZ σ' 80 = 7) ∧ G' 80 5 = 0 ∧ G' 80 6 = 0 ∧ ∀ b ∈ txtL R nd Q kd (bodyB v1 c1) st (bodyB v2 c2), b < 128 := by
  obtain ⟨S, S1, i, j, e1, hi, hj, hn, hf, hn1, hS, hm, hd, hlv, hla⟩ := pro_2 L xs
  obtain ⟨r, σ', i2, j2, e2, hi2, hj2, x, y, R, nd, Q, kd, st, v1, c1, v2, c2, hb, rfl, hx, xn, yn, ylo, kp, n1, n2⟩ := tx_text (lo := 81) hd hlv hla ⟨by decide, by decide, by decide, by decide⟩ (by rw [hn]; decide)
  refine ⟨R, nd, Q, kd, st, v1, c1, v2, c2, hb, ?_⟩
  have hlen := txt_len R nd Q kd st (body_len v1 hb.2.2.2.2.2.2.1) (body_len v2 hb.2.2.2.2.2.2.2)
  generalize txtL R nd Q kd (bodyB v1 c1) st (bodyB v2 c2) = Lt at *
  have h14 : ∀ a, a < 81 → hK S1 a ≠ 14 := by
    have hf2 := hf
    unfold proF at hf2
    simp only [Bool.and_eq_true] at hf2
    exact n14_s hf2.2.2.2.1
  have ns : ∀ a, a < 81 → ¬ (hK S a = 14 ∨ 81 ≤ a) := fun a ha q => by
    rcases q with q | q
    · rw [(hS a ha).1] at q
      exact h14 a ha q
    · omega
  have eK : ∀ a, a < 81 → hK σ' a = hK S1 a := fun a ha => ((kp.2 a (by omega)).1).trans (hS a ha).1
  have eZ : ∀ a, a < 81 → hZ σ' a = hZ S1 a := fun a ha => ((kp.2 a (by omega)).2.1).trans (hS a ha).2.1
  have eR : ∀ a k, a < 81 → hR σ' a k = hR S1 a k := fun a k ha => (((kp.2 a (by omega)).2.2 (ns a ha)) k).2.trans ((hS a ha).2.2 k).2
  have eI' : ∀ a k, a < 81 → σ'.2.2.2.1 a k = hI S a k := fun a k ha => (if_pos (show a < σ'.1 from by show a < hN σ'; omega)).symm.trans (((kp.2 a (by omega)).2.2 (ns a ha)) k).1
  have eI : ∀ a k, a < 81 → σ'.2.2.2.1 a k = hI S1 a k := fun a k ha => (eI' a k ha).trans ((hS a ha).2.2 k).1
  obtain ⟨hC, m1, m2⟩ := pro_cr hf eK eZ eR eI (by omega)
  have hA : AW (0, 0, nO) (0, fun _ => 0) (fun _ => 0) (0, fun _ _ => 0) (fun _ => false, fun _ _ => 0) (0, fun _ => 0) := ⟨⟨Or.inl rfl, Nat.zero_le _, fun _ => rfl, Nat.zero_le _, ⟨Nat.zero_le _, fun k hk => absurd hk (Nat.not_lt_zero _)⟩⟩, fun e => absurd rfl e, fun k hk => absurd hk (Nat.not_lt_zero _), fun k _ e => by cases e⟩
  obtain ⟨c, hc⟩ : ∃ c : Nat → Int32, c = fun k => if k < Lt.length then nI (Lt.getD k 0) else 32 := ⟨_, rfl⟩
  have c8 : by8 c := fun k => by
    rw [hc]
    dsimp only
    by_cases q : k < Lt.length
    · rw [if_pos q]
      refine ⟨_, hx.2.2.2.1 (Lt.getD k 0) ?_, rfl⟩
      rw [List.getD_eq_getElem?_getD, List.getElem?_eq_getElem q, Option.getD_some]
      exact List.getElem_mem q
    · rw [if_neg q]
      exact ⟨32, by decide, rfl⟩
  have hx15 := hx.1.1
  have x80 : x ≠ 0 ∧ x ≠ 1 ∧ x ≠ 80 := by
    have ck := hC.1.1.1
    refine ⟨fun q => ?_, fun q => ?_, fun q => ?_⟩
    · rw [q, ck.2.1] at hx15; omega
    · rw [q, ck.2.2.1] at hx15; omega
    · rw [q, m1] at hx15; omega
  have stG : ∀ G, (∀ a, a ≠ 0 → a ≠ 1 → a ≠ 80 → G a = σ'.2.2.2.1 a) → STR (wc σ' G σ'.2.2.2.2.1) x y Lt := fun G hG => by
    refine st_fr (S := fun a => a = 0 ∨ a = 1 ∨ a = 80) hx ⟨Nat.le_refl _, fun a ha => ⟨rfl, rfl, fun hs k => ⟨?_, rfl⟩⟩⟩ xn yn (fun q => ?_) (fun q => by omega)
    · rw [hI_wc k ha, hG a (fun q => hs (Or.inl q)) (fun q => hs (Or.inr (Or.inl q))) (fun q => hs (Or.inr (Or.inr q)))]
      exact (if_pos ha).symm
    · rcases q with q | q | q
      · exact x80.1 q
      · exact x80.2.1 q
      · exact x80.2.2 q
  have p0 : PI σ' σ'.2.2.2.1 σ'.2.2.2.2.1 2 35 0 79 (fun i => if i = 0 then some 2 else if i = 1 then some 35 else none) (0, 0, nO) (fun _ => 0) (0, fun _ _ => 0) (fun _ => false, fun _ _ => 0) (0, fun _ => 0) c 0 σ'.2.2.2.1 := ⟨fun _ => 0, σ'.2.2.2.1 80, hC, hA, ⟨m1, m2⟩, fun j hj => absurd hj (Nat.not_lt_zero _), ⟨fun j _ => rfl, (eI' 80 5 (by decide)).trans (hm 5 (by decide)), (eI' 80 6 (by decide)).trans (hm 6 (by decide))⟩, fun _ _ _ _ => rfl⟩
  obtain ⟨G', f, e, t1, t2, t3, t4, t5, t6, t7, t8⟩ := c_told (n := Lt.length) (x := x) c8 (by omega) (fun k hk => by rw [hc]; exact if_neg (by omega)) (fun G hG => str_len (stG G hG)) (fun G hG k hk => by
    rw [hc]
    dsimp only
    rw [if_pos hk]
    exact str_chr (stG G hG) hk) p0
  rw [wc_self] at t1
  refine ⟨S, i, j, some x, σ', i2, j2, G', σ'.2.2.2.2.1, f, e, e1, hi, hj, e2, by omega, by omega, by omega, t1, t2, t3, t4, fun k hk => ?_, ⟨m1, m2⟩, t6, t7, hx.2.2.2.1⟩
  rw [t5 k (by omega), hc]
  exact if_pos hk
