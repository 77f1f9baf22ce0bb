/-! THE PURE LEVEL, 100: the class reads a line -/
def CRL (f : Nat → Int32) (e c : Nat) : PRes → Bool → (Nat → Nat → Int32) → (Nat → Nat → Int64) → Prop
  | .ok x, b, G, J => b = true ∧ CGd f e x.1 c x.2 G J
  | .error x, b, G, J => (b = false ∧ G 68 0 = nI x.1 ∧ G 68 1 = nI x.2) ∨ (b = true ∧ ∃ p N, CGd f e p c N G J ∧ tkK f e p = 5 ∧ x = (1, tkS f e p))
def CPL (σ : HpT) (f : Nat → Int32) (e c : Nat) (G : Nat → Nat → Int32) (J : Nat → Nat → Int64) (o : Option (Bool × HpT)) (r : PRes) : Prop := ∃ b G' J', o = some (b, wc σ G' J') ∧ PFR c G G' J J' ∧ CRL f e c r b G' J'
section CLL
variable {σ : HpT} {G G' G2 : Nat → Nat → Int32} {J J' J2 : Nat → Nat → Int64} {f : Nat → Int32} {e p c : Nat} {N : tN}
theorem cpl_of {o : Option (Bool × HpT)} {r : PRes} (h : CPo σ f e c G J o r) : CPL σ f e c G J o r := by
  obtain ⟨b, G', J', e1, e2, e3⟩ := h
  refine ⟨b, G', J', e1, e2, ?_⟩
  cases r with
  | ok x => exact e3
  | error x => exact Or.inl e3
theorem cpl_pre {o : Option (Bool × HpT)} {r : PRes} (hf : PFR c G G2 J J2) (h : CPL σ f e c G2 J2 o r) : CPL σ f e c G J o r := by
  obtain ⟨b, G', J', e1, e2, e3⟩ := h
  exact ⟨b, G', J', e1, pf_tr hf e2, e3⟩
theorem cpl_id {o : Option (Bool × HpT)} {r : PRes} (h : CPL σ f e c G J o r) : CPL σ f e c G J (bnS o (fun x s => some (x, s))) r := by
  obtain ⟨b, G', J', e1, e2, e3⟩ := h
  exact ⟨b, G', J', by rw [e1, bnS_1], e2, e3⟩
theorem c_kindAt (h : PC σ c) (g : CGd f e p c N G J) : fX5_kindAtWord (some 68) (wc σ G J) = some (match kdS f e p with | none => nO | some k => nI k) := by
  unfold fX5_kindAtWord kdS
  rw [pc_o h, bnP_1, kw_at h g 3 (by decide) (by decide), bnP_1]
  cases kw f e p 3
  · rw [if_neg (by decide), if_neg (by decide), kw_at h g 4 (by decide) (by decide), bnP_1]
    cases kw f e p 4
    · rw [if_neg (by decide), if_neg (by decide), kw_at h g 5 (by decide) (by decide), bnP_1]
      cases kw f e p 5
      · rfl
      · rfl
    · rfl
  · rfl
/-- the body, from its first token -/
theorem c_bodyG (h : PC σ c) (g : CGd f e p c N G J) (ha : nAc N < 10) (kd : Int32) : ∃ b G' J', fX5_readBody (some 68) (wc σ G J) = some (b, wc σ G' J') ∧ PFR c G G' J J' ∧ CBR f e c N kd (bdS f e (nAc N) (e + 1) (bgN N kd) p 0 0) b G' J' := by
  have hw := g.2.2.1
  have hc := h.2.2.2.2
  have oN : ∀ j, j ≠ 3 → (j < 9 + 9 * nAc N ∨ 18 + 9 * nAc N ≤ j) → bgN N kd j = N j := fun j h1 h2 => by
    unfold bgN
    rw [if_neg (by omega), if_neg (by omega), if_neg (by omega), if_neg (by omega), if_neg h1]
  have c4 : nWd (bgN N kd) = nWd N := nv_e (oN 4 (by decide) (by omega))
  have c5 : nCl (bgN N kd) = nCl N := nv_e (oN 5 (by decide) (by omega))
  have b0 := bi_bg (kd := kd) hw ha rfl
  have hb := bi_b hw b0
  have cz : cntV (cF (bgN N kd)) (nCl N) (nCl (bgN N kd) - nCl N) (nWd (bgN N kd)) = 0 := by
    rw [c5, Nat.sub_self]
    rfl
  obtain ⟨g1, f1⟩ := cg_stg h g (G' := up G 68 2 0) (J' := J) (fun a a1 _ _ _ _ => up_a a1) (fun a k a1 a2 _ => by rw [up_a (by omega)]) (fun _ _ => rfl) (fun _ _ => rfl)
  have bc : BC (up G 68 2 0) J c N (bgN N kd) := ⟨by rw [up_eq, c4, Nat.sub_self]; rfl, fun k h1 h2 => by omega⟩
  obtain ⟨b, G', J', e1, e2, e3⟩ := c_body h hw ha (e + 1) (bgN N kd) p 0 0 0 (up G 68 2 0) J (by omega) b0 g1 bc (Nat.zero_le _) FUEL (show e + 1 < 200000 by have := g.1.1; omega)
  rw [cz] at e1
  refine ⟨b, G', J', ?_, pf_tr f1 e2, e3⟩
  unfold fX5_readBody
  rw [pc_o h, bnP_1, pc_b h, bnP_1, bk_r8 (pc_B h), bnP_1, pI_c h.2.1.1 (by have := h.1.1; omega), bnP_1, show lpS (fX5_readBody_l1 (some 68) (some (c + 3))) FUEL (0, 0, 0) (wc σ (up G 68 2 0) J) = _ from e1, bnS_1]
theorem cl_act (h : PC σ c) (g : CGd f e p c N G J) : CPL σ f e c G J (fX5_readActLine (some 68) (wc σ G J)) (lnAct f e p N) := by
  have hw := g.2.2.1
  have B := pc_B h
  have hbb := w1_b hw.1
  have hc := h.2.2.2.2
  unfold fX5_readActLine lnAct
  rw [pc_o h, bnP_1, pc_b h, bnP_1]
  by_cases q : isO N
  · rw [c_openAct1 B hw.1 g.2.2.2 q, bnP_1, if_neg (fun e => by cases e), if_pos (isOb_1 q)]
    exact cpl_of (cp_id (c_failP h g 3))
  · rw [c_openAct0 B hw.1 g.2.2.2 q, bnP_1, if_pos rfl, if_neg (fun e => q (isOb_t e)), bnP_1, bk_I B, bnP_1, rb_n g.2.2.2 hw.1]
    by_cases z : nAc N = 10
    · rw [if_pos z, if_neg (show ¬ nI (nAc N) < 10 by rw [z]; decide)]
      exact cpl_of (cp_id (c_failP h g 4))
    · obtain ⟨G1, J1, s1, s2, g1⟩ := c_stepX h g
      rw [if_neg z, if_pos (show nI (nAc N) < 10 from nI_lt (b := 10) (by omega) (by decide)), pc_s h, bnP_1, s1, bnP_1, c_kindAt h g1, bnP_1]
      refine cpl_pre (pf_69 s2) ?_
      cases qk : kdS f e (tkX f e p) with
      | none =>
        dsimp only
        rw [if_pos (show nO = -1 from rfl)]
        exact cpl_of (cp_id (c_failP h g1 1))
      | some k =>
        have hk3 := kd_b qk
        obtain ⟨G2, J2, t1, t2, g2⟩ := c_stepX h g1
        dsimp only
        rw [if_neg (show ¬ nI k = -1 from nI_nO (by omega)), pc_s h, bnP_1, t1, bnP_1]
        refine cpl_pre (pf_69 t2) ?_
        obtain ⟨b, G3, J3, u1', u2, u3⟩ := c_bodyG h g2 (by omega) (nI k)
        rw [u1', bnS_1]
        refine cpl_pre u2 ?_
        have fin : ∀ (p' : Nat) (N' : tN), CGd f e p' c N G3 J3 → BC G3 J3 c N N' → BI N N' (nI k) 0 0 → nWd N < nWd N' → ∃ G4, bnP (gR (wc σ G3 J3) (some 68) 5 4) (fun x24 => bnP (gI (wc σ G3 J3) (some 68) 5 2) (fun x26 => bnP (fX1_beginAct x24 (nI k) x26 (wc σ G3 J3)) (fun s30 => some (true, s30)))) = some (true, wc σ G4 J3) ∧ PFR c G3 G4 J3 J3 ∧ CGd f e p' c N' G4 J3 := fun p' N' g3 bc bi hW => by
          have wf := bi_wf hw (by omega) bi hW q rfl hk3
          obtain ⟨G4, v1, v2, v3⟩ := c_beginAct (J := J3) B hw g3.2.2.2 (by omega) bi bc hW wf
          obtain ⟨g4, f4⟩ := cg_upd h g3 (G2 := G4) (J2 := J3) v2 (fun _ _ => rfl) wf v3
          exact ⟨G4, by rw [pc_b h, bnP_1, pc_I h, bnP_1, bc.1, v1, bnP_1], f4, g4⟩
        cases qb : bdS f e (nAc N) (e + 1) (bgN N (nI k)) (tkX f e (tkX f e p)) 0 0 with
        | error x =>
          rw [qb] at u3
          obtain ⟨p', g3, u3⟩ := u3
          rcases u3 with ⟨rfl, y1, y2⟩ | ⟨rfl, y1, y2, N', y3, y4, y5⟩
          · rw [if_neg (by decide)]
            exact ⟨false, G3, J3, rfl, pf_rf _ _ _, Or.inl ⟨rfl, y1, y2⟩⟩
          · obtain ⟨G4, w1, w2, w3⟩ := fin p' N' g3 y3 y4 y5
            rw [if_pos rfl, w1]
            exact ⟨true, G4, J3, rfl, w2, Or.inr ⟨rfl, p', N', w3, y1, y2⟩⟩
        | ok r =>
          rw [qb] at u3
          obtain ⟨rfl, g3, y3, y4, y5⟩ := u3
          obtain ⟨G4, w1, w2, w3⟩ := fin r.1 r.2 g3 y3 y4 y5
          rw [if_pos rfl, w1]
          exact ⟨true, G4, J3, rfl, w2, rfl, w3⟩
theorem cl_line (h : PC σ c) (g : CGd f e p c N G J) : CPL σ f e c G J (fX5_readLine (some 68) (wc σ G J)) (lnLine f e p N) := by
  unfold fX5_readLine lnLine
  rw [pc_o h, bnP_1, kw_at h g 2 (by decide) (by decide), bnP_1]
  cases kw f e p 2
  · rw [if_neg (by decide), if_neg (by decide), kw_at h g 6 (by decide) (by decide), bnP_1]
    cases kw f e p 6
    · rw [if_neg (by decide), if_neg (by decide), kw_at h g 7 (by decide) (by decide), bnP_1]
      cases kw f e p 7
      · rw [if_neg (by decide), if_neg (by decide), kw_at h g 8 (by decide) (by decide), bnP_1]
        cases kw f e p 8
        · rw [if_neg (by decide), if_neg (by decide), kw_at h g 9 (by decide) (by decide), bnP_1]
          cases kw f e p 9
          · rw [if_neg (by decide), if_neg (by decide), kw_at h g 10 (by decide) (by decide), bnP_1]
            cases kw f e p 10
            · rw [if_neg (by decide), if_neg (by decide), kw_at h g 11 (by decide) (by decide), bnP_1]
              cases kw f e p 11
              · rw [if_neg (by decide), if_neg (by decide), kw_at h g 12 (by decide) (by decide), bnP_1]
                cases kw f e p 12
                · rw [if_neg (by decide), if_neg (by decide)]
                  exact cpl_of (cp_id (cl_leaf h g))
                · rw [if_pos rfl, if_pos rfl]
                  exact cpl_of (cl_shake h g)
              · rw [if_pos rfl, if_pos rfl]
                exact cpl_of (cp_id (cl_copy h g))
            · rw [if_pos rfl, if_pos rfl]
              exact cpl_of (cp_id (cl_cancel h g))
          · rw [if_pos rfl, if_pos rfl]
            exact cpl_of (cp_id (cl_seal h g))
        · rw [if_pos rfl, if_pos rfl]
          exact cpl_of (cp_id (cl_insert h g))
      · rw [if_pos rfl, if_pos rfl]
        exact cpl_of (cp_id (cl_out h g))
    · rw [if_pos rfl, if_pos rfl]
      exact cpl_of (cp_id (cl_strike h g))
  · rw [if_pos rfl, if_pos rfl]
    exact cpl_id (cl_act h g)
end CLL
