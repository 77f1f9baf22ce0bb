/-! THE PURE LEVEL, 83: the lines of a text: what they say -/
abbrev PRes : Type := Except (Nat × Nat) (Nat × tN)
def nmS (f : Nat → Int32) (e p lo hi : Nat) : Except (Nat × Nat) Nat := if tkK f e p = 2 then (if lo ≤ tkV f e p ∧ tkV f e p < hi then .ok (tkV f e p) else .error (2, tkS f e p)) else .error (1, tkS f e p)
def opSz (N : tN) : Nat := if isOb N = true then aM N (nAc N - 1) else 0
def wLo (f : Nat → Int32) (e p : Nat) : Int32 := nI (enL5 (fun k => lf f (tkS f e p + k)) (tkX f e p - tkS f e p)).1
def wHi (f : Nat → Int32) (e p : Nat) : Int32 := nI (enL5 (fun k => lf f (tkS f e p + k)) (tkX f e p - tkS f e p)).2
def wLg (f : Nat → Int32) (e p : Nat) : Int64 := lN (pkL (fun k => lf f (tkS f e p + k)) (tkX f e p - tkS f e p))
def lnStrike (f : Nat → Int32) (e p : Nat) (N : tN) : PRes := match nmS f e (tkX f e p) 0 (opSz N) with
  | .error x => .error x
  | .ok v => if strQ N (nI v) = 0 then .ok (tkX f e (tkX f e p), stkN N (opW N v) 1) else .error (3, tkS f e (tkX f e p))
def lnOut (f : Nat → Int32) (e p : Nat) (N : tN) : PRes := match nmS f e (tkX f e p) 0 (opSz N) with
  | .error x => .error x
  | .ok v => if wW N (opW N v) = 0 then .error (3, tkS f e (tkX f e p)) else .ok (tkX f e (tkX f e p), stkN N (cF N (wW N (opW N v) - 1)) (cT N (wW N (opW N v) - 1) - cF N (wW N (opW N v) - 1) + 1))
def lnInsert (f : Nat → Int32) (e p : Nat) (N : tN) : PRes := match nmS f e (tkX f e p) 0 (opSz N) with
  | .error x => .error x
  | .ok v => if wN' N (opW N v) < 4 then (if tkK f e (tkX f e (tkX f e p)) = 1 then .ok (tkX f e (tkX f e (tkX f e p)), intN N (opW N v) (wLo f e (tkX f e (tkX f e p))) (wHi f e (tkX f e (tkX f e p)))) else .error (1, tkS f e (tkX f e (tkX f e p)))) else .error (3, tkS f e (tkX f e p))
def lnSeal (f : Nat → Int32) (e p : Nat) (N : tN) : PRes := match nmS f e (tkX f e p) 0 10 with
  | .error x => .error x
  | .ok v => match nmS f e (tkX f e (tkX f e p)) 0 100 with
    | .error x => .error x
    | .ok w => if sealQ N (nI v) (nI w) = 0 then .ok (tkX f e (tkX f e (tkX f e p)), sealN N 1 (nI v) (feQ N) (feQ N)) else .error (3, tkS f e (tkX f e (tkX f e p)))
def lnCancel (f : Nat → Int32) (e p : Nat) (N : tN) : PRes := if isOb N = true then .ok (tkX f e p, sealN N 2 (N (11 + 9 * (nAc N - 1))) (N (13 + 9 * (nAc N - 1))) 0) else .error (3, tkS f e p)
def lnCopy (f : Nat → Int32) (e p : Nat) (N : tN) : PRes := if nCp N = 8 then .error (4, tkS f e p) else match nmS f e (tkX f e p) 1 (nAc N + 1) with
  | .error x => .error x
  | .ok v => match nmS f e (tkX f e (tkX f e p)) 0 3 with
    | .error x => .error x
    | .ok w => if wcQ N (v - 1) w = 0 then .ok (tkX f e (tkX f e (tkX f e p)), adN N (v - 1) w) else .error (3, tkS f e (tkX f e (tkX f e p)))
def lnShake (f : Nat → Int32) (e p : Nat) (N : tN) : PRes := .ok (tkX f e p, shK N (nLv N))
def lnLose (f : Nat → Int32) (e p : Nat) (N : tN) : PRes := match nmS f e (tkX f e p) 0 (nLv N) with
  | .error x => .error x
  | .ok l => if N (99 + l) = 2 then .error (3, tkS f e (tkX f e p)) else .ok (tkX f e (tkX f e p), lsN (lfN N l 2) l)
def lnFind (f : Nat → Int32) (e p : Nat) (N : tN) : PRes := match nmS f e (tkX f e p) 0 (nLv N) with
  | .error x => .error x
  | .ok l => if N (99 + l) = 2 then .ok (tkX f e (tkX f e p), bmN (lfN N l 0) l) else .error (3, tkS f e (tkX f e p))
def lnSew (f : Nat → Int32) (e p : Nat) (N : tN) : PRes := match nmS f e (tkX f e p) 0 (nLv N) with
  | .error x => .error x
  | .ok l => if N (99 + l) = 1 then .ok (tkX f e (tkX f e p), lfN N l 0) else .error (3, tkS f e (tkX f e p))
section NMS
variable {f : Nat → Int32} {e p lo hi v : Nat} {x : Nat × Nat}
theorem nm_ok (h : nmS f e p lo hi = .ok v) : tkK f e p = 2 ∧ tkV f e p = v ∧ lo ≤ v ∧ v < hi := by
  unfold nmS at h
  by_cases z : tkK f e p = 2
  · rw [if_pos z] at h
    by_cases y : lo ≤ tkV f e p ∧ tkV f e p < hi
    · rw [if_pos y] at h
      cases h
      exact ⟨z, rfl, y⟩
    · rw [if_neg y] at h
      cases h
  · rw [if_neg z] at h
    cases h
theorem nm_err (h : nmS f e p lo hi = .error x) : (tkK f e p ≠ 2 ∧ x = (1, tkS f e p)) ∨ (tkK f e p = 2 ∧ ¬ (lo ≤ tkV f e p ∧ tkV f e p < hi) ∧ x = (2, tkS f e p)) := by
  unfold nmS at h
  by_cases z : tkK f e p = 2
  · rw [if_pos z] at h
    by_cases y : lo ≤ tkV f e p ∧ tkV f e p < hi
    · rw [if_pos y] at h
      cases h
    · rw [if_neg y] at h
      cases h
      exact Or.inr ⟨z, y, rfl⟩
  · rw [if_neg z] at h
    cases h
    exact Or.inl ⟨z, rfl⟩
theorem nm_c (h : nmS f e p lo hi = .error x) : 0 < x.1 ∧ x.1 < 5 := by
  rcases nm_err h with ⟨-, rfl⟩ | ⟨-, -, rfl⟩
  · exact (show 0 < 1 ∧ 1 < 5 by decide)
  · exact (show 0 < 2 ∧ 2 < 5 by decide)
end NMS
/-- a greatest number, one less than hi -/
def HB (H : Int32) (hi : Nat) : Prop := ∀ v, v ≤ 99 → (nI v ≤ H ↔ v < hi)
theorem hb_n {n : Nat} (h : n < 2 ^ 31) : HB (nI n) (n + 1) := fun v hv => by
  rw [nI_leI (by omega) h]
  omega
theorem hb_m {n : Nat} (h : n < 2 ^ 31) : HB (nI n - 1) n := fun v hv => by
  have := inN_e (n := n) (j := v) h (by omega)
  unfold inR at this
  rw [decide_eq_true (show nI 0 ≤ nI v from nI_le (Nat.zero_le _) (by omega)), Bool.true_and] at this
  by_cases z : v < n
  · rw [decide_eq_true z] at this
    exact ⟨fun _ => z, fun _ => of_decide_eq_true this⟩
  · rw [decide_eq_false z] at this
    exact ⟨fun q => absurd q (of_decide_eq_false this), fun q => absurd q z⟩
/-! the class's side -/
def PC (σ : HpT) (c : Nat) : Prop := PK σ ∧ (hK σ 68 = 5 ∧ hR σ 68 3 = some 69 ∧ hR σ 68 4 = some c) ∧ hN σ ≤ BIG ∧ BK σ c ∧ (c = 2 ∨ c = 35 ∨ 91 ≤ c)
def PFR (c : Nat) (G G' : Nat → Nat → Int32) (J J' : Nat → Nat → Int64) : Prop := ∀ a, a ≠ 68 → a ≠ 69 → (a < c ∨ c + 33 ≤ a) → G' a = G a ∧ J' a = J a
/-- at the token behind p, the book N in c -/
def CGd (f : Nat → Int32) (e p c : Nat) (N : tN) (G : Nat → Nat → Int32) (J : Nat → Nat → Int64) : Prop := (e ≤ 600 ∧ p ≤ e ∧ ∀ k, k < e → G 1 k = f k) ∧ SCN f e p (G 69) (J 69 6) ∧ WFN N ∧ RB G J c N
def CRs (f : Nat → Int32) (e c : Nat) : PRes → Bool → (Nat → Nat → Int32) → (Nat → Nat → Int64) → Prop
  | .ok x, b, G, J => b = true ∧ CGd f e x.1 c x.2 G J
  | .error x, b, G, _ => b = false ∧ G 68 0 = nI x.1 ∧ G 68 1 = nI x.2
def CPo (σ : HpT) (f : Nat → Int32) (e c : Nat) (G : Nat → Nat → Int32) (J : Nat → Nat → Int64) (o : Option (Bool × HpT)) (r : PRes) : Prop := ∃ b G' J', o = some (b, wc σ G' J') ∧ PFR c G G' J J' ∧ CRs f e c r b G' J'
section CPS
variable {σ : HpT} {G G' G2 : Nat → Nat → Int32} {J J' J2 : Nat → Nat → Int64} {f : Nat → Int32} {e p c lo hi v : Nat} {N N2 : tN} {x : Nat × Nat}
theorem pf_rf (c : Nat) (G : Nat → Nat → Int32) (J : Nat → Nat → Int64) : PFR c G G J J := fun _ _ _ _ => ⟨rfl, rfl⟩
theorem pf_tr (h1 : PFR c G G' J J') (h2 : PFR c G' G2 J' J2) : PFR c G G2 J J2 := fun a a1 a2 a3 => ⟨(h2 a a1 a2 a3).1.trans (h1 a a1 a2 a3).1, (h2 a a1 a2 a3).2.trans (h1 a a1 a2 a3).2⟩
theorem pc_o (h : PC σ c) : isK (wc σ G J) (some 68) 5 = some () := isK_c h.2.1.1
theorem pc_s (h : PC σ c) : gR (wc σ G J) (some 68) 5 3 = some (some 69) := gR_c h.2.1.1 h.2.1.2.1
theorem pc_b (h : PC σ c) : gR (wc σ G J) (some 68) 5 4 = some (some c) := gR_c h.2.1.1 h.2.1.2.2
theorem pc_I (h : PC σ c) (k : Nat) : gI (wc σ G J) (some 68) 5 k = some (G 68 k) := gI_c h.2.1.1 (by have := h.1.1; omega)
theorem pc_P (h : PC σ c) (k : Nat) (x : Int32) : pI (wc σ G J) (some 68) 5 k x = some (wc σ (cw G 68 (u1 (G 68) k x)) J) := by rw [pI_c h.2.1.1 (by have := h.1.1; omega), up_is]
theorem pc_B (h : PC σ c) : BK σ c := h.2.2.2.1
theorem pc_in (h : PC σ c) {a : Nat} (h1 : c ≤ a) (h2 : a < c + 33) : a ≠ 68 ∧ a ≠ 69 ∧ a ≠ 0 ∧ a ≠ 1 := by
  have := h.2.2.2.2
  omega
/-- a fault -/
theorem c_fail (h : PC σ c) (n : Nat) (g4 : G 69 4 = nI v) : ∃ G', fX5_fail (some 68) (nI n) (wc σ G J) = some (false, wc σ G' J) ∧ PFR c G G' J J ∧ G' 68 0 = nI n ∧ G' 68 1 = nI v := by
  refine ⟨cw G 68 (u1 (u1 (G 68) 0 (nI n)) 1 (nI v)), ?_, fun a a1 a2 a3 => ⟨cw_b a1, rfl⟩, ?_, ?_⟩
  · unfold fX5_fail
    rw [pc_o h, bnP_1, pc_P h, bnP_1, pc_s h, bnP_1, pk_I h.1, bnP_1, cw_b (by decide), g4, pc_P h, bnP_1, cw_a, cw_cw]
  · rw [cw_a, u1_k (by decide), u1_e]
  · rw [cw_a, u1_e]
theorem c_failP (h : PC σ c) (g : CGd f e p c N G J) (n : Nat) : CPo σ f e c G J (fX5_fail (some 68) (nI n) (wc σ G J)) (.error (n, tkS f e p)) := by
  obtain ⟨G', e1, e2, e3, e4⟩ := c_fail (J := J) h n g.2.1.2.2.2.1
  exact ⟨false, G', J, e1, e2, rfl, e3, e4⟩
theorem c_stepX (h : PC σ c) (g : CGd f e p c N G J) : ∃ G' J', fX7_step (some 69) (wc σ G J) = some (wc σ G' J') ∧ (∀ a, a ≠ 69 → G' a = G a ∧ J' a = J a) ∧ CGd f e (tkX f e p) c N G' J' := by
  obtain ⟨⟨he, hp, hf⟩, s, hw, r⟩ := g
  have hb := tk_b (f := f) hp
  obtain ⟨g, w, e1, s1⟩ := c_step h.1 he (p := tkX f e p) hb.2.2.1 s.1 s.2.1 hf
  refine ⟨_, _, e1, fun a ha => ⟨cw_b ha, upJ_a ha⟩, ⟨he, hb.2.2.1, fun k hk => by rw [cw_b (by decide)]; exact hf k hk⟩, ?_, hw, ?_⟩
  · rw [cw_a, upJ_eq]
    exact s1
  · exact rb_cong hw.1 (fun a h1 h2 _ _ _ _ => cw_b (pc_in h h1 h2).2.1) (fun a h1 h2 => upJ_a (pc_in h h1 h2).2.1) r
theorem pf_69 (h : ∀ a, a ≠ 69 → G' a = G a ∧ J' a = J a) : PFR c G G' J J' := fun a _ a2 _ => h a a2
/-- the book changed -/
theorem cg_upd (h : PC σ c) (g : CGd f e p c N G J) (hG : ∀ a, a < c ∨ c + 33 ≤ a → G2 a = G a) (hJ : ∀ a, a < c ∨ c + 33 ≤ a → J2 a = J a) (hw : WFN N2) (r : RB G2 J2 c N2) : CGd f e p c N2 G2 J2 ∧ PFR c G G2 J J2 := by
  obtain ⟨⟨he, hp, hf⟩, s, -, -⟩ := g
  have hc := h.2.2.2.2
  refine ⟨⟨⟨he, hp, fun k hk => by rw [hG 1 (by omega)]; exact hf k hk⟩, ?_, hw, r⟩, fun a _ _ a3 => ⟨hG a a3, hJ a a3⟩⟩
  rw [hG 69 (by omega), hJ 69 (by omega)]
  exact s
theorem c_fin (h : PC σ c) (g : CGd f e p c N G J) : CPo σ f e c G J (fX5_finishLine (some 68) (wc σ G J)) (.ok (tkX f e p, N)) := by
  obtain ⟨G', J', e1, e2, e3⟩ := c_stepX h g
  refine ⟨true, G', J', ?_, pf_69 e2, rfl, e3⟩
  unfold fX5_finishLine
  rw [pc_o h, bnP_1, pc_s h, bnP_1, e1, bnP_1]
/-- a result behind a change -/
theorem cp_pre {o : Option (Bool × HpT)} {r : PRes} (hf : PFR c G G2 J J2) (h : CPo σ f e c G2 J2 o r) : CPo σ f e c G J o r := by
  obtain ⟨b, G', J', e1, e2, e3⟩ := h
  exact ⟨b, G', J', e1, pf_tr hf e2, e3⟩
theorem cp_id {o : Option (Bool × HpT)} {r : PRes} (h : CPo σ f e c G J o r) : CPo σ f e c G J (bnS o (fun x s => some (x, s))) r := by
  obtain ⟨b, G', J', e1, e2, e3⟩ := h
  exact ⟨b, G', J', by rw [e1, bnS_1], e2, e3⟩
theorem cg_num (h : PC σ c) (g : CGd f e p c N G J) (hk : tkK f e p = 2) : gI (wc σ G J) (some 69) 7 5 = some (nI (tkV f e p)) := by
  rw [pk_I h.1, g.2.1.2.2.2.2.1 hk]
theorem cg_kind (h : PC σ c) (g : CGd f e p c N G J) : gI (wc σ G J) (some 69) 7 3 = some (nI (tkK f e p)) := by
  rw [pk_I h.1, g.2.1.2.2.1]
theorem kI {a b : Nat} (ha : a < 7) (hb : b < 7) : nI a = nI b ↔ a = b := nI_eq (by omega) (by omega)
/-- the number behind this token -/
theorem c_cnn (h : PC σ c) (g : CGd f e p c N G J) {H : Int32} (hH : HB H hi) (hlo : lo < 2 ^ 31) (q : nmS f e (tkX f e p) lo hi = .ok v) : ∃ G' J', fX5_checkNextNumber (some 68) (nI lo) H (wc σ G J) = some (true, wc σ G' J') ∧ (∀ a, a ≠ 69 → G' a = G a ∧ J' a = J a) ∧ CGd f e (tkX f e p) c N G' J' ∧ gI (wc σ G' J') (some 69) 7 5 = some (nI v) ∧ v ≤ 99 := by
  obtain ⟨G', J', e1, e2, e3⟩ := c_stepX h g
  obtain ⟨k1, rfl, k3, k4⟩ := nm_ok q
  have hn := tk_nm e3.1.2.1 k1
  have en := cg_num h e3 k1
  refine ⟨G', J', ?_, e2, e3, en, hn.1⟩
  unfold fX5_checkNextNumber fX5_checkNumber
  rw [pc_o h, bnP_1, pc_s h, bnP_1, e1, bnP_1, pc_o h, bnP_1, pc_s h, bnP_1, cg_kind h e3, bnP_1, if_pos (show nI (tkK f e (tkX f e p)) = 2 by rw [k1]; rfl), bnP_1, en, bnP_1, if_neg (nI_nlt k3 (by omega)), bnP_1, en, bnP_1, if_pos ((hH _ hn.1).mpr k4), bnS_1]
theorem c_cnn_err (h : PC σ c) (g : CGd f e p c N G J) {H : Int32} (hH : HB H hi) (hlo : lo < 2 ^ 31) (q : nmS f e (tkX f e p) lo hi = .error x) : ∃ G' J', fX5_checkNextNumber (some 68) (nI lo) H (wc σ G J) = some (false, wc σ G' J') ∧ PFR c G G' J J' ∧ G' 68 0 = nI x.1 ∧ G' 68 1 = nI x.2 := by
  obtain ⟨G', J', e1, e2, e3⟩ := c_stepX h g
  have h7 := tk_7 (f := f) (e := e) (p := tkX f e p)
  unfold fX5_checkNextNumber fX5_checkNumber
  rw [pc_o h, bnP_1, pc_s h, bnP_1, e1, bnP_1, pc_o h, bnP_1, pc_s h, bnP_1, cg_kind h e3, bnP_1]
  rcases nm_err q with ⟨k1, rfl⟩ | ⟨k1, k2, rfl⟩
  · obtain ⟨G2, f1, f2, f3, f4⟩ := c_fail (J := J') h 1 e3.2.1.2.2.2.1
    rw [if_neg (show ¬ nI (tkK f e (tkX f e p)) = 2 from fun z => k1 ((kI h7 (by decide)).mp z))]
    exact ⟨G2, J', by rw [show (1 : Int32) = nI 1 from rfl, f1, bnS_1, bnS_1], pf_tr (pf_69 e2) f2, f3, f4⟩
  · obtain ⟨G2, f1, f2, f3, f4⟩ := c_fail (J := J') h 2 e3.2.1.2.2.2.1
    have hn := tk_nm e3.1.2.1 k1
    have en := cg_num h e3 k1
    rw [if_pos (show nI (tkK f e (tkX f e p)) = 2 by rw [k1]; rfl), bnP_1, en, bnP_1]
    refine ⟨G2, J', ?_, pf_tr (pf_69 e2) f2, f3, f4⟩
    by_cases y : tkV f e (tkX f e p) < lo
    · rw [if_pos (nI_lt y hlo), show (2 : Int32) = nI 2 from rfl, f1, bnS_1, if_neg (by decide), bnS_1]
    · rw [if_neg (nI_nlt (by omega) (by omega)), bnP_1, en, bnP_1, if_neg (fun z => k2 ⟨by omega, (hH _ hn.1).mp z⟩), show (2 : Int32) = nI 2 from rfl, f1, bnS_1, if_neg (by decide), bnS_1]
theorem c_openSize (h : BK σ c) (w1 : W1 N) (w2 : W2 N) (r : RB G J c N) : fX1_openSize (some c) (wc σ G J) = some (nI (opSz N)) := by
  unfold fX1_openSize opSz
  rw [bk_o h, bnP_1]
  by_cases q : isO N
  · have ok := (act_ok w1 w2 (a := nAc N - 1) (by have := q.1; omega)).1
    have ra := rb_act r (a := nAc N - 1) (by have := q.1; omega)
    rw [c_openAct1 h w1 r q, bnP_1, if_neg (fun e => by cases e), bk_aI h ok.1, bnP_1, ra.2.2.2.2.2.2.1, ok.2.2.1, if_pos (isOb_1 q)]
  · rw [c_openAct0 h w1 r q, bnP_1, if_pos rfl, if_neg (fun e => q (isOb_t e))]
    rfl
theorem opSz_b (w1 : W1 N) (w2 : W2 N) : opSz N < 241 ∧ (0 < opSz N → isO N ∧ opSz N = aM N (nAc N - 1)) := by
  unfold opSz
  by_cases q : isOb N = true
  · have q' := isOb_t q
    have := w2_b w2 (a := nAc N - 1) (by have := q'.1; omega)
    rw [if_pos q]
    exact ⟨this.2.1, fun _ => ⟨q', rfl⟩⟩
  · rw [if_neg q]
    exact ⟨by decide, fun z => absurd z (by decide)⟩
end CPS
