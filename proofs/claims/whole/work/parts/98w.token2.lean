/-! THE PURE LEVEL, 81: tokens, the reference -/
def MTK (f : Nat → Int32) (e p : Nat) (g : Nat → Int32) : Prop := g 12 = nI e ∧ g 13 = nI (tkX f e p) ∧ g 14 = nI (tkS f e p) ∧ g 15 = nI ((tkK f e p + 1) % 7) ∧ (tkK f e p = 2 → g 16 = nI (tkV f e p)) ∧ g 17 = 0
def dgW (f : Nat → Int32) (s k : Nat) : Nat := if k = 0 then 0 else if k = 1 then dgV f s else 10 * dgV f s + dgV f (s + 1)
section MTKS
variable {σ : HpT} {G : Nat → Nat → Int32} {f : Nat → Int32} {e p : Nat}
theorem m_goes_err (h : MK σ 80) {c : Nat} (hc : 0 < c) (hc2 : c < 2 ^ 31) (e17 : G 80 17 = nI c) : fX10_goes (some 80) (wi σ G) = some (wi σ G) := by
  unfold fX10_goes
  rw [mk_o h, bnP_1, mk_I h, bnP_1, e17, if_neg (show ¬ nI c ≤ 0 from nI_ge (a := 0) hc hc2)]
theorem mP_cw (h : MK σ 80) (g : Nat → Int32) (k : Nat) (x : Int32) : pI (wi σ (cw G 80 g)) (some 80) 10 k x = some (wi σ (cw G 80 (u1 g k x))) := by
  rw [mk_P h, up_cw]
theorem mI_cw (h : MK σ 80) (g : Nat → Int32) (k : Nat) : gI (wi σ (cw G 80 g)) (some 80) 10 k = some (g k) := by
  rw [mk_I h, cw_a]
theorem mA_cw (h : MK σ 80) (g : Nat → Int32) {n : Nat} (hn : n < 600) : aI (wi σ (cw G 80 g)) (some (80 + 6)) 22 (nI n) = some (G 86 n) := by
  rw [mk_a6 h hn, cw_b (by decide)]
theorem m_isLetterP (h : MK σ 80) (g : Nat → Int32) {n : Nat} (he : e ≤ 600) (hn : n < 2 ^ 31) (g12 : g 12 = nI e) (hf : ∀ k, k < e → G 86 k = f k) : fX10_isLetter (some 80) (nI n) (wi σ (cw G 80 g)) = some (decide (n < e) && lrB f n) := by
  unfold fX10_isLetter
  rw [mk_o h, bnP_1, mI_cw h, bnP_1, g12]
  by_cases z : n < e
  · rw [if_neg (nI_ge z (by omega)), mk_r6 h, bnP_1, mA_cw h _ (by omega), bnP_1, hf n z, m_in, bnP_1, decide_eq_true z, Bool.true_and]
    show (if ltB (f n) = true then some true else some false) = some (ltB (f n))
    cases ltB (f n) <;> rfl
  · rw [if_pos (nI_le (by omega) hn), decide_eq_false z, Bool.false_and]
theorem m_isDigitP (h : MK σ 80) (g : Nat → Int32) {n : Nat} (he : e ≤ 600) (hn : n < 2 ^ 31) (g12 : g 12 = nI e) (hf : ∀ k, k < e → G 86 k = f k) : fX10_isDigit (some 80) (nI n) (wi σ (cw G 80 g)) = some (decide (n < e) && dgB f n) := by
  unfold fX10_isDigit
  rw [mk_o h, bnP_1, mI_cw h, bnP_1, g12]
  by_cases z : n < e
  · rw [if_neg (nI_ge z (by omega)), mk_r6 h, bnP_1, mA_cw h _ (by omega), bnP_1, hf n z, m_in, bnP_1, decide_eq_true z, Bool.true_and]
    show (if inR (f n) (nI 48) (nI 57) = true then some true else some false) = some (inR (f n) (nI 48) (nI 57))
    cases inR (f n) (nI 48) (nI 57) <;> rfl
  · rw [if_pos (nI_le (by omega) hn), decide_eq_false z, Bool.false_and]
theorem m_goes (h : MK σ 80) (he : e ≤ 600) (hp : p ≤ e) (e12 : G 80 12 = nI e) (e13 : G 80 13 = nI p) (e17 : G 80 17 = 0) (hf : ∀ k, k < e → G 86 k = f k) : ∃ g, fX10_goes (some 80) (wi σ G) = some (wi σ (cw G 80 g)) ∧ MTK f e p g ∧ ∀ k, k < 13 ∨ 17 ≤ k → g k = G 80 k := by
  have hb := tk_b (f := f) hp
  obtain ⟨r1, r2, r3, r4⟩ := ruE_sp (blB f) hp
  have hs : ruE (blB f) p e = tkS f e p := rfl
  rw [hs] at r1 r2 r3 r4
  have l1 := lpS_f (f := fX10_goes_l1 (some 80)) (a := ()) (σ := wi σ G) (r := ()) (tkS f e p - p) (fun _ => ()) (fun k => wi σ (cw G 80 (u1 (G 80) 13 (nI (p + k))))) rfl (by
    show wi σ (cw G 80 (u1 (G 80) 13 (nI (p + 0)))) = wi σ G
    rw [Nat.add_zero, ← e13, u1_id, cw_self]) (by omega) (fun k hk => by
    have hq := r3 (p + k) (by omega) (by omega)
    unfold fX10_goes_l1
    rw [mI_cw h, bnP_1, mI_cw h, bnP_1, u1_e, u1_k (by decide), e12, if_neg (nI_ge (by omega) (by omega)), mk_r6 h, bnP_1, bnP_1, mA_cw h _ (by omega), bnP_1, hf _ (by omega), if_pos (of_decide_eq_true hq), bnP_1, nI_a1, mP_cw h, bnP_1]
    congr 4
    funext j
    unfold u1
    by_cases z : j = 13
    · rw [if_pos z, if_pos z]
      rfl
    · rw [if_neg z, if_neg z, if_neg z]) (by
    show fX10_goes_l1 (some 80) () (wi σ (cw G 80 (u1 (G 80) 13 (nI (p + (tkS f e p - p)))))) = _
    rw [show p + (tkS f e p - p) = tkS f e p by omega]
    unfold fX10_goes_l1
    rw [mI_cw h, bnP_1, mI_cw h, bnP_1, u1_e, u1_k (by decide), e12]
    by_cases z : tkS f e p = e
    · rw [if_pos (nI_le (by omega) (by omega))]
    · have hq := r4 (by omega)
      rw [if_neg (nI_ge (by omega) (by omega)), mk_r6 h, bnP_1, bnP_1, mA_cw h _ (by omega), bnP_1, hf _ (by omega), if_neg (of_decide_eq_false hq)])
  unfold fX10_goes
  rw [mk_o h, bnP_1, mk_I h, bnP_1, e17, if_pos (show (0 : Int32) ≤ 0 by decide), l1, bnS_1, mI_cw h, bnP_1, u1_e, mP_cw h, bnP_1, mI_cw h, bnP_1, mI_cw h, bnP_1, u1_k (by decide), u1_e, u1_k (by decide), u1_k (by decide), e12]
  generalize hg0 : u1 (u1 (G 80) 13 (nI (tkS f e p))) 14 (nI (tkS f e p)) = g0
  have g13 : g0 13 = nI (tkS f e p) := by rw [← hg0, u1_k (by decide), u1_e]
  have g12 : g0 12 = nI e := by rw [← hg0, u1_k (by decide), u1_k (by decide)]; exact e12
  have g14 : g0 14 = nI (tkS f e p) := by rw [← hg0, u1_e]
  have g17 : g0 17 = 0 := by rw [← hg0, u1_k (by decide), u1_k (by decide)]; exact e17
  have go : ∀ k, k < 13 ∨ 17 ≤ k → g0 k = G 80 k := fun k hk => by rw [← hg0, u1_k (by omega), u1_k (by omega)]
  by_cases z : tkS f e p = e
  · obtain ⟨ex, ek⟩ := tk_0 z
    refine ⟨u1 g0 15 1, ?_, ⟨?_, ?_, ?_, ?_, fun q => ?_, ?_⟩, fun k hk => by rw [u1_k (by omega)]; exact go k hk⟩
    · rw [if_pos (congrArg nI z), bnP_1]
      dsimp only
      rw [mP_cw h, bnP_1, mI_cw h, bnP_1, u1_e, if_pos rfl]
    · rw [u1_k (by decide), g12]
    · rw [u1_k (by decide), g13, ex, z]
    · rw [u1_k (by decide), g14]
    · rw [u1_e, ek]
      rfl
    · omega
    · rw [u1_k (by decide), g17]
  · rw [if_neg (fun q => z ((nI_eq (by omega) (by omega)).mp q)), bnP_1]
    dsimp only
    rw [mP_cw h, bnP_1, mI_cw h, bnP_1, u1_e, if_neg (by decide), mI_cw h, bnP_1, u1_k (by decide), g13, m_isLetterP (f := f) h _ he (by omega) (by rw [u1_k (by decide)]; exact g12) hf, bnP_1, decide_eq_true (show tkS f e p < e by omega), Bool.true_and]
    generalize hg1 : u1 g0 15 0 = g1
    have q13 : g1 13 = nI (tkS f e p) := by rw [← hg1, u1_k (by decide)]; exact g13
    have q12 : g1 12 = nI e := by rw [← hg1, u1_k (by decide)]; exact g12
    have q14 : g1 14 = nI (tkS f e p) := by rw [← hg1, u1_k (by decide)]; exact g14
    have q17 : g1 17 = 0 := by rw [← hg1, u1_k (by decide)]; exact g17
    have qo : ∀ k, k < 13 ∨ 17 ≤ k → g1 k = G 80 k := fun k hk => by rw [← hg1, u1_k (by omega)]; exact go k hk
    cases z1 : lrB f (tkS f e p)
    · rw [if_neg (by decide), bnP_1, m_isDigitP (f := f) h _ he (by omega) q12 hf, bnP_1, decide_eq_true (show tkS f e p < e by omega), Bool.true_and]
      cases z2 : dgB f (tkS f e p)
      · obtain ⟨ex, ek⟩ := tk_g z z1 z2
        have esk : fX10_signOf (f (tkS f e p)) (wi σ (cw G 80 g1)) = some (nI ((tkK f e p + 1) % 7)) := by
          rw [ek]
          unfold fX10_signOf sgK
          by_cases y1 : f (tkS f e p) = 59
          · rw [if_pos y1, if_neg (by rw [y1]; decide), if_neg (by rw [y1]; decide), if_pos y1]
            rfl
          · rw [if_neg y1]
            by_cases y2 : f (tkS f e p) = 40
            · rw [if_pos y2, if_pos y2]
              rfl
            · rw [if_neg y2, if_neg y2]
              by_cases y3 : f (tkS f e p) = 41
              · rw [if_pos y3, if_pos y3]
                rfl
              · rw [if_neg y3, if_neg y3, if_neg y1]
                rfl
        have n12 : tkK f e p ≠ 2 := by
          rw [ek]
          unfold sgK
          split
          · omega
          · split
            · omega
            · split
              · omega
              · omega
        refine ⟨u1 (u1 g1 15 (nI ((tkK f e p + 1) % 7))) 13 (nI (tkS f e p + 1)), ?_, ⟨?_, ?_, ?_, ?_, fun q => absurd q n12, ?_⟩, fun k hk => by rw [u1_k (by omega), u1_k (by omega)]; exact qo k hk⟩
        · rw [if_neg (by decide), mk_r6 h, bnP_1, bnP_1, mA_cw h _ (by omega), bnP_1, hf _ (by omega), esk, bnP_1, mP_cw h, bnP_1, mI_cw h, bnP_1, u1_k (by decide), q13, nI_a1, mP_cw h, bnP_1]
        · rw [u1_k (by decide), u1_k (by decide), q12]
        · rw [u1_e, ex]
        · rw [u1_k (by decide), u1_k (by decide), q14]
        · rw [u1_k (by decide), u1_e]
        · rw [u1_k (by decide), u1_k (by decide), q17]
      · obtain ⟨ex, ek⟩ := tk_d z z1 z2
        obtain ⟨d1, d2, d3, d4⟩ := ruE_sp (dgB f) (s := tkS f e p) (e := e) (by omega)
        rw [← ex] at d1 d2 d3 d4
        rw [if_pos rfl]
        have l2 := lpS_f (f := fX10_goes_l2 (some 80)) (a := ()) (σ := wi σ (cw G 80 (u1 g1 16 0))) (r := ()) (tkX f e p - tkS f e p) (fun _ => ()) (fun k => wi σ (cw G 80 (u1 (u1 g1 16 (nI (dgW f (tkS f e p) k))) 13 (nI (tkS f e p + k))))) rfl (by
          show wi σ (cw G 80 (u1 (u1 g1 16 (nI (dgW f (tkS f e p) 0))) 13 (nI (tkS f e p + 0)))) = _
          rw [Nat.add_zero]
          congr 2
          funext j
          unfold u1
          by_cases y : j = 13
          · rw [if_pos y, if_neg (by omega), y, q13]
          · rw [if_neg y]
            rfl) (by omega) (fun k hk => by
          have hq := d3 (tkS f e p + k) (by omega) (by omega)
          have hv := dgB_t hq
          unfold fX10_goes_l2
          rw [mI_cw h, bnP_1, u1_e, m_isDigitP (f := f) h _ he (by omega) (by rw [u1_k (by decide), u1_k (by decide)]; exact q12) hf, bnP_1, decide_eq_true (show tkS f e p + k < e by omega), Bool.true_and, hq, if_pos rfl, bnP_1, mI_cw h, bnP_1, u1_k (by decide), u1_k (by decide), q14, nI_sub (by omega), show tkS f e p + k - tkS f e p = k by omega]
          have e1 : (if 2 ≤ nI k then some ((), wi σ (cw G 80 (u1 (u1 g1 16 (nI (dgW f (tkS f e p) k))) 13 (nI (tkS f e p + k))))) else bnP (gI (wi σ (cw G 80 (u1 (u1 g1 16 (nI (dgW f (tkS f e p) k))) 13 (nI (tkS f e p + k))))) (some 80) 10 16) (fun x98 => bnP (gR (wi σ (cw G 80 (u1 (u1 g1 16 (nI (dgW f (tkS f e p) k))) 13 (nI (tkS f e p + k))))) (some 80) 10 8) (fun x100 => bnP (some (nI (tkS f e p + k))) (fun x102 => bnP (aI (wi σ (cw G 80 (u1 (u1 g1 16 (nI (dgW f (tkS f e p) k))) 13 (nI (tkS f e p + k))))) x100 22 x102) (fun x104 => bnP (pI (wi σ (cw G 80 (u1 (u1 g1 16 (nI (dgW f (tkS f e p) k))) 13 (nI (tkS f e p + k))))) (some 80) 10 16 (((10 * x98) + x104) - 48)) (fun s108 => some ((), s108))))))) = some ((), wi σ (cw G 80 (u1 (u1 g1 16 (nI (dgW f (tkS f e p) (k + 1)))) 13 (nI (tkS f e p + k))))) := by
            by_cases y : 2 ≤ k
            · rw [if_pos (show 2 ≤ nI k from nI_le (a := 2) y (by omega))]
              have ed : dgW f (tkS f e p) (k + 1) = dgW f (tkS f e p) k := by
                unfold dgW
                rw [if_neg (by omega), if_neg (by omega), if_neg (by omega), if_neg (by omega)]
              rw [ed]
            · have ed : 10 * dgW f (tkS f e p) k + (48 + dgV f (tkS f e p + k)) - 48 = dgW f (tkS f e p) (k + 1) := by
                have hk2 : k = 0 ∨ k = 1 := by omega
                rcases hk2 with rfl | rfl
                · show 10 * 0 + (48 + dgV f (tkS f e p + 0)) - 48 = dgV f (tkS f e p)
                  rw [Nat.add_zero]
                  omega
                · show 10 * dgV f (tkS f e p) + (48 + dgV f (tkS f e p + 1)) - 48 = 10 * dgV f (tkS f e p) + dgV f (tkS f e p + 1)
                  omega
              rw [if_neg (show ¬ 2 ≤ nI k from nI_ge (b := 2) (by omega) (by decide)), mI_cw h, bnP_1, u1_k (by decide), u1_e, mk_r6 h, bnP_1, bnP_1, mA_cw h _ (by omega), bnP_1, hf _ (by omega), hv.1, show (10 : Int32) * nI (dgW f (tkS f e p) k) = nI (10 * dgW f (tkS f e p) k) from by rw [Int32.mul_comm, show (10 : Int32) = nI 10 from rfl, pk_mul, Nat.mul_comm], nI_add, show nI (10 * dgW f (tkS f e p) k + (48 + dgV f (tkS f e p + k))) - 48 = nI (10 * dgW f (tkS f e p) k + (48 + dgV f (tkS f e p + k)) - 48) from nI_sub (b := 48) (by omega), ed, mP_cw h, bnP_1]
              congr 4
              funext j
              unfold u1
              by_cases y6 : j = 16
              · rw [if_pos y6, if_neg (by omega), if_pos y6]
              · rw [if_neg y6]
                by_cases y3 : j = 13
                · rw [if_pos y3, if_pos y3]
                · rw [if_neg y3, if_neg y3, if_neg y6, if_neg y6]
          rw [e1, bnS_1, mI_cw h, bnP_1, u1_e, nI_a1, mP_cw h, bnP_1]
          congr 4
          funext j
          unfold u1
          by_cases y3 : j = 13
          · rw [if_pos y3, if_pos y3]
            rfl
          · rw [if_neg y3, if_neg y3, if_neg y3]) (by
          show fX10_goes_l2 (some 80) () (wi σ (cw G 80 (u1 (u1 g1 16 (nI (dgW f (tkS f e p) (tkX f e p - tkS f e p)))) 13 (nI (tkS f e p + (tkX f e p - tkS f e p)))))) = _
          rw [show tkS f e p + (tkX f e p - tkS f e p) = tkX f e p by omega]
          unfold fX10_goes_l2
          rw [mI_cw h, bnP_1, u1_e, m_isDigitP (f := f) h _ he (by omega) (by rw [u1_k (by decide), u1_k (by decide)]; exact q12) hf, bnP_1]
          by_cases y : tkX f e p < e
          · rw [d4 y, Bool.and_false, if_neg (by decide)]
          · rw [decide_eq_false y, Bool.false_and, if_neg (by decide)])
        refine ⟨u1 (u1 (u1 g1 16 (nI (dgW f (tkS f e p) (tkX f e p - tkS f e p)))) 13 (nI (tkX f e p))) 15 (nI ((tkK f e p + 1) % 7)), ?_, ⟨?_, ?_, ?_, ?_, fun q => ?_, ?_⟩, fun k hk => by rw [u1_k (by omega), u1_k (by omega), u1_k (by omega)]; exact qo k hk⟩
        · rw [mP_cw h, bnP_1, l2, bnS_1, mI_cw h, bnP_1, u1_e, mI_cw h, bnP_1, u1_k (by decide), u1_k (by decide), q14, nI_sub (by omega), ek]
          by_cases y : tkX f e p - tkS f e p ≤ 2
          · rw [if_pos y, if_neg (show ¬ 2 < nI (tkX f e p - tkS f e p) from nI_nlt (a := 2) y (by decide)), bnP_1]
            dsimp only
            rw [mP_cw h, bnP_1]
            rfl
          · rw [if_neg y, if_pos (show 2 < nI (tkX f e p - tkS f e p) from nI_lt (a := 2) (by omega) (by omega)), bnP_1]
            dsimp only
            rw [mP_cw h, bnP_1]
            rfl
        · rw [u1_k (by decide), u1_k (by decide), u1_k (by decide), q12]
        · rw [u1_k (by decide), u1_e]
        · rw [u1_k (by decide), u1_k (by decide), u1_k (by decide), q14]
        · rw [u1_e]
        · have hn := tk_nm hp q
          rw [u1_k (by decide), u1_k (by decide), u1_e]
          unfold dgW tkV
          rw [if_neg (by omega)]
        · rw [u1_k (by decide), u1_k (by decide), u1_k (by decide), q17]
    · obtain ⟨ex, ek⟩ := tk_w z z1
      obtain ⟨d1, d2, d3, d4⟩ := ruE_sp (lrB f) (s := tkS f e p) (e := e) (by omega)
      rw [← ex] at d1 d2 d3 d4
      rw [if_pos rfl]
      have l2 := lpS_f (f := fX10_goes_l3 (some 80)) (a := ()) (σ := wi σ (cw G 80 g1)) (r := ()) (tkX f e p - tkS f e p) (fun _ => ()) (fun k => wi σ (cw G 80 (u1 g1 13 (nI (tkS f e p + k))))) rfl (by
        show wi σ (cw G 80 (u1 g1 13 (nI (tkS f e p + 0)))) = _
        rw [Nat.add_zero, ← q13, u1_id]) (by omega) (fun k hk => by
        have hq := d3 (tkS f e p + k) (by omega) (by omega)
        unfold fX10_goes_l3
        rw [mI_cw h, bnP_1, u1_e, m_isLetterP (f := f) h _ he (by omega) (by rw [u1_k (by decide)]; exact q12) hf, bnP_1, decide_eq_true (show tkS f e p + k < e by omega), Bool.true_and, hq, if_pos rfl, bnP_1, nI_a1, mP_cw h, bnP_1]
        congr 4
        funext j
        unfold u1
        by_cases y3 : j = 13
        · rw [if_pos y3, if_pos y3]
          rfl
        · rw [if_neg y3, if_neg y3, if_neg y3]) (by
        show fX10_goes_l3 (some 80) () (wi σ (cw G 80 (u1 g1 13 (nI (tkS f e p + (tkX f e p - tkS f e p)))))) = _
        rw [show tkS f e p + (tkX f e p - tkS f e p) = tkX f e p by omega]
        unfold fX10_goes_l3
        rw [mI_cw h, bnP_1, u1_e, m_isLetterP (f := f) h _ he (by omega) (by rw [u1_k (by decide)]; exact q12) hf, bnP_1]
        by_cases y : tkX f e p < e
        · rw [d4 y, Bool.and_false, if_neg (by decide)]
        · rw [decide_eq_false y, Bool.false_and, if_neg (by decide)])
      refine ⟨u1 (u1 g1 13 (nI (tkX f e p))) 15 (nI ((tkK f e p + 1) % 7)), ?_, ⟨?_, ?_, ?_, ?_, fun q => ?_, ?_⟩, fun k hk => by rw [u1_k (by omega), u1_k (by omega)]; exact qo k hk⟩
      · rw [l2, bnS_1, mI_cw h, bnP_1, u1_e, mI_cw h, bnP_1, u1_k (by decide), q14, nI_sub (by omega), ek]
        by_cases y : tkX f e p - tkS f e p ≤ 8
        · rw [if_pos y, if_neg (show ¬ 8 < nI (tkX f e p - tkS f e p) from nI_nlt (a := 8) y (by decide)), bnP_1]
          dsimp only
          rw [mP_cw h, bnP_1]
          rfl
        · rw [if_neg y, if_pos (show 8 < nI (tkX f e p - tkS f e p) from nI_lt (a := 8) (by omega) (by omega)), bnP_1]
          dsimp only
          rw [mP_cw h, bnP_1]
          rfl
      · rw [u1_k (by decide), u1_k (by decide), q12]
      · rw [u1_k (by decide), u1_e]
      · rw [u1_k (by decide), u1_k (by decide), q14]
      · rw [u1_e]
      · rw [ek] at q
        split at q
        · omega
        · omega
      · rw [u1_k (by decide), u1_k (by decide), q17]
end MTKS
