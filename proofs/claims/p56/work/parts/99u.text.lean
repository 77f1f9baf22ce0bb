/-! p56, pure: texts by hand, 12: the text of two acts -/
def kBook : List Nat := [98, 111, 111, 107, 32]
def kAct : List Nat := [59, 97, 99, 116, 32]
def kKd (kd : Nat) : List Nat := ([115, 97, 108, 101, 119, 105, 108, 108, 108, 111, 97, 110].drop (4 * kd)).take 4
def kStr : List Nat := [59, 115, 116, 114, 105, 107, 101, 32, 48]
def kIns : List Nat := [59, 105, 110, 115, 101, 114, 116, 32, 49, 32, 97, 100, 59, 115, 101, 97, 108, 32, 49, 32]
def kLoan : List Nat := [59, 97, 99, 116, 32, 108, 111, 97, 110, 32]
def bodyB (v : Int32) (c3 : Nat) : List Nat := bdL (uN v) (2 + c3) ++ List.replicate (bdD (uN v) (2 + c3)) 41
def txtL (R nd Q kd : Nat) (B1 : List Nat) (st : Bool) (B2 : List Nat) : List Nat := kBook ++ [48 + R] ++ [32] ++ [48 + nd] ++ [32] ++ [48 + Q] ++ kAct ++ kKd kd ++ [32] ++ B1 ++ (if st = true then kStr else []) ++ kIns ++ [48 + (if st = true then 2 else 1)] ++ kLoan ++ B2
theorem body_len (v : Int32) {c3 : Nat} (h : c3 < 4) : (bodyB v c3).length ≤ 34 := by
  unfold bodyB
  have h1 := bd_len (us := uN v) (fun k => (uN_e v k).2) (2 + c3)
  have h2 := bd_4 (us := uN v) (2 + c3)
  rw [List.length_append, List.length_replicate]
  omega
section P56U
variable {σ σ' σ2 : HpT} {S S' : Nat → Prop} {lo a b x y t tv tv0 t0 l e n m k c d w la lv ea R Q wl we W dd mk mk' i : Nat} {L L2 B1 : List Nat} {f g A wf cs us : Nat → Nat} {v : Int32}
theorem tx_text (hd : hK σ d = 13 ∧ d < hN σ ∧ hR σ d 4 = some la ∧ hR σ d 6 = some lv) (hlv : hK σ lv = 20 ∧ hZ σ lv = 12 ∧ lv < hN σ) (hla : LsI σ la ea 0 A) (hlo : lo ≤ d ∧ lo ≤ la ∧ lo ≤ ea ∧ lo ≤ lv) (hB : hN σ + 1000 < BIG) : HOA (fL_text (some d) (some (BIG + 204)) σ) σ (fun r σ' => ∃ x y R nd Q kd st v1 c1 v2 c2, (4 ≤ R ∧ R ≤ 5 ∧ nd < 2 ∧ 2 ≤ Q ∧ Q ≤ 4 ∧ kd < 3 ∧ c1 < 4 ∧ c2 < 4) ∧ r = some x ∧ STR σ' x y (txtL R nd Q kd (bodyB v1 c1) st (bodyB v2 c2)) ∧ x < hN σ' ∧ y < hN σ' ∧ hN σ ≤ y ∧ KP lo σ σ' ∧ hN σ' ≤ hN σ + 600 ∧ hN σ + 10 ≤ hN σ') := by
  obtain ⟨d1, d2, d3, d4⟩ := hd
  obtain ⟨v0, e0⟩ := cell_some (S := σ) (n := 0) (by omega) (by decide)
  obtain ⟨r, hr, er⟩ := pk_andE v0 (m := 1) 1 (by decide)
  obtain ⟨nd, hnd, end'⟩ := pk_andE ((Int32.toUInt32 v0 >>> (Int32.toUInt32 1 &&& Int32.toUInt32 31)).toInt32) (m := 1) 1 (by decide)
  obtain ⟨q3, eq3, hq3⟩ := rem_3 ((Int32.toUInt32 v0 >>> (Int32.toUInt32 2 &&& Int32.toUInt32 31)).toInt32)
  obtain ⟨kd, ekd, hkd⟩ := rem_3 ((Int32.toUInt32 v0 >>> (Int32.toUInt32 4 &&& Int32.toUInt32 31)).toInt32)
  have hr : r < 2 := hr
  have hnd : nd < 2 := hnd
  have e4r : (4 : Int32) + nI r = nI (4 + r) := nI_add 4 r
  have e2q : (2 : Int32) + nI q3 = nI (2 + q3) := nI_add 2 q3
  unfold fL_text
  rw [show fL_cell (some (BIG + 204)) 0 σ = _ from e0, bnP_1, er, end', eq3, ekd, e4r, e2q]
  have p1 : pI σ (some d) 13 0 (nI (4 + r)) = some (wI σ d 0 (nI (4 + r))) := pI_S d1 d2
  have p2 : pI (wI σ d 0 (nI (4 + r))) (some d) 13 1 (nI nd) = some (wI (wI σ d 0 (nI (4 + r))) d 1 (nI nd)) := pI_S d1 d2
  have p3 : pI (wI (wI σ d 0 (nI (4 + r))) d 1 (nI nd)) (some d) 13 2 (nI (2 + q3)) = some (wI (wI (wI σ d 0 (nI (4 + r))) d 1 (nI nd)) d 2 (nI (2 + q3))) := pI_S d1 d2
  have d2a : d < hN (wI σ d 0 (nI (4 + r))) := d2
  have d2b : d < hN (wI (wI σ d 0 (nI (4 + r))) d 1 (nI nd)) := d2
  rw [p1, bnP_1, p2, bnP_1, p3, bnP_1]
  have F11 : FR σ (wI (wI (wI σ d 0 (nI (4 + r))) d 1 (nI nd)) d 2 (nI (2 + q3))) (fun x => x = d) := fr_tr (fr_tr (fr_wI d2 0 _) (fr_wI d2a 1 _) (fun _ _ q => q)) (fr_wI d2b 2 _) (fun _ _ q => q)
  have g0 : hI (wI (wI (wI σ d 0 (nI (4 + r))) d 1 (nI nd)) d 2 (nI (2 + q3))) d 0 = nI (4 + r) := by
    rw [hI_wI _ _ _ _ _ _ d2b, if_neg (fun q => by cases q.2), hI_wI _ _ _ _ _ _ d2a, if_neg (fun q => by cases q.2), hI_wI _ _ _ _ _ _ d2, if_pos ⟨rfl, rfl⟩]
  have g1 : hI (wI (wI (wI σ d 0 (nI (4 + r))) d 1 (nI nd)) d 2 (nI (2 + q3))) d 1 = nI nd := by
    rw [hI_wI _ _ _ _ _ _ d2b, if_neg (fun q => by cases q.2), hI_wI _ _ _ _ _ _ d2a, if_pos ⟨rfl, rfl⟩]
  have g2 : hI (wI (wI (wI σ d 0 (nI (4 + r))) d 1 (nI nd)) d 2 (nI (2 + q3))) d 2 = nI (2 + q3) := by
    rw [hI_wI _ _ _ _ _ _ d2b, if_pos ⟨rfl, rfl⟩]
  have la12 := hla.1.1
  have lal := hla.1.2.1
  have DS : DsI (wI (wI (wI σ d 0 (nI (4 + r))) d 1 (nI nd)) d 2 (nI (2 + q3))) d la lv (4 + r) (2 + q3) := ⟨⟨d1, d2, d3, d4, g0, g2⟩, ⟨by omega, by omega, by omega, by omega⟩, hlv⟩
  have LL := li_fr hla F11 (fun q => by rw [q] at la12; omega) (fun he => by have := ls_e hla (by omega) he; intro q; rw [q] at this; omega)
  have n11 : hN (wI (wI (wI σ d 0 (nI (4 + r))) d 1 (nI nd)) d 2 (nI (2 + q3))) = hN σ := rfl
  refine hoa_s (σ' := wI (wI (wI σ d 0 (nI (4 + r))) d 1 (nI nd)) d 2 (nI (2 + q3))) ?_ n11
  generalize wI (wI (wI σ d 0 (nI (4 + r))) d 1 (nI nd)) d 2 (nI (2 + q3)) = s11 at *
  refine hoa_A (hoa_nA (κ := 11) (by omega) (by decide)) (fun r12 s14 hle14 q => ?_)
  obtain ⟨rfl, rfl⟩ := q
  have n14 : hN (wN s11 11 0) = hN σ + 1 := by rw [hN_wN, n11]
  have k14 : hK (wN s11 11 0) (hN s11) = 11 := by rw [hK_wN, if_pos rfl]
  have i14 : hI (wN s11 11 0) (hN s11) 3 = 0 := by rw [hI_wN, if_pos rfl]
  have F14 := fr_wN s11 11 0 (fun _ => False)
  rw [n11] at k14 i14 ⊢
  generalize wN s11 11 0 = s14 at *
  refine hoa_O (sb_inits (x := BIG + 34) (y := BIG + 34 + 100) (L2 := kBook) k14 (by omega) i14 (fun σ' h1 h2 => st_con (by omega) (by decide) (by decide) (by decide) (by decide) (by decide)) (by omega) (by omega)) (fun r19 s21 hle21 q => ?_)
  obtain ⟨tv, sb, htv, f21, n21⟩ := q
  have FA : FR s11 s21 (fun _ => False) := fr_tr F14 f21 (fun x hx q => by omega)
  have D21 := ds_fr DS FA (fun q => q)
  have i0 : ∀ s, FR s11 s (fun _ => False) → gI s (some d) 13 0 = some (nI (4 + r)) ∧ gI s (some d) 13 1 = some (nI nd) ∧ gI s (some d) 13 2 = some (nI (2 + q3)) := fun s F => by
    have kd := (F.2 d DS.1.2.1).1.trans DS.1.1
    have ii := fun k => ((F.2 d DS.1.2.1).2.2 (fun q => q) k).1
    exact ⟨by rw [gI_S kd, ii, g0], by rw [gI_S kd, ii, g1], by rw [gI_S kd, ii, g2]⟩
  -- appends ahead of the acts
  have step : ∀ {s s' : HpT} {tv : Nat} {L L2 : List Nat}, FR s11 s (fun _ => False) → hN σ ≤ tv → SBN s s' (hN σ) tv L2 → FR s11 s' (fun _ => False) ∧ ∃ tv', SBI s' (hN σ) tv' L2 ∧ hN σ ≤ tv' ∧ hN s' ≤ hN s + 1 := fun F ht q => by
    obtain ⟨tv', s2, h1, h2, f⟩ := q
    have := F.1
    refine ⟨fr_tr F f (fun x hx q => by omega), tv', s2, by omega, h2⟩
  rw [(i0 s21 FA).1, bnP_1]
  refine hoa_O (sb_dig sb (d := 4 + r) (by omega) (by show 5 + 1 ≤ 300; decide) (by omega)) (fun r28 s30 hle30 q => ?_)
  obtain ⟨rfl, q⟩ := q
  obtain ⟨FB, tv, sb, htv, n30⟩ := step (L := []) FA (by omega) q
  refine hoa_O (sb_chr sb (c := 32) (by decide) (by show 6 + 1 ≤ 300; decide) (by omega)) (fun r35 s37 hle37 q => ?_)
  obtain ⟨rfl, q⟩ := q
  obtain ⟨FC, tv, sb, htv, n37⟩ := step (L := []) FB htv q
  rw [(i0 s37 FC).2.1, bnP_1]
  refine hoa_O (sb_dig sb (d := nd) (by omega) (by show 7 + 1 ≤ 300; decide) (by omega)) (fun r44 s46 hle46 q => ?_)
  obtain ⟨rfl, q⟩ := q
  obtain ⟨FD, tv, sb, htv, n46⟩ := step (L := []) FC htv q
  refine hoa_O (sb_chr sb (c := 32) (by decide) (by show 8 + 1 ≤ 300; decide) (by omega)) (fun r51 s53 hle53 q => ?_)
  obtain ⟨rfl, q⟩ := q
  obtain ⟨FE, tv, sb, htv, n53⟩ := step (L := []) FD htv q
  rw [(i0 s53 FE).2.2, bnP_1]
  refine hoa_O (sb_dig sb (d := 2 + q3) (by omega) (by show 9 + 1 ≤ 300; decide) (by omega)) (fun r60 s62 hle62 q => ?_)
  obtain ⟨rfl, q⟩ := q
  obtain ⟨FF, tv, sb, htv, n62⟩ := step (L := []) FE htv q
  obtain ⟨v1, e1⟩ := cell_some (S := s62) (n := 1) (by omega) (by decide)
  obtain ⟨c1, hc1, ec1⟩ := pk_andE v1 (m := 3) 2 (by decide)
  have hc1 : c1 < 4 := hc1
  rw [show fL_cell (some (BIG + 204)) 1 s62 = _ from e1, bnP_1]
  have D62 : Dsk s62 d la lv ea (4 + r) (2 + q3) 0 A (fun _ => 0) := ⟨ds_fr DS FF (fun q => q), li_fr LL FF (fun q => q) (fun _ q => q), fun j hj => absurd hj (Nat.not_lt_zero _)⟩
  have eal : ea < hN σ ∨ BIG ≤ ea := by
    rcases hla.2.1 with u | u
    · omega
    · exact Or.inl u.2.2
  have lvl : lv < hN σ := hlv.2.2
  refine hoa_O (ds_begin D62 (by decide) (by omega) ec1 hc1 (nI kd)) (fun r69 s71 hle71 q => ?_)
  obtain ⟨a, wl, ea', rfl, ha, hwl, DK, AI, hea, f71, n71, -⟩ := q
  have nn : hN σ ≤ hN s62 := by have := FF.1; omega
  have tvl := sb.2.1.2.1
  have sb71 := sb_fr sb f71 (fun q => by rcases q with q | q | q <;> omega) (fun q => by rcases q with q | q | q <;> omega)
  have kp71 : KP lo σ s71 := fr_tr (fr_tr (fr_m F11 (fun x _ q => Or.inr (by rw [q]; exact hlo.1))) FF (fun x _ q => q.elim)) f71 (fun x _ q => Or.inr (by rcases q with q | q | q <;> omega))
  have tvl := sb.2.1.2.1
  have t1 : TB s71 (hN σ) lo (kBook ++ [48 + (4 + r)] ++ [32] ++ [48 + nd] ++ [32] ++ [48 + (2 + q3)]) d la lv ea' (4 + r) (2 + q3) (fun k => if k = 0 then a else A k) a wl (2 + c1) (bodyB v1 c1) 0 := by
    obtain ⟨we, wf, s, y, ⟨a1, a2, a3, a4, a5⟩, hl, hwf, st, sn, yn, ylo⟩ := AI
    exact ⟨tv, we, wf, s, y, sb71, ⟨DK.1, DK.2.1, if_pos rfl, by omega⟩, ⟨⟨a1, a2, a3, a4, a5⟩, hl, hwf⟩, st, sn, yn, by omega, by omega, by omega, by omega, by omega⟩
  have l1 : (kBook ++ [48 + (4 + r)] ++ [32] ++ [48 + nd] ++ [32] ++ [48 + (2 + q3)]).length = 10 := rfl
  have lb1 := body_len v1 hc1
  generalize hB1 : bodyB v1 c1 = B1 at t1 lb1
  generalize hL1 : kBook ++ [48 + (4 + r)] ++ [32] ++ [48 + nd] ++ [32] ++ [48 + (2 + q3)] = L1 at t1 l1
  refine hoa_O (tb_con t1 (j := 40) (L2 := kAct) (by decide) (by decide) (by decide) (by decide) (by show L1.length + 5 ≤ 300; omega) (by omega)) (fun r76 s78 hle78 q => ?_)
  obtain ⟨rfl, t2, n78, kp78⟩ := q
  have kp78 := kp_tr kp71 kp78
  have ek4 : (4 : Int32) * nI kd = nI (4 * kd) := pk_mul 4 kd
  have ek44 : nI (4 * kd) + 4 = nI (4 * kd + 4) := nI_add _ 4
  rw [ek4, ek44]
  have hkdl : ∀ kd, kd < 3 → (kKd kd).length = 4 ∧ (∀ b ∈ kKd kd, b < 128) ∧ ∀ k, k < 4 → (byS 41).getD (4 * kd + k) 0 = nI ((kKd kd).getD k 0) := by decide
  obtain ⟨kl1, kl2, kl3⟩ := hkdl kd hkd
  have b41 : (byS 41).length = 12 := by decide
  refine hoa_O (sub_con (σ := s78) (j := 41) (i := 4 * kd) (m := 4) (L := kKd kd) (by decide) (by decide) (by rw [b41]; omega) (by rw [b41]; omega) (by rw [b41]; decide) kl3 kl1 kl2 (by omega)) (fun r83 s85 hle85 q => ?_)
  obtain ⟨rfl, st85, f85, n85⟩ := q
  have kp85 := kp_tr kp78 (fr_m f85 (fun _ _ q => q.elim))
  obtain ⟨tv2, we, wf, s, y, hs2, ⟨hD2, -⟩, ⟨⟨a1, a2, a3, a4, a5⟩, -⟩, -⟩ := id t2
  have t3 := tb_mv (mk' := 0) t2 (by omega) f85 (fun x _ q => q.elim) (ds_fr hD2 f85 (fun q => q)) ((f85.2 a a2).2.2 (fun q => q) 0).2 ((f85.2 a a2).2.2 (fun q => q) 7).2 (by rw [((f85.2 a a2).2.2 (fun q => q) 4).1]; exact a4) (fun w hw => wi_fr hw f85 (fun q => q))
  have nt3 : NoT s85 (hN σ) (hN s78 + 1) := fun tv3 e3 => by
    have e4 := ((f85.2 _ hs2.1.2.1).2.2 (fun q => q) 0).2
    rw [e3, hs2.1.2.2.1] at e4
    cases e4
    have := hs2.2.1.2.1
    omega
  refine hoa_O (tb_str t3 st85 (by omega) (by omega) nt3 (by rw [List.length_append, kl1]; show L1.length + 5 + 4 ≤ 300; omega) (by omega)) (fun r90 s92 hle92 q => ?_)
  obtain ⟨rfl, t4, n92, kp92⟩ := q
  have kp92 := kp_tr kp85 kp92
  have l4 : (L1 ++ kAct ++ kKd kd).length = 19 := by rw [List.length_append, List.length_append, kl1, l1]; rfl
  generalize hL4 : L1 ++ kAct ++ kKd kd = L4 at t4 l4
  refine hoa_O (tb_chr t4 (e := 32) (by decide) (by omega) (by omega)) (fun r97 s99 hle99 q => ?_)
  obtain ⟨rfl, t5, n99, kp99⟩ := q
  have kp99 := kp_tr kp92 kp99
  obtain ⟨sx, yx, e7, st7, sn7, yn7, nt7⟩ := tb_7 t5
  rw [e7, bnP_1]
  have l5 : (L4 ++ [32]).length = 20 := by rw [List.length_append, l4]; rfl
  refine hoa_O (tb_str t5 st7 sn7 yn7 nt7 (by omega) (by omega)) (fun r106 s108 hle108 q => ?_)
  obtain ⟨rfl, t6, n108, kp108⟩ := q
  have kp108 := kp_tr kp99 kp108
  have l6 : (L4 ++ [32] ++ B1).length ≤ 54 := by rw [List.length_append]; omega
  generalize hL6 : L4 ++ [32] ++ B1 = L6 at t6 l6
  refine hoa_A (Q := fun _ s139 => ∃ st : Bool, TB s139 (hN σ) lo (L6 ++ (if st = true then kStr else [])) d la lv ea' (4 + r) (2 + q3) (fun k => if k = 0 then a else A k) a wl (2 + c1) B1 (if st = true then 1 else 0) ∧ hN s139 ≤ hN s108 + 1 ∧ KP lo s108 s139) ?_ (fun rj s139 hle139 q => ?_)
  · by_cases y : (Int32.toUInt32 v0 >>> (Int32.toUInt32 6 &&& Int32.toUInt32 31)).toInt32 &&& 1 = 1
    · rw [if_pos y]
      obtain ⟨w, gw1, gw2, gw3, gw4⟩ := tb_get t6 (i := 0) (by omega)
      obtain ⟨z1, z2, z3, z4⟩ := tb_pZ t6 (by omega) gw4
      rw [gw1, bnP_1, show fJx4a65c_get_915e3 (some wl) 0 s108 = _ from gw2, bnP_1, gw3, bnP_1, z1, bnP_1, tb_4 z2, bnP_1, nI_a1]
      obtain ⟨y1, y2, y3, y4⟩ := tb_pI (mk' := 1) z2 (by omega) 4 (nI (0 + 1)) (by rw [if_pos rfl])
      rw [y1, bnP_1]
      refine hoa_s (hoa_O (tb_con y2 (j := 42) (L2 := kStr) (by decide) (by decide) (by decide) (by decide) (by show L6.length + 9 ≤ 300; omega) (by omega)) (fun r132 s134 hle134 q => ?_)) (y3.trans z3)
      obtain ⟨-, t7, n134, kp134⟩ := q
      exact hoa_ret ⟨true, t7, by omega, kp_tr (kp_tr z4 y4) kp134⟩
    · rw [if_neg y]
      refine hoa_ret ⟨false, ?_, by omega, fr_rf _ _⟩
      rw [if_neg (by decide), if_neg (by decide), List.append_nil]
      exact t6
  obtain ⟨st, t8, n139, kp139⟩ := q
  have kp139 := kp_tr kp108 kp139
  have l8 : (L6 ++ (if st = true then kStr else [])).length ≤ 63 := by
    rw [List.length_append]
    cases st
    · show L6.length + 0 ≤ 63
      omega
    · show L6.length + 9 ≤ 63
      omega
  generalize hL8 : L6 ++ (if st = true then kStr else []) = L8 at t8 l8
  obtain ⟨w, gw1, gw2, gw3, gw4⟩ := tb_get t8 (i := 1) (by omega)
  obtain ⟨z1, z2, z3, z4⟩ := tb_pR t8 (by omega) gw4
  rw [gw1, bnP_1, show fJx4a65c_get_915e3 (some wl) 1 s139 = _ from gw2, bnP_1, gw3, bnP_1, z1, bnP_1, tb_4 z2, bnP_1, nI_a1]
  obtain ⟨mk, hmk, hmk2⟩ : ∃ mk, mk = (if st = true then 1 else 0) + 1 ∧ mk = (if st = true then 2 else 1) := by
    cases st
    · exact ⟨1, rfl, rfl⟩
    · exact ⟨2, rfl, rfl⟩
  have hmk3 : mk ≤ 2 := by
    rw [hmk2]
    split <;> decide
  rw [← hmk]
  obtain ⟨y1, y2, y3, y4⟩ := tb_pI (mk' := mk) z2 (by omega) 4 (nI mk) (by rw [if_pos rfl])
  rw [y1, bnP_1]
  have n157 := y3.trans z3
  refine hoa_s (hoa_O (tb_con y2 (j := 44) (L2 := kIns) (by decide) (by decide) (by decide) (by decide) (by show L8.length + 20 ≤ 300; omega) (by omega)) (fun r158 s160 hle160 q => ?_)) n157
  obtain ⟨rfl, t9, n160, kp160⟩ := q
  have kp160 := kp_tr kp139 (kp_tr (kp_tr z4 y4) kp160)
  have l9 : (L8 ++ kIns).length ≤ 83 := by
    rw [List.length_append]
    show L8.length + 20 ≤ 83
    omega
  rw [tb_4 t9, bnP_1]
  refine hoa_O (tb_dig t9 (e := mk) (by omega) (by omega) (by omega)) (fun r167 s169 hle169 q => ?_)
  obtain ⟨rfl, t10, n169, kp169⟩ := q
  have kp169 := kp_tr kp160 kp169
  obtain ⟨x1, x2, x3, x3k⟩ := tb_pI (mk' := mk) t10 (by omega) 2 1 (by rw [if_neg (by decide)])
  rw [x1, bnP_1]
  obtain ⟨x4, x5, x6, x6k⟩ := tb_pI (mk' := mk) x2 (by omega) 3 1 (by rw [if_neg (by decide)])
  rw [x4, bnP_1]
  have n179 := x6.trans x3
  have kp179 := kp_tr kp169 (kp_tr x3k x6k)
  refine hoa_s ?_ n179
  generalize wI (wI s169 a 2 1) a 3 1 = s179 at *
  obtain ⟨bf, hbf⟩ : ∃ bf : Int32, (if nI kd = 0 then some ((some a : Option Nat), (5 : Int32)) else (if nI kd = 1 then some (some a, 3) else some (some a, 4))) = some (some a, bf) := by
    split
    · exact ⟨_, rfl⟩
    · split <;> exact ⟨_, rfl⟩
  rw [hbf, bnP_1]
  dsimp only
  obtain ⟨tv9, we9, wf9, s9, y9, hs9, ⟨hD9, -⟩, ⟨⟨b1, b2, b3, b4, b5⟩, hl9, hw9⟩, -⟩ := id x5
  obtain ⟨sd, esd⟩ := ac_stand b1 b3 hl9 hw9 (by omega)
  rw [esd, bnP_1]
  obtain ⟨x7, x8, x9, x9k⟩ := tb_pI (mk' := mk) x5 (by omega) 5 (bf + sd) (by rw [if_neg (by decide)])
  rw [x7, bnP_1]
  have dI : gI (wI s179 a 5 (bf + sd)) (some d) 13 3 = some (hI (wI s179 a 5 (bf + sd)) d 3) := gI_S (show hK s179 d = 13 from hD9.1.1)
  have aI9 : gI (wI s179 a 5 (bf + sd)) (some a) 10 5 = some (hI (wI s179 a 5 (bf + sd)) a 5) := gI_S (show hK s179 a = 10 from b1)
  rw [dI, bnP_1, aI9, bnP_1]
  obtain ⟨x10, x11, x12, x12k⟩ := tb_cash x8 (by omega) (hI (wI s179 a 5 (bf + sd)) d 3 + hI (wI s179 a 5 (bf + sd)) a 5)
  rw [x10, bnP_1]
  have n196 := x12.trans x9
  have kp196 := kp_tr kp179 (kp_tr x9k x12k)
  refine hoa_s ?_ n196
  generalize wI (wI s179 a 5 (bf + sd)) d 3 (hI (wI s179 a 5 (bf + sd)) d 3 + hI (wI s179 a 5 (bf + sd)) a 5) = s196 at *
  obtain ⟨v2, e2⟩ := cell_some (S := s196) (n := 2) (by omega) (by decide)
  obtain ⟨c2, hc2, ec2⟩ := pk_andE v2 (m := 3) 2 (by decide)
  have hc2 : c2 < 4 := hc2
  rw [show fL_cell (some (BIG + 204)) 2 s196 = _ from e2, bnP_1]
  obtain ⟨tva, wea, wfa, sa, ya, hsa, ⟨hDa, hLa, hA0, hwa⟩, ⟨⟨p1, p2, p3, p4, p5⟩, hla', hwfa⟩, -, -, -, -, lta⟩ := id x11
  have DK2 : Dsk s196 d la lv ea' (4 + r) (2 + q3) 1 (fun k => if k = 0 then a else A k) (fun _ => 2 + c1) := by
    refine ⟨hDa, hLa, fun j hj => ?_⟩
    obtain rfl : j = 0 := by omega
    rw [hA0]
    exact ⟨wl, ⟨p1, p2, p3, hla'.1.1, hla'.1.2.1, hla'.1.2.2.2, hla'.2.2.1⟩, hwa⟩
  refine hoa_O (ds_begin DK2 (by decide) (by omega) ec2 hc2 2) (fun r199 s201 hle201 q => ?_)
  obtain ⟨a2', wl2, ea2, rfl, ha2, hwl2, -, AI2, -, f201, n201, lo201⟩ := q
  have c11 := hsa.1.1
  have c22 := hsa.2.1.1
  have k12 := hLa.1.1
  have k20 := hDa.2.2.1
  have lb2 : (bdL (uN v2) (2 + c2) ++ List.replicate (bdD (uN v2) (2 + c2)) 41).length ≤ 34 := body_len v2 hc2
  have hne : ∀ x, x < hN s196 → hK s196 x ≠ 12 → hK s196 x ≠ 24 → hK s196 x ≠ 20 → ¬ (x = la ∨ x = ea' ∨ x = lv) := fun x hx h1 h2 h3 q => by
    rcases q with q | q | q
    · rw [q] at h1; exact h1 k12
    · rw [q] at h2 hx; exact h2 (ls_e hLa (by omega) hx)
    · rw [q] at h3; exact h3 k20
  have sb201 := sb_fr hsa f201 (hne _ hsa.1.2.1 (by omega) (by omega) (by omega)) (hne _ hsa.2.1.2.1 (by omega) (by omega) (by omega))
  obtain ⟨we2, wf2, s2, y2', ⟨u1, u2, u3, u4, u5⟩, -, -, st2, sn2, yn2, ylo2⟩ := AI2
  have tval := hsa.2.1.2.1
  have l10 : (L8 ++ kIns ++ [48 + mk]).length ≤ 84 := by
    rw [List.length_append]
    have : [48 + mk].length = 1 := rfl
    omega
  generalize hL10 : L8 ++ kIns ++ [48 + mk] = L10 at sb201 l10
  refine hoa_O (sb_str (x := BIG + 45) (y := BIG + 45 + 100) (L2 := kLoan) sb201 (fun σ' f hn => st_con (by omega) (by decide) (by decide) (by decide) (by decide) (by decide)) (by show L10.length + 10 ≤ 300; omega) (by omega) (Or.inr (by omega)) (by omega)) (fun r206 s208 hle208 q => ?_)
  obtain ⟨rfl, tvb, sb208, htvb, n208, f208⟩ := q
  have ku : hK s201 a2' = 10 := u1
  have o208 : ∀ x, x < hN s201 → hK s201 x ≠ 11 → hK s201 x ≠ 22 → ¬ (x = hN σ ∨ x = tva) := fun x hx h1 h2 q => by
    rcases q with q | q
    · rw [q] at h1; exact h1 sb201.1.1
    · rw [q] at h2; exact h2 sb201.2.1.1
  have u208 := (f208.2 a2' u2)
  have g7 : gR s208 (some a2') 10 7 = some (some s2) := gR_S (u208.1.trans u1) (by rw [(u208.2.2 (o208 _ u2 (by omega) (by omega)) 7).2]; exact u5)
  have s15 := st2.1.1
  have y22 := st2.2.1.1
  have st208 := st_fr st2 f208 sn2 yn2 (o208 _ sn2 (by omega) (by omega)) (fun q => by
    rcases q with q | q
    · rw [q] at y22
      have := sb201.1.1
      omega
    · omega)
  rw [g7, bnP_1]
  have hy2 : y2' ≠ tvb := by rcases htvb with q | q <;> omega
  have l11 : (L10 ++ kLoan).length ≤ 94 := by
    rw [List.length_append]
    show L10.length + 10 ≤ 94
    omega
  refine hoa_O (sb_str (x := s2) (y := y2') sb208 (fun σ' f hn => st_fr st208 f (by omega) (by omega) (fun q => ?_) (fun q => ?_)) (by omega) hy2 (Or.inl (by omega)) (by omega)) (fun r215 s217 hle217 q => ?_)
  · have e15 := st208.1.1
    rw [q, sb208.1.1] at e15
    omega
  · have e22 := st208.2.1.1
    rw [q, sb208.1.1] at e22
    omega
  obtain ⟨rfl, tvc, sb217, htvc, n217, f217⟩ := q
  refine hoa_O (sb_text sb217 (by omega)) (fun r222 s224 hle224 q => ?_)
  obtain ⟨rfl, st224, f224, n224⟩ := q
  refine hoa_ret ⟨hN s217, hN s217 + 1, 4 + r, nd, 2 + q3, kd, st, v1, c1, v2, c2, ⟨by omega, by omega, hnd, by omega, by omega, hkd, hc1, hc2⟩, rfl, ?_, by omega, by omega, by omega, ?_, by omega, by omega⟩
  · unfold txtL
    rw [hL1, hL4, hB1, hL6, hL8, ← hmk2, hL10]
    exact st224
  · refine kp_tr kp196 (fr_tr (fr_tr (fr_tr (fr_m f201 (fun x _ q => Or.inr ?_)) f208 (fun x _ q => Or.inr ?_)) f217 (fun x _ q => Or.inr ?_)) f224 (fun x _ q => q.elim))
    · rcases q with q | q | q <;> omega
    · rcases q with q | q <;> omega
    · rcases q with q | q <;> omega
end P56U
