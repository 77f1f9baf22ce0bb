set_option maxRecDepth 100000 in
set_option maxHeartbeats 4000000 in
theorem cL_c0 {Δ : AmbT} {Γ : CtxT} (B : Bd Δ Γ RL cL_law 9 2048 84000 601024 7293034) {Lx : Nat} {xs : Nat → Int32} (hX : Scr Δ Γ Lx xs) (hN : NCs Γ.2.2.2.2.1) {v1 v2 v3 v4 : Option Nat} {v5 : Int32} {σ σ' : HpT} {u : Unit} {a b kc ks A9 B9 : Nat} (h : fL_c0 Lx xs v1 v2 v3 v4 v5 σ = some (.ok u, σ', a, b)) (hka : kc + a = A9) (hkb : ks + b = B9) (hla : A9 ≤ 601024) (hlb : B9 ≤ 7293034) (kk : GW Δ Γ A9 B9 3319 [(0, va_rf (some (BIG + 203))), (1, va_rf v1), (2, va_rf v2), (3, va_rf v3), (4, va_rf v4), (5, .int v5)] [] σ') : GW Δ Γ kc ks 272 [(0, va_rf (some (BIG + 203))), (1, va_rf v1), (2, va_rf v2), (3, va_rf v3), (4, va_rf v4), (5, .int v5)] [] σ := by
  unfold fL_c0 at h
  refine g_aload_n B 1 dL_law_272 rfl rfl ?_
  refine g_aload_n B 0 dL_law_273 rfl rfl ?_
  refine g_iload B 5 dL_law_274 rfl ?_
  refine g_iconst (v := 1) B dL_law_276 (by decide) ?_
  refine g_iadd B dL_law_277 ?_
  replace h := bnP_s h
  obtain ⟨x1, h2, h⟩ := h
  refine g_sld B hX dL_law_278 h2 ?_
  refine g_aload_n B 0 dL_law_279 rfl rfl ?_
  refine g_iload B 5 dL_law_280 rfl ?_
  refine g_iconst (v := 2) B dL_law_282 (by decide) ?_
  refine g_iadd B dL_law_283 ?_
  replace h := bnP_s h
  obtain ⟨x3, h4, h⟩ := h
  refine g_sld B hX dL_law_284 h4 ?_
  refine g_aload_n B 0 dL_law_285 rfl rfl ?_
  refine g_iload B 5 dL_law_286 rfl ?_
  refine g_iconst (v := 3) B dL_law_288 (by decide) ?_
  refine g_iadd B dL_law_289 ?_
  replace h := bnP_s h
  obtain ⟨x5, h6, h⟩ := h
  refine g_sld B hX dL_law_290 h6 ?_
  refine g_aload_n B 0 dL_law_291 rfl rfl ?_
  refine g_iload B 5 dL_law_292 rfl ?_
  refine g_iconst (v := 4) B dL_law_294 (by decide) ?_
  refine g_iadd B dL_law_295 ?_
  replace h := bnP_s h
  obtain ⟨x7, h8, h⟩ := h
  refine g_sld B hX dL_law_296 h8 ?_
  refine g_aload_n B 0 dL_law_297 rfl rfl ?_
  refine g_iload B 5 dL_law_298 rfl ?_
  refine g_iconst (v := 5) B dL_law_300 (by decide) ?_
  refine g_iadd B dL_law_301 ?_
  replace h := bnP_s h
  obtain ⟨x9, h10, h⟩ := h
  refine g_sld B hX dL_law_302 h10 ?_
  replace h := bnS_s h
  obtain ⟨x11, s13, h12, h⟩ := h
  refine g_callVs0 (st := []) B (cX9_appendc h12) (Nat.le_of_ble_eq_true rfl) rfl rfl mi_X9_append lk_RL_172 ⟨Nat.le_of_ble_eq_true rfl, Nat.le_of_ble_eq_true rfl⟩ rfl rfl (Nat.le_of_ble_eq_true rfl) dL_law_303 (Nat.le_trans (bm hka) hla) (Nat.le_trans (bm hkb) hlb) ?_
  refine g_aload_n B 2 dL_law_306 rfl rfl ?_
  refine g_aload_n B 0 dL_law_307 rfl rfl ?_
  refine g_iload B 5 dL_law_308 rfl ?_
  refine g_iconst (v := 1) B dL_law_310 (by decide) ?_
  refine g_iadd B dL_law_311 ?_
  replace h := bnP_s h
  obtain ⟨x14, h15, h⟩ := h
  refine g_sld B hX dL_law_312 h15 ?_
  refine g_aload_n B 0 dL_law_313 rfl rfl ?_
  refine g_iload B 5 dL_law_314 rfl ?_
  refine g_iconst (v := 2) B dL_law_316 (by decide) ?_
  refine g_iadd B dL_law_317 ?_
  replace h := bnP_s h
  obtain ⟨x16, h17, h⟩ := h
  refine g_sld B hX dL_law_318 h17 ?_
  refine g_aload_n B 0 dL_law_319 rfl rfl ?_
  refine g_iload B 5 dL_law_320 rfl ?_
  refine g_iconst (v := 3) B dL_law_322 (by decide) ?_
  refine g_iadd B dL_law_323 ?_
  replace h := bnP_s h
  obtain ⟨x18, h19, h⟩ := h
  refine g_sld B hX dL_law_324 h19 ?_
  refine g_aload_n B 0 dL_law_325 rfl rfl ?_
  refine g_iload B 5 dL_law_326 rfl ?_
  refine g_iconst (v := 4) B dL_law_328 (by decide) ?_
  refine g_iadd B dL_law_329 ?_
  replace h := bnP_s h
  obtain ⟨x20, h21, h⟩ := h
  refine g_sld B hX dL_law_330 h21 ?_
  refine g_aload_n B 0 dL_law_331 rfl rfl ?_
  refine g_iload B 5 dL_law_332 rfl ?_
  refine g_iconst (v := 5) B dL_law_334 (by decide) ?_
  refine g_iadd B dL_law_335 ?_
  replace h := bnP_s h
  obtain ⟨x22, h23, h⟩ := h
  refine g_sld B hX dL_law_336 h23 ?_
  replace h := bnS_s h
  obtain ⟨x24, s26, h25, h⟩ := h
  refine g_callVs0 (st := [.int x11]) B (cX10_appendc h25) (Nat.le_of_ble_eq_true rfl) rfl rfl mi_X10_append lk_RL_176 ⟨Nat.le_of_ble_eq_true rfl, Nat.le_of_ble_eq_true rfl⟩ rfl rfl (Nat.le_of_ble_eq_true rfl) dL_law_337 (Nat.le_trans (bm hka) hla) (Nat.le_trans (bm hkb) hlb) ?_
  refine g_icmp_eq B 3319 dL_law_340 (by decide) (fun hc => ?_) (fun hc => ?_)
  · replace h := ifp hc h
    obtain ⟨w1, w2, w3, w4⟩ := inA h
    clear h
    cases w1
    subst w2
    subst w3
    subst w4
    refine g_cost hka hkb ?_
    exact g_sub [0, 1, 2, 3, 4, 5] rfl kk
  · replace h := ifn hc h
    refine g_iconst (v := 0) B dL_law_343 (by decide) ?_
    cases h
set_option maxRecDepth 100000 in
set_option maxHeartbeats 4000000 in
theorem cL_c1 {Δ : AmbT} {Γ : CtxT} (B : Bd Δ Γ RL cL_law 9 2048 84000 601024 7293034) {Lx : Nat} {xs : Nat → Int32} (hX : Scr Δ Γ Lx xs) (hN : NCs Γ.2.2.2.2.1) {v1 v2 v3 v4 : Option Nat} {v5 : Int32} {σ σ' : HpT} {u : Unit} {a b kc ks A9 B9 : Nat} (h : fL_c1 Lx xs v1 v2 v3 v4 v5 σ = some (.ok u, σ', a, b)) (hka : kc + a = A9) (hkb : ks + b = B9) (hla : A9 ≤ 601024) (hlb : B9 ≤ 7293034) (kk : GW Δ Γ A9 B9 3319 [(0, va_rf (some (BIG + 203))), (1, va_rf v1), (2, va_rf v2), (3, va_rf v3), (4, va_rf v4), (5, .int v5)] [] σ') : GW Δ Γ kc ks 345 [(0, va_rf (some (BIG + 203))), (1, va_rf v1), (2, va_rf v2), (3, va_rf v3), (4, va_rf v4), (5, .int v5)] [] σ := by
  unfold fL_c1 at h
  refine g_aload_n B 1 dL_law_345 rfl rfl ?_
  refine g_aload_n B 0 dL_law_346 rfl rfl ?_
  refine g_iload B 5 dL_law_347 rfl ?_
  refine g_iconst (v := 1) B dL_law_349 (by decide) ?_
  refine g_iadd B dL_law_350 ?_
  replace h := bnP_s h
  obtain ⟨x1, h2, h⟩ := h
  refine g_sld B hX dL_law_351 h2 ?_
  refine g_aload_n B 3 dL_law_352 rfl rfl ?_
  replace h := bnO_s h
  obtain ⟨x3, s5, a6, b7, a8, b9, h4, h, ea, eb⟩ := h
  subst ea; subst eb
  have hka := bk hka
  have hkb := bk hkb
  refine g_callSWs (st := []) B hN (cL_loadc (o := .ok x3) h4) miw_L_load lk_RL_177 ⟨Nat.le_of_ble_eq_true rfl, Nat.le_of_ble_eq_true rfl⟩ rfl rfl (Nat.le_of_ble_eq_true rfl) dL_law_353 (Nat.le_trans (bm hka) hla) (Nat.le_trans (bm hkb) hlb) ?_
  refine g_istore B dL_law_356 (Nat.le_of_ble_eq_true rfl) (s1_c (f1_k rfl (f1_k rfl (f1_k rfl (f1_k rfl (f1_k rfl (f1_1 rfl rfl f1_n))))))) ?_
  refine g_aload_n B 3 dL_law_358 rfl rfl ?_
  refine g_aload_n B 1 dL_law_359 rfl rfl ?_
  refine g_iload B 6 dL_law_360 rfl ?_
  refine g_iconst (v := 1) B dL_law_362 (by decide) ?_
  refine g_iadd B dL_law_363 ?_
  replace h := bnP_s h
  obtain ⟨x10, h11, h⟩ := h
  refine g_sld B hX dL_law_364 h11 ?_
  replace h := bnS_s h
  obtain ⟨x12, s14, h13, h⟩ := h
  refine g_callVs0 (st := []) B (cX10_loadc h13) (Nat.le_of_ble_eq_true rfl) rfl rfl mi_X10_load lk_RL_182 ⟨Nat.le_of_ble_eq_true rfl, Nat.le_of_ble_eq_true rfl⟩ rfl rfl (Nat.le_of_ble_eq_true rfl) dL_law_365 (Nat.le_trans (bm hka) hla) (Nat.le_trans (bm hkb) hlb) ?_
  refine g_istore B dL_law_368 (Nat.le_of_ble_eq_true rfl) (s1_c (f1_1 rfl rfl (f1_k rfl (f1_k rfl (f1_k rfl (f1_k rfl (f1_k rfl (f1_k rfl f1_n)))))))) ?_
  refine g_aload_n B 4 dL_law_370 rfl rfl ?_
  replace h := bnP_s h
  obtain ⟨x15, h16, h⟩ := h
  refine g_callVs0 (st := []) B (cX10_thrownc h16) (Nat.le_of_ble_eq_true rfl) rfl rfl mi_X10_thrown lk_RL_183 ⟨Nat.le_of_ble_eq_true rfl, Nat.le_of_ble_eq_true rfl⟩ rfl rfl (Nat.le_of_ble_eq_true rfl) dL_law_371 (Nat.le_trans (bm hka) hla) (Nat.le_trans (bm hkb) hlb) ?_
  refine g_iload B 1 dL_law_374 rfl ?_
  refine g_icmp_eq B 381 dL_law_376 (by decide) (fun hc => ?_) (fun hc => ?_)
  · replace h := ifp hc h
    refine g_iload B 1 dL_law_381 rfl ?_
    refine g_if_ne B 398 dL_law_383 (by decide) (fun hc => ?_) (fun hc => ?_)
    · replace h := ifn hc h
      refine g_goto B 3319 dL_law_398 (by decide) ?_
      obtain ⟨w1, w2, w3, w4⟩ := inA h
      clear h
      cases w1
      subst w2
      subst w3
      subst w4
      refine g_cost hka hkb ?_
      exact g_sub [2, 3, 4, 5, 6, 7] rfl kk
    · replace h := ifp hc h
      refine g_aload_n B 5 dL_law_386 rfl rfl ?_
      refine g_iconst (v := 0) B dL_law_387 (by decide) ?_
      replace h := bnP_s h
      obtain ⟨x17, h18, h⟩ := h
      refine g_lald B dL_law_388 h18 ?_
      refine g_iload B 0 dL_law_389 rfl ?_
      refine g_i2l B dL_law_391 ?_
      refine g_lcmp B dL_law_392 ?_
      refine g_if_eq B 398 dL_law_393 (by decide) (fun hc => ?_) (fun hc => ?_)
      · replace h := ifp hc h
        refine g_goto B 3319 dL_law_398 (by decide) ?_
        obtain ⟨w1, w2, w3, w4⟩ := inA h
        clear h
        cases w1
        subst w2
        subst w3
        subst w4
        refine g_cost hka hkb ?_
        exact g_sub [2, 3, 4, 5, 6, 7] rfl kk
      · replace h := ifn hc h
        refine g_iconst (v := 0) B dL_law_396 (by decide) ?_
        cases h
  · replace h := ifn hc h
    refine g_iconst (v := 0) B dL_law_379 (by decide) ?_
    cases h
set_option maxRecDepth 100000 in
set_option maxHeartbeats 4000000 in
theorem cL_c2 {Δ : AmbT} {Γ : CtxT} (B : Bd Δ Γ RL cL_law 9 2048 84000 601024 7293034) {Lx : Nat} {xs : Nat → Int32} (hX : Scr Δ Γ Lx xs) (hN : NCs Γ.2.2.2.2.1) {v1 v2 v3 v4 : Option Nat} {v5 : Int32} {σ σ' : HpT} {u : Unit} {a b kc ks A9 B9 : Nat} (h : fL_c2 Lx xs v1 v2 v3 v4 v5 σ = some (.ok u, σ', a, b)) (hka : kc + a = A9) (hkb : ks + b = B9) (hla : A9 ≤ 601024) (hlb : B9 ≤ 7293034) (kk : GW Δ Γ A9 B9 3319 [(0, va_rf (some (BIG + 203))), (1, va_rf v1), (2, va_rf v2), (3, va_rf v3), (4, va_rf v4), (5, .int v5)] [] σ') : GW Δ Γ kc ks 401 [(0, va_rf (some (BIG + 203))), (1, va_rf v1), (2, va_rf v2), (3, va_rf v3), (4, va_rf v4), (5, .int v5)] [] σ := by
  unfold fL_c2 at h
  refine g_aload_n B 1 dL_law_401 rfl rfl ?_
  replace h := bnP_s h
  obtain ⟨x1, h2, h⟩ := h
  refine g_callVs0 (st := []) B (cX9_parseErrorc h2) (Nat.le_of_ble_eq_true rfl) rfl rfl mi_X9_parseError lk_RL_186 ⟨Nat.le_of_ble_eq_true rfl, Nat.le_of_ble_eq_true rfl⟩ rfl rfl (Nat.le_of_ble_eq_true rfl) dL_law_402 (Nat.le_trans (bm hka) hla) (Nat.le_trans (bm hkb) hlb) ?_
  refine g_aload_n B 2 dL_law_405 rfl rfl ?_
  replace h := bnS_s h
  obtain ⟨x3, s5, h4, h⟩ := h
  refine g_callVs0 (st := [.int x1]) B (cX10_parseErrorc h4) (Nat.le_of_ble_eq_true rfl) rfl rfl mi_X10_parseError lk_RL_189 ⟨Nat.le_of_ble_eq_true rfl, Nat.le_of_ble_eq_true rfl⟩ rfl rfl (Nat.le_of_ble_eq_true rfl) dL_law_406 (Nat.le_trans (bm hka) hla) (Nat.le_trans (bm hkb) hlb) ?_
  refine g_icmp_eq B 3319 dL_law_409 (by decide) (fun hc => ?_) (fun hc => ?_)
  · replace h := ifp hc h
    obtain ⟨w1, w2, w3, w4⟩ := inA h
    clear h
    cases w1
    subst w2
    subst w3
    subst w4
    refine g_cost hka hkb ?_
    exact g_sub [0, 1, 2, 3, 4, 5] rfl kk
  · replace h := ifn hc h
    refine g_iconst (v := 0) B dL_law_412 (by decide) ?_
    cases h
set_option maxRecDepth 100000 in
set_option maxHeartbeats 4000000 in
theorem cL_c3 {Δ : AmbT} {Γ : CtxT} (B : Bd Δ Γ RL cL_law 9 2048 84000 601024 7293034) {Lx : Nat} {xs : Nat → Int32} (hX : Scr Δ Γ Lx xs) (hN : NCs Γ.2.2.2.2.1) {v1 v2 v3 v4 : Option Nat} {v5 : Int32} {σ σ' : HpT} {u : Unit} {a b kc ks A9 B9 : Nat} (h : fL_c3 Lx xs v1 v2 v3 v4 v5 σ = some (.ok u, σ', a, b)) (hka : kc + a = A9) (hkb : ks + b = B9) (hla : A9 ≤ 601024) (hlb : B9 ≤ 7293034) (kk : GW Δ Γ A9 B9 3319 [(0, va_rf (some (BIG + 203))), (1, va_rf v1), (2, va_rf v2), (3, va_rf v3), (4, va_rf v4), (5, .int v5)] [] σ') : GW Δ Γ kc ks 414 [(0, va_rf (some (BIG + 203))), (1, va_rf v1), (2, va_rf v2), (3, va_rf v3), (4, va_rf v4), (5, .int v5)] [] σ := by
  unfold fL_c3 at h
  refine g_aload_n B 1 dL_law_414 rfl rfl ?_
  replace h := bnP_s h
  obtain ⟨x1, h2, h⟩ := h
  refine g_callVs0 (st := []) B (cX9_errorPositionc h2) (Nat.le_of_ble_eq_true rfl) rfl rfl mi_X9_errorPosition lk_RL_190 ⟨Nat.le_of_ble_eq_true rfl, Nat.le_of_ble_eq_true rfl⟩ rfl rfl (Nat.le_of_ble_eq_true rfl) dL_law_415 (Nat.le_trans (bm hka) hla) (Nat.le_trans (bm hkb) hlb) ?_
  refine g_aload_n B 2 dL_law_418 rfl rfl ?_
  replace h := bnS_s h
  obtain ⟨x3, s5, h4, h⟩ := h
  refine g_callVs0 (st := [.int x1]) B (cX10_errorPositionc h4) (Nat.le_of_ble_eq_true rfl) rfl rfl mi_X10_errorPosition lk_RL_193 ⟨Nat.le_of_ble_eq_true rfl, Nat.le_of_ble_eq_true rfl⟩ rfl rfl (Nat.le_of_ble_eq_true rfl) dL_law_419 (Nat.le_trans (bm hka) hla) (Nat.le_trans (bm hkb) hlb) ?_
  refine g_icmp_eq B 3319 dL_law_422 (by decide) (fun hc => ?_) (fun hc => ?_)
  · replace h := ifp hc h
    obtain ⟨w1, w2, w3, w4⟩ := inA h
    clear h
    cases w1
    subst w2
    subst w3
    subst w4
    refine g_cost hka hkb ?_
    exact g_sub [0, 1, 2, 3, 4, 5] rfl kk
  · replace h := ifn hc h
    refine g_iconst (v := 0) B dL_law_425 (by decide) ?_
    cases h
set_option maxRecDepth 100000 in
set_option maxHeartbeats 4000000 in
theorem cL_c4 {Δ : AmbT} {Γ : CtxT} (B : Bd Δ Γ RL cL_law 9 2048 84000 601024 7293034) {Lx : Nat} {xs : Nat → Int32} (hX : Scr Δ Γ Lx xs) (hN : NCs Γ.2.2.2.2.1) {v1 v2 v3 v4 : Option Nat} {v5 : Int32} {σ σ' : HpT} {u : Unit} {a b kc ks A9 B9 : Nat} (h : fL_c4 Lx xs v1 v2 v3 v4 v5 σ = some (.ok u, σ', a, b)) (hka : kc + a = A9) (hkb : ks + b = B9) (hla : A9 ≤ 601024) (hlb : B9 ≤ 7293034) (kk : GW Δ Γ A9 B9 3319 [(0, va_rf (some (BIG + 203))), (1, va_rf v1), (2, va_rf v2), (3, va_rf v3), (4, va_rf v4), (5, .int v5)] [] σ') : GW Δ Γ kc ks 427 [(0, va_rf (some (BIG + 203))), (1, va_rf v1), (2, va_rf v2), (3, va_rf v3), (4, va_rf v4), (5, .int v5)] [] σ := by
  unfold fL_c4 at h
  refine g_aload_n B 1 dL_law_427 rfl rfl ?_
  replace h := bnP_s h
  obtain ⟨x1, h2, h⟩ := h
  refine g_callVs0 (st := []) B (cX9_bufferedc h2) (Nat.le_of_ble_eq_true rfl) rfl rfl mi_X9_buffered lk_RL_194 ⟨Nat.le_of_ble_eq_true rfl, Nat.le_of_ble_eq_true rfl⟩ rfl rfl (Nat.le_of_ble_eq_true rfl) dL_law_428 (Nat.le_trans (bm hka) hla) (Nat.le_trans (bm hkb) hlb) ?_
  refine g_aload_n B 2 dL_law_431 rfl rfl ?_
  replace h := bnS_s h
  obtain ⟨x3, s5, h4, h⟩ := h
  refine g_callVs0 (st := [.int x1]) B (cX10_bufferedc h4) (Nat.le_of_ble_eq_true rfl) rfl rfl mi_X10_buffered lk_RL_197 ⟨Nat.le_of_ble_eq_true rfl, Nat.le_of_ble_eq_true rfl⟩ rfl rfl (Nat.le_of_ble_eq_true rfl) dL_law_432 (Nat.le_trans (bm hka) hla) (Nat.le_trans (bm hkb) hlb) ?_
  refine g_icmp_eq B 3319 dL_law_435 (by decide) (fun hc => ?_) (fun hc => ?_)
  · replace h := ifp hc h
    obtain ⟨w1, w2, w3, w4⟩ := inA h
    clear h
    cases w1
    subst w2
    subst w3
    subst w4
    refine g_cost hka hkb ?_
    exact g_sub [0, 1, 2, 3, 4, 5] rfl kk
  · replace h := ifn hc h
    refine g_iconst (v := 0) B dL_law_438 (by decide) ?_
    cases h
set_option maxRecDepth 100000 in
set_option maxHeartbeats 4000000 in
theorem cL_c5 {Δ : AmbT} {Γ : CtxT} (B : Bd Δ Γ RL cL_law 9 2048 84000 601024 7293034) {Lx : Nat} {xs : Nat → Int32} (hX : Scr Δ Γ Lx xs) (hN : NCs Γ.2.2.2.2.1) {v1 v2 v3 v4 : Option Nat} {v5 : Int32} {σ σ' : HpT} {u : Unit} {a b kc ks A9 B9 : Nat} (h : fL_c5 Lx xs v1 v2 v3 v4 v5 σ = some (.ok u, σ', a, b)) (hka : kc + a = A9) (hkb : ks + b = B9) (hla : A9 ≤ 601024) (hlb : B9 ≤ 7293034) (kk : GW Δ Γ A9 B9 3319 [(0, va_rf (some (BIG + 203))), (1, va_rf v1), (2, va_rf v2), (3, va_rf v3), (4, va_rf v4), (5, .int v5)] [] σ') : GW Δ Γ kc ks 440 [(0, va_rf (some (BIG + 203))), (1, va_rf v1), (2, va_rf v2), (3, va_rf v3), (4, va_rf v4), (5, .int v5)] [] σ := by
  unfold fL_c5 at h
  refine g_aload_n B 1 dL_law_440 rfl rfl ?_
  refine g_aload_n B 0 dL_law_441 rfl rfl ?_
  refine g_iload B 5 dL_law_442 rfl ?_
  refine g_iconst (v := 1) B dL_law_444 (by decide) ?_
  refine g_iadd B dL_law_445 ?_
  replace h := bnP_s h
  obtain ⟨x1, h2, h⟩ := h
  refine g_sld B hX dL_law_446 h2 ?_
  refine g_aload_n B 3 dL_law_447 rfl rfl ?_
  replace h := bnO_s h
  obtain ⟨x3, s5, a6, b7, a8, b9, h4, h, ea, eb⟩ := h
  subst ea; subst eb
  have hka := bk hka
  have hkb := bk hkb
  refine g_callSWs (st := []) B hN (cL_countc (o := .ok x3) h4) miw_L_count lk_RL_198 ⟨Nat.le_of_ble_eq_true rfl, Nat.le_of_ble_eq_true rfl⟩ rfl rfl (Nat.le_of_ble_eq_true rfl) dL_law_448 (Nat.le_trans (bm hka) hla) (Nat.le_trans (bm hkb) hlb) ?_
  refine g_istore B dL_law_451 (Nat.le_of_ble_eq_true rfl) (s1_c (f1_k rfl (f1_k rfl (f1_k rfl (f1_k rfl (f1_k rfl (f1_1 rfl rfl f1_n))))))) ?_
  refine g_aload_n B 3 dL_law_453 rfl rfl ?_
  refine g_aload_n B 1 dL_law_454 rfl rfl ?_
  refine g_iload B 6 dL_law_455 rfl ?_
  refine g_iconst (v := 1) B dL_law_457 (by decide) ?_
  refine g_iadd B dL_law_458 ?_
  replace h := bnP_s h
  obtain ⟨x10, h11, h⟩ := h
  refine g_sld B hX dL_law_459 h11 ?_
  replace h := bnS_s h
  obtain ⟨x12, s14, h13, h⟩ := h
  refine g_callVs0 (st := []) B (cX10_countc h13) (Nat.le_of_ble_eq_true rfl) rfl rfl mi_X10_count lk_RL_200 ⟨Nat.le_of_ble_eq_true rfl, Nat.le_of_ble_eq_true rfl⟩ rfl rfl (Nat.le_of_ble_eq_true rfl) dL_law_460 (Nat.le_trans (bm hka) hla) (Nat.le_trans (bm hkb) hlb) ?_
  refine g_istore B dL_law_463 (Nat.le_of_ble_eq_true rfl) (s1_c (f1_1 rfl rfl (f1_k rfl (f1_k rfl (f1_k rfl (f1_k rfl (f1_k rfl (f1_k rfl f1_n)))))))) ?_
  refine g_aload_n B 4 dL_law_465 rfl rfl ?_
  replace h := bnP_s h
  obtain ⟨x15, h16, h⟩ := h
  refine g_callVs0 (st := []) B (cX10_thrownc h16) (Nat.le_of_ble_eq_true rfl) rfl rfl mi_X10_thrown lk_RL_183 ⟨Nat.le_of_ble_eq_true rfl, Nat.le_of_ble_eq_true rfl⟩ rfl rfl (Nat.le_of_ble_eq_true rfl) dL_law_466 (Nat.le_trans (bm hka) hla) (Nat.le_trans (bm hkb) hlb) ?_
  refine g_iload B 1 dL_law_469 rfl ?_
  refine g_icmp_eq B 476 dL_law_471 (by decide) (fun hc => ?_) (fun hc => ?_)
  · replace h := ifp hc h
    refine g_iload B 1 dL_law_476 rfl ?_
    refine g_if_ne B 493 dL_law_478 (by decide) (fun hc => ?_) (fun hc => ?_)
    · replace h := ifn hc h
      refine g_goto B 3319 dL_law_493 (by decide) ?_
      obtain ⟨w1, w2, w3, w4⟩ := inA h
      clear h
      cases w1
      subst w2
      subst w3
      subst w4
      refine g_cost hka hkb ?_
      exact g_sub [2, 3, 4, 5, 6, 7] rfl kk
    · replace h := ifp hc h
      refine g_aload_n B 5 dL_law_481 rfl rfl ?_
      refine g_iconst (v := 0) B dL_law_482 (by decide) ?_
      replace h := bnP_s h
      obtain ⟨x17, h18, h⟩ := h
      refine g_lald B dL_law_483 h18 ?_
      refine g_iload B 0 dL_law_484 rfl ?_
      refine g_i2l B dL_law_486 ?_
      refine g_lcmp B dL_law_487 ?_
      refine g_if_eq B 493 dL_law_488 (by decide) (fun hc => ?_) (fun hc => ?_)
      · replace h := ifp hc h
        refine g_goto B 3319 dL_law_493 (by decide) ?_
        obtain ⟨w1, w2, w3, w4⟩ := inA h
        clear h
        cases w1
        subst w2
        subst w3
        subst w4
        refine g_cost hka hkb ?_
        exact g_sub [2, 3, 4, 5, 6, 7] rfl kk
      · replace h := ifn hc h
        refine g_iconst (v := 0) B dL_law_491 (by decide) ?_
        cases h
  · replace h := ifn hc h
    refine g_iconst (v := 0) B dL_law_474 (by decide) ?_
    cases h
set_option maxRecDepth 100000 in
set_option maxHeartbeats 4000000 in
theorem cL_c6 {Δ : AmbT} {Γ : CtxT} (B : Bd Δ Γ RL cL_law 9 2048 84000 601024 7293034) {Lx : Nat} {xs : Nat → Int32} (hX : Scr Δ Γ Lx xs) (hN : NCs Γ.2.2.2.2.1) {v1 v2 v3 v4 : Option Nat} {v5 : Int32} {σ σ' : HpT} {u : Unit} {a b kc ks A9 B9 : Nat} (h : fL_c6 Lx xs v1 v2 v3 v4 v5 σ = some (.ok u, σ', a, b)) (hka : kc + a = A9) (hkb : ks + b = B9) (hla : A9 ≤ 601024) (hlb : B9 ≤ 7293034) (kk : GW Δ Γ A9 B9 3319 [(0, va_rf (some (BIG + 203))), (1, va_rf v1), (2, va_rf v2), (3, va_rf v3), (4, va_rf v4), (5, .int v5)] [] σ') : GW Δ Γ kc ks 496 [(0, va_rf (some (BIG + 203))), (1, va_rf v1), (2, va_rf v2), (3, va_rf v3), (4, va_rf v4), (5, .int v5)] [] σ := by
  unfold fL_c6 at h
  refine g_aload_n B 1 dL_law_496 rfl rfl ?_
  refine g_aload_n B 0 dL_law_497 rfl rfl ?_
  refine g_iload B 5 dL_law_498 rfl ?_
  refine g_iconst (v := 1) B dL_law_500 (by decide) ?_
  refine g_iadd B dL_law_501 ?_
  replace h := bnP_s h
  obtain ⟨x1, h2, h⟩ := h
  refine g_sld B hX dL_law_502 h2 ?_
  refine g_aload_n B 0 dL_law_503 rfl rfl ?_
  refine g_iload B 5 dL_law_504 rfl ?_
  refine g_iconst (v := 2) B dL_law_506 (by decide) ?_
  refine g_iadd B dL_law_507 ?_
  replace h := bnP_s h
  obtain ⟨x3, h4, h⟩ := h
  refine g_sld B hX dL_law_508 h4 ?_
  refine g_aload_n B 3 dL_law_509 rfl rfl ?_
  replace h := bnO_s h
  obtain ⟨x5, s7, a8, b9, a10, b11, h6, h, ea, eb⟩ := h
  subst ea; subst eb
  have hka := bk hka
  have hkb := bk hkb
  refine g_callSWs (st := []) B hN (cL_actc (o := .ok x5) h6) miw_L_act lk_RL_201 ⟨Nat.le_of_ble_eq_true rfl, Nat.le_of_ble_eq_true rfl⟩ rfl rfl (Nat.le_of_ble_eq_true rfl) dL_law_510 (Nat.le_trans (bm hka) hla) (Nat.le_trans (bm hkb) hlb) ?_
  refine g_istore B dL_law_513 (Nat.le_of_ble_eq_true rfl) (s1_c (f1_k rfl (f1_k rfl (f1_k rfl (f1_k rfl (f1_k rfl (f1_1 rfl rfl f1_n))))))) ?_
  refine g_aload_n B 3 dL_law_515 rfl rfl ?_
  refine g_aload_n B 1 dL_law_516 rfl rfl ?_
  refine g_iload B 6 dL_law_517 rfl ?_
  refine g_iconst (v := 1) B dL_law_519 (by decide) ?_
  refine g_iadd B dL_law_520 ?_
  replace h := bnP_s h
  obtain ⟨x12, h13, h⟩ := h
  refine g_sld B hX dL_law_521 h13 ?_
  refine g_aload_n B 1 dL_law_522 rfl rfl ?_
  refine g_iload B 6 dL_law_523 rfl ?_
  refine g_iconst (v := 2) B dL_law_525 (by decide) ?_
  refine g_iadd B dL_law_526 ?_
  replace h := bnP_s h
  obtain ⟨x14, h15, h⟩ := h
  refine g_sld B hX dL_law_527 h15 ?_
  replace h := bnS_s h
  obtain ⟨x16, s18, h17, h⟩ := h
  refine g_callVs0 (st := []) B (cX10_actc h17) (Nat.le_of_ble_eq_true rfl) rfl rfl mi_X10_act lk_RL_204 ⟨Nat.le_of_ble_eq_true rfl, Nat.le_of_ble_eq_true rfl⟩ rfl rfl (Nat.le_of_ble_eq_true rfl) dL_law_528 (Nat.le_trans (bm hka) hla) (Nat.le_trans (bm hkb) hlb) ?_
  refine g_istore B dL_law_531 (Nat.le_of_ble_eq_true rfl) (s1_c (f1_1 rfl rfl (f1_k rfl (f1_k rfl (f1_k rfl (f1_k rfl (f1_k rfl (f1_k rfl f1_n)))))))) ?_
  refine g_aload_n B 4 dL_law_533 rfl rfl ?_
  replace h := bnP_s h
  obtain ⟨x19, h20, h⟩ := h
  refine g_callVs0 (st := []) B (cX10_thrownc h20) (Nat.le_of_ble_eq_true rfl) rfl rfl mi_X10_thrown lk_RL_183 ⟨Nat.le_of_ble_eq_true rfl, Nat.le_of_ble_eq_true rfl⟩ rfl rfl (Nat.le_of_ble_eq_true rfl) dL_law_534 (Nat.le_trans (bm hka) hla) (Nat.le_trans (bm hkb) hlb) ?_
  refine g_iload B 1 dL_law_537 rfl ?_
  refine g_icmp_eq B 544 dL_law_539 (by decide) (fun hc => ?_) (fun hc => ?_)
  · replace h := ifp hc h
    refine g_iload B 1 dL_law_544 rfl ?_
    refine g_if_ne B 561 dL_law_546 (by decide) (fun hc => ?_) (fun hc => ?_)
    · replace h := ifn hc h
      refine g_goto B 3319 dL_law_561 (by decide) ?_
      obtain ⟨w1, w2, w3, w4⟩ := inA h
      clear h
      cases w1
      subst w2
      subst w3
      subst w4
      refine g_cost hka hkb ?_
      exact g_sub [2, 3, 4, 5, 6, 7] rfl kk
    · replace h := ifp hc h
      refine g_aload_n B 5 dL_law_549 rfl rfl ?_
      refine g_iconst (v := 0) B dL_law_550 (by decide) ?_
      replace h := bnP_s h
      obtain ⟨x21, h22, h⟩ := h
      refine g_lald B dL_law_551 h22 ?_
      refine g_iload B 0 dL_law_552 rfl ?_
      refine g_i2l B dL_law_554 ?_
      refine g_lcmp B dL_law_555 ?_
      refine g_if_eq B 561 dL_law_556 (by decide) (fun hc => ?_) (fun hc => ?_)
      · replace h := ifp hc h
        refine g_goto B 3319 dL_law_561 (by decide) ?_
        obtain ⟨w1, w2, w3, w4⟩ := inA h
        clear h
        cases w1
        subst w2
        subst w3
        subst w4
        refine g_cost hka hkb ?_
        exact g_sub [2, 3, 4, 5, 6, 7] rfl kk
      · replace h := ifn hc h
        refine g_iconst (v := 0) B dL_law_559 (by decide) ?_
        cases h
  · replace h := ifn hc h
    refine g_iconst (v := 0) B dL_law_542 (by decide) ?_
    cases h
set_option maxRecDepth 100000 in
set_option maxHeartbeats 4000000 in
theorem cL_c7 {Δ : AmbT} {Γ : CtxT} (B : Bd Δ Γ RL cL_law 9 2048 84000 601024 7293034) {Lx : Nat} {xs : Nat → Int32} (hX : Scr Δ Γ Lx xs) (hN : NCs Γ.2.2.2.2.1) {v1 v2 v3 v4 : Option Nat} {v5 : Int32} {σ σ' : HpT} {u : Unit} {a b kc ks A9 B9 : Nat} (h : fL_c7 Lx xs v1 v2 v3 v4 v5 σ = some (.ok u, σ', a, b)) (hka : kc + a = A9) (hkb : ks + b = B9) (hla : A9 ≤ 601024) (hlb : B9 ≤ 7293034) (kk : GW Δ Γ A9 B9 3319 [(0, va_rf (some (BIG + 203))), (1, va_rf v1), (2, va_rf v2), (3, va_rf v3), (4, va_rf v4), (5, .int v5)] [] σ') : GW Δ Γ kc ks 564 [(0, va_rf (some (BIG + 203))), (1, va_rf v1), (2, va_rf v2), (3, va_rf v3), (4, va_rf v4), (5, .int v5)] [] σ := by
  unfold fL_c7 at h
  refine g_aload_n B 1 dL_law_564 rfl rfl ?_
  refine g_aload_n B 0 dL_law_565 rfl rfl ?_
  refine g_iload B 5 dL_law_566 rfl ?_
  refine g_iconst (v := 1) B dL_law_568 (by decide) ?_
  refine g_iadd B dL_law_569 ?_
  replace h := bnP_s h
  obtain ⟨x1, h2, h⟩ := h
  refine g_sld B hX dL_law_570 h2 ?_
  refine g_aload_n B 0 dL_law_571 rfl rfl ?_
  refine g_iload B 5 dL_law_572 rfl ?_
  refine g_iconst (v := 2) B dL_law_574 (by decide) ?_
  refine g_iadd B dL_law_575 ?_
  replace h := bnP_s h
  obtain ⟨x3, h4, h⟩ := h
  refine g_sld B hX dL_law_576 h4 ?_
  refine g_aload_n B 0 dL_law_577 rfl rfl ?_
  refine g_iload B 5 dL_law_578 rfl ?_
  refine g_iconst (v := 3) B dL_law_580 (by decide) ?_
  refine g_iadd B dL_law_581 ?_
  replace h := bnP_s h
  obtain ⟨x5, h6, h⟩ := h
  refine g_sld B hX dL_law_582 h6 ?_
  refine g_aload_n B 3 dL_law_583 rfl rfl ?_
  replace h := bnO_s h
  obtain ⟨x7, s9, a10, b11, a12, b13, h8, h, ea, eb⟩ := h
  subst ea; subst eb
  have hka := bk hka
  have hkb := bk hkb
  refine g_callSWs (st := []) B hN (cL_wordc (o := .ok x7) h8) miw_L_word lk_RL_205 ⟨Nat.le_of_ble_eq_true rfl, Nat.le_of_ble_eq_true rfl⟩ rfl rfl (Nat.le_of_ble_eq_true rfl) dL_law_584 (Nat.le_trans (bm hka) hla) (Nat.le_trans (bm hkb) hlb) ?_
  refine g_istore B dL_law_587 (Nat.le_of_ble_eq_true rfl) (s1_c (f1_k rfl (f1_k rfl (f1_k rfl (f1_k rfl (f1_k rfl (f1_1 rfl rfl f1_n))))))) ?_
  refine g_aload_n B 3 dL_law_589 rfl rfl ?_
  refine g_aload_n B 1 dL_law_590 rfl rfl ?_
  refine g_iload B 6 dL_law_591 rfl ?_
  refine g_iconst (v := 1) B dL_law_593 (by decide) ?_
  refine g_iadd B dL_law_594 ?_
  replace h := bnP_s h
  obtain ⟨x14, h15, h⟩ := h
  refine g_sld B hX dL_law_595 h15 ?_
  refine g_aload_n B 1 dL_law_596 rfl rfl ?_
  refine g_iload B 6 dL_law_597 rfl ?_
  refine g_iconst (v := 2) B dL_law_599 (by decide) ?_
  refine g_iadd B dL_law_600 ?_
  replace h := bnP_s h
  obtain ⟨x16, h17, h⟩ := h
  refine g_sld B hX dL_law_601 h17 ?_
  refine g_aload_n B 1 dL_law_602 rfl rfl ?_
  refine g_iload B 6 dL_law_603 rfl ?_
  refine g_iconst (v := 3) B dL_law_605 (by decide) ?_
  refine g_iadd B dL_law_606 ?_
  replace h := bnP_s h
  obtain ⟨x18, h19, h⟩ := h
  refine g_sld B hX dL_law_607 h19 ?_
  replace h := bnS_s h
  obtain ⟨x20, s22, h21, h⟩ := h
  refine g_callVs0 (st := []) B (cX10_wordc h21) (Nat.le_of_ble_eq_true rfl) rfl rfl mi_X10_word lk_RL_208 ⟨Nat.le_of_ble_eq_true rfl, Nat.le_of_ble_eq_true rfl⟩ rfl rfl (Nat.le_of_ble_eq_true rfl) dL_law_608 (Nat.le_trans (bm hka) hla) (Nat.le_trans (bm hkb) hlb) ?_
  refine g_istore B dL_law_611 (Nat.le_of_ble_eq_true rfl) (s1_c (f1_1 rfl rfl (f1_k rfl (f1_k rfl (f1_k rfl (f1_k rfl (f1_k rfl (f1_k rfl f1_n)))))))) ?_
  refine g_aload_n B 4 dL_law_613 rfl rfl ?_
  replace h := bnP_s h
  obtain ⟨x23, h24, h⟩ := h
  refine g_callVs0 (st := []) B (cX10_thrownc h24) (Nat.le_of_ble_eq_true rfl) rfl rfl mi_X10_thrown lk_RL_183 ⟨Nat.le_of_ble_eq_true rfl, Nat.le_of_ble_eq_true rfl⟩ rfl rfl (Nat.le_of_ble_eq_true rfl) dL_law_614 (Nat.le_trans (bm hka) hla) (Nat.le_trans (bm hkb) hlb) ?_
  refine g_iload B 1 dL_law_617 rfl ?_
  refine g_icmp_eq B 624 dL_law_619 (by decide) (fun hc => ?_) (fun hc => ?_)
  · replace h := ifp hc h
    refine g_iload B 1 dL_law_624 rfl ?_
    refine g_if_ne B 641 dL_law_626 (by decide) (fun hc => ?_) (fun hc => ?_)
    · replace h := ifn hc h
      refine g_goto B 3319 dL_law_641 (by decide) ?_
      obtain ⟨w1, w2, w3, w4⟩ := inA h
      clear h
      cases w1
      subst w2
      subst w3
      subst w4
      refine g_cost hka hkb ?_
      exact g_sub [2, 3, 4, 5, 6, 7] rfl kk
    · replace h := ifp hc h
      refine g_aload_n B 5 dL_law_629 rfl rfl ?_
      refine g_iconst (v := 0) B dL_law_630 (by decide) ?_
      replace h := bnP_s h
      obtain ⟨x25, h26, h⟩ := h
      refine g_lald B dL_law_631 h26 ?_
      refine g_iload B 0 dL_law_632 rfl ?_
      refine g_i2l B dL_law_634 ?_
      refine g_lcmp B dL_law_635 ?_
      refine g_if_eq B 641 dL_law_636 (by decide) (fun hc => ?_) (fun hc => ?_)
      · replace h := ifp hc h
        refine g_goto B 3319 dL_law_641 (by decide) ?_
        obtain ⟨w1, w2, w3, w4⟩ := inA h
        clear h
        cases w1
        subst w2
        subst w3
        subst w4
        refine g_cost hka hkb ?_
        exact g_sub [2, 3, 4, 5, 6, 7] rfl kk
      · replace h := ifn hc h
        refine g_iconst (v := 0) B dL_law_639 (by decide) ?_
        cases h
  · replace h := ifn hc h
    refine g_iconst (v := 0) B dL_law_622 (by decide) ?_
    cases h
set_option maxRecDepth 100000 in
set_option maxHeartbeats 4000000 in
theorem cL_c8 {Δ : AmbT} {Γ : CtxT} (B : Bd Δ Γ RL cL_law 9 2048 84000 601024 7293034) {Lx : Nat} {xs : Nat → Int32} (hX : Scr Δ Γ Lx xs) (hN : NCs Γ.2.2.2.2.1) {v1 v2 v3 v4 : Option Nat} {v5 : Int32} {σ σ' : HpT} {u : Unit} {a b kc ks A9 B9 : Nat} (h : fL_c8 Lx xs v1 v2 v3 v4 v5 σ = some (.ok u, σ', a, b)) (hka : kc + a = A9) (hkb : ks + b = B9) (hla : A9 ≤ 601024) (hlb : B9 ≤ 7293034) (kk : GW Δ Γ A9 B9 3319 [(0, va_rf (some (BIG + 203))), (1, va_rf v1), (2, va_rf v2), (3, va_rf v3), (4, va_rf v4), (5, .int v5)] [] σ') : GW Δ Γ kc ks 644 [(0, va_rf (some (BIG + 203))), (1, va_rf v1), (2, va_rf v2), (3, va_rf v3), (4, va_rf v4), (5, .int v5)] [] σ := by
  unfold fL_c8 at h
  refine g_aload_n B 1 dL_law_644 rfl rfl ?_
  refine g_aload_n B 0 dL_law_645 rfl rfl ?_
  refine g_iload B 5 dL_law_646 rfl ?_
  refine g_iconst (v := 1) B dL_law_648 (by decide) ?_
  refine g_iadd B dL_law_649 ?_
  replace h := bnP_s h
  obtain ⟨x1, h2, h⟩ := h
  refine g_sld B hX dL_law_650 h2 ?_
  refine g_aload_n B 0 dL_law_651 rfl rfl ?_
  refine g_iload B 5 dL_law_652 rfl ?_
  refine g_iconst (v := 2) B dL_law_654 (by decide) ?_
  refine g_iadd B dL_law_655 ?_
  replace h := bnP_s h
  obtain ⟨x3, h4, h⟩ := h
  refine g_sld B hX dL_law_656 h4 ?_
  refine g_aload_n B 0 dL_law_657 rfl rfl ?_
  refine g_iload B 5 dL_law_658 rfl ?_
  refine g_iconst (v := 3) B dL_law_660 (by decide) ?_
  refine g_iadd B dL_law_661 ?_
  replace h := bnP_s h
  obtain ⟨x5, h6, h⟩ := h
  refine g_sld B hX dL_law_662 h6 ?_
  refine g_aload_n B 3 dL_law_663 rfl rfl ?_
  replace h := bnO_s h
  obtain ⟨x7, s9, a10, b11, a12, b13, h8, h, ea, eb⟩ := h
  subst ea; subst eb
  have hka := bk hka
  have hkb := bk hkb
  refine g_callSWs (st := []) B hN (cL_letterc (o := .ok x7) h8) miw_L_letter lk_RL_209 ⟨Nat.le_of_ble_eq_true rfl, Nat.le_of_ble_eq_true rfl⟩ rfl rfl (Nat.le_of_ble_eq_true rfl) dL_law_664 (Nat.le_trans (bm hka) hla) (Nat.le_trans (bm hkb) hlb) ?_
  refine g_istore B dL_law_667 (Nat.le_of_ble_eq_true rfl) (s1_c (f1_k rfl (f1_k rfl (f1_k rfl (f1_k rfl (f1_k rfl (f1_1 rfl rfl f1_n))))))) ?_
  refine g_aload_n B 3 dL_law_669 rfl rfl ?_
  refine g_aload_n B 1 dL_law_670 rfl rfl ?_
  refine g_iload B 6 dL_law_671 rfl ?_
  refine g_iconst (v := 1) B dL_law_673 (by decide) ?_
  refine g_iadd B dL_law_674 ?_
  replace h := bnP_s h
  obtain ⟨x14, h15, h⟩ := h
  refine g_sld B hX dL_law_675 h15 ?_
  refine g_aload_n B 1 dL_law_676 rfl rfl ?_
  refine g_iload B 6 dL_law_677 rfl ?_
  refine g_iconst (v := 2) B dL_law_679 (by decide) ?_
  refine g_iadd B dL_law_680 ?_
  replace h := bnP_s h
  obtain ⟨x16, h17, h⟩ := h
  refine g_sld B hX dL_law_681 h17 ?_
  refine g_aload_n B 1 dL_law_682 rfl rfl ?_
  refine g_iload B 6 dL_law_683 rfl ?_
  refine g_iconst (v := 3) B dL_law_685 (by decide) ?_
  refine g_iadd B dL_law_686 ?_
  replace h := bnP_s h
  obtain ⟨x18, h19, h⟩ := h
  refine g_sld B hX dL_law_687 h19 ?_
  replace h := bnS_s h
  obtain ⟨x20, s22, h21, h⟩ := h
  refine g_callVs0 (st := []) B (cX10_letterc h21) (Nat.le_of_ble_eq_true rfl) rfl rfl mi_X10_letter lk_RL_211 ⟨Nat.le_of_ble_eq_true rfl, Nat.le_of_ble_eq_true rfl⟩ rfl rfl (Nat.le_of_ble_eq_true rfl) dL_law_688 (Nat.le_trans (bm hka) hla) (Nat.le_trans (bm hkb) hlb) ?_
  refine g_istore B dL_law_691 (Nat.le_of_ble_eq_true rfl) (s1_c (f1_1 rfl rfl (f1_k rfl (f1_k rfl (f1_k rfl (f1_k rfl (f1_k rfl (f1_k rfl f1_n)))))))) ?_
  refine g_aload_n B 4 dL_law_693 rfl rfl ?_
  replace h := bnP_s h
  obtain ⟨x23, h24, h⟩ := h
  refine g_callVs0 (st := []) B (cX10_thrownc h24) (Nat.le_of_ble_eq_true rfl) rfl rfl mi_X10_thrown lk_RL_183 ⟨Nat.le_of_ble_eq_true rfl, Nat.le_of_ble_eq_true rfl⟩ rfl rfl (Nat.le_of_ble_eq_true rfl) dL_law_694 (Nat.le_trans (bm hka) hla) (Nat.le_trans (bm hkb) hlb) ?_
  refine g_iload B 1 dL_law_697 rfl ?_
  refine g_icmp_eq B 704 dL_law_699 (by decide) (fun hc => ?_) (fun hc => ?_)
  · replace h := ifp hc h
    refine g_iload B 1 dL_law_704 rfl ?_
    refine g_if_ne B 721 dL_law_706 (by decide) (fun hc => ?_) (fun hc => ?_)
    · replace h := ifn hc h
      refine g_goto B 3319 dL_law_721 (by decide) ?_
      obtain ⟨w1, w2, w3, w4⟩ := inA h
      clear h
      cases w1
      subst w2
      subst w3
      subst w4
      refine g_cost hka hkb ?_
      exact g_sub [2, 3, 4, 5, 6, 7] rfl kk
    · replace h := ifp hc h
      refine g_aload_n B 5 dL_law_709 rfl rfl ?_
      refine g_iconst (v := 0) B dL_law_710 (by decide) ?_
      replace h := bnP_s h
      obtain ⟨x25, h26, h⟩ := h
      refine g_lald B dL_law_711 h26 ?_
      refine g_iload B 0 dL_law_712 rfl ?_
      refine g_i2l B dL_law_714 ?_
      refine g_lcmp B dL_law_715 ?_
      refine g_if_eq B 721 dL_law_716 (by decide) (fun hc => ?_) (fun hc => ?_)
      · replace h := ifp hc h
        refine g_goto B 3319 dL_law_721 (by decide) ?_
        obtain ⟨w1, w2, w3, w4⟩ := inA h
        clear h
        cases w1
        subst w2
        subst w3
        subst w4
        refine g_cost hka hkb ?_
        exact g_sub [2, 3, 4, 5, 6, 7] rfl kk
      · replace h := ifn hc h
        refine g_iconst (v := 0) B dL_law_719 (by decide) ?_
        cases h
  · replace h := ifn hc h
    refine g_iconst (v := 0) B dL_law_702 (by decide) ?_
    cases h
set_option maxRecDepth 100000 in
set_option maxHeartbeats 4000000 in
theorem cL_c9 {Δ : AmbT} {Γ : CtxT} (B : Bd Δ Γ RL cL_law 9 2048 84000 601024 7293034) {Lx : Nat} {xs : Nat → Int32} (hX : Scr Δ Γ Lx xs) (hN : NCs Γ.2.2.2.2.1) {v1 v2 v3 v4 : Option Nat} {v5 : Int32} {σ σ' : HpT} {u : Unit} {a b kc ks A9 B9 : Nat} (h : fL_c9 Lx xs v1 v2 v3 v4 v5 σ = some (.ok u, σ', a, b)) (hka : kc + a = A9) (hkb : ks + b = B9) (hla : A9 ≤ 601024) (hlb : B9 ≤ 7293034) (kk : GW Δ Γ A9 B9 3319 [(0, va_rf (some (BIG + 203))), (1, va_rf v1), (2, va_rf v2), (3, va_rf v3), (4, va_rf v4), (5, .int v5)] [] σ') : GW Δ Γ kc ks 724 [(0, va_rf (some (BIG + 203))), (1, va_rf v1), (2, va_rf v2), (3, va_rf v3), (4, va_rf v4), (5, .int v5)] [] σ := by
  unfold fL_c9 at h
  refine g_aload_n B 1 dL_law_724 rfl rfl ?_
  refine g_aload_n B 0 dL_law_725 rfl rfl ?_
  refine g_iload B 5 dL_law_726 rfl ?_
  refine g_iconst (v := 1) B dL_law_728 (by decide) ?_
  refine g_iadd B dL_law_729 ?_
  replace h := bnP_s h
  obtain ⟨x1, h2, h⟩ := h
  refine g_sld B hX dL_law_730 h2 ?_
  refine g_aload_n B 0 dL_law_731 rfl rfl ?_
  refine g_iload B 5 dL_law_732 rfl ?_
  refine g_iconst (v := 2) B dL_law_734 (by decide) ?_
  refine g_iadd B dL_law_735 ?_
  replace h := bnP_s h
  obtain ⟨x3, h4, h⟩ := h
  refine g_sld B hX dL_law_736 h4 ?_
  refine g_aload_n B 0 dL_law_737 rfl rfl ?_
  refine g_iload B 5 dL_law_738 rfl ?_
  refine g_iconst (v := 3) B dL_law_740 (by decide) ?_
  refine g_iadd B dL_law_741 ?_
  replace h := bnP_s h
  obtain ⟨x5, h6, h⟩ := h
  refine g_sld B hX dL_law_742 h6 ?_
  refine g_aload_n B 0 dL_law_743 rfl rfl ?_
  refine g_iload B 5 dL_law_744 rfl ?_
  refine g_iconst (v := 4) B dL_law_746 (by decide) ?_
  refine g_iadd B dL_law_747 ?_
  replace h := bnP_s h
  obtain ⟨x7, h8, h⟩ := h
  refine g_sld B hX dL_law_748 h8 ?_
  refine g_aload_n B 3 dL_law_749 rfl rfl ?_
  replace h := bnO_s h
  obtain ⟨x9, s11, a12, b13, a14, b15, h10, h, ea, eb⟩ := h
  subst ea; subst eb
  have hka := bk hka
  have hkb := bk hkb
  refine g_callSWs (st := []) B hN (cL_innerLetterc (o := .ok x9) h10) miw_L_innerLetter lk_RL_212 ⟨Nat.le_of_ble_eq_true rfl, Nat.le_of_ble_eq_true rfl⟩ rfl rfl (Nat.le_of_ble_eq_true rfl) dL_law_750 (Nat.le_trans (bm hka) hla) (Nat.le_trans (bm hkb) hlb) ?_
  refine g_istore B dL_law_753 (Nat.le_of_ble_eq_true rfl) (s1_c (f1_k rfl (f1_k rfl (f1_k rfl (f1_k rfl (f1_k rfl (f1_1 rfl rfl f1_n))))))) ?_
  refine g_aload_n B 3 dL_law_755 rfl rfl ?_
  refine g_aload_n B 1 dL_law_756 rfl rfl ?_
  refine g_iload B 6 dL_law_757 rfl ?_
  refine g_iconst (v := 1) B dL_law_759 (by decide) ?_
  refine g_iadd B dL_law_760 ?_
  replace h := bnP_s h
  obtain ⟨x16, h17, h⟩ := h
  refine g_sld B hX dL_law_761 h17 ?_
  refine g_aload_n B 1 dL_law_762 rfl rfl ?_
  refine g_iload B 6 dL_law_763 rfl ?_
  refine g_iconst (v := 2) B dL_law_765 (by decide) ?_
  refine g_iadd B dL_law_766 ?_
  replace h := bnP_s h
  obtain ⟨x18, h19, h⟩ := h
  refine g_sld B hX dL_law_767 h19 ?_
  refine g_aload_n B 1 dL_law_768 rfl rfl ?_
  refine g_iload B 6 dL_law_769 rfl ?_
  refine g_iconst (v := 3) B dL_law_771 (by decide) ?_
  refine g_iadd B dL_law_772 ?_
  replace h := bnP_s h
  obtain ⟨x20, h21, h⟩ := h
  refine g_sld B hX dL_law_773 h21 ?_
  refine g_aload_n B 1 dL_law_774 rfl rfl ?_
  refine g_iload B 6 dL_law_775 rfl ?_
  refine g_iconst (v := 4) B dL_law_777 (by decide) ?_
  refine g_iadd B dL_law_778 ?_
  replace h := bnP_s h
  obtain ⟨x22, h23, h⟩ := h
  refine g_sld B hX dL_law_779 h23 ?_
  replace h := bnS_s h
  obtain ⟨x24, s26, h25, h⟩ := h
  refine g_callVs0 (st := []) B (cX10_innerLetterc h25) (Nat.le_of_ble_eq_true rfl) rfl rfl mi_X10_innerLetter lk_RL_215 ⟨Nat.le_of_ble_eq_true rfl, Nat.le_of_ble_eq_true rfl⟩ rfl rfl (Nat.le_of_ble_eq_true rfl) dL_law_780 (Nat.le_trans (bm hka) hla) (Nat.le_trans (bm hkb) hlb) ?_
  refine g_istore B dL_law_783 (Nat.le_of_ble_eq_true rfl) (s1_c (f1_1 rfl rfl (f1_k rfl (f1_k rfl (f1_k rfl (f1_k rfl (f1_k rfl (f1_k rfl f1_n)))))))) ?_
  refine g_aload_n B 4 dL_law_785 rfl rfl ?_
  replace h := bnP_s h
  obtain ⟨x27, h28, h⟩ := h
  refine g_callVs0 (st := []) B (cX10_thrownc h28) (Nat.le_of_ble_eq_true rfl) rfl rfl mi_X10_thrown lk_RL_183 ⟨Nat.le_of_ble_eq_true rfl, Nat.le_of_ble_eq_true rfl⟩ rfl rfl (Nat.le_of_ble_eq_true rfl) dL_law_786 (Nat.le_trans (bm hka) hla) (Nat.le_trans (bm hkb) hlb) ?_
  refine g_iload B 1 dL_law_789 rfl ?_
  refine g_icmp_eq B 796 dL_law_791 (by decide) (fun hc => ?_) (fun hc => ?_)
  · replace h := ifp hc h
    refine g_iload B 1 dL_law_796 rfl ?_
    refine g_if_ne B 813 dL_law_798 (by decide) (fun hc => ?_) (fun hc => ?_)
    · replace h := ifn hc h
      refine g_goto B 3319 dL_law_813 (by decide) ?_
      obtain ⟨w1, w2, w3, w4⟩ := inA h
      clear h
      cases w1
      subst w2
      subst w3
      subst w4
      refine g_cost hka hkb ?_
      exact g_sub [2, 3, 4, 5, 6, 7] rfl kk
    · replace h := ifp hc h
      refine g_aload_n B 5 dL_law_801 rfl rfl ?_
      refine g_iconst (v := 0) B dL_law_802 (by decide) ?_
      replace h := bnP_s h
      obtain ⟨x29, h30, h⟩ := h
      refine g_lald B dL_law_803 h30 ?_
      refine g_iload B 0 dL_law_804 rfl ?_
      refine g_i2l B dL_law_806 ?_
      refine g_lcmp B dL_law_807 ?_
      refine g_if_eq B 813 dL_law_808 (by decide) (fun hc => ?_) (fun hc => ?_)
      · replace h := ifp hc h
        refine g_goto B 3319 dL_law_813 (by decide) ?_
        obtain ⟨w1, w2, w3, w4⟩ := inA h
        clear h
        cases w1
        subst w2
        subst w3
        subst w4
        refine g_cost hka hkb ?_
        exact g_sub [2, 3, 4, 5, 6, 7] rfl kk
      · replace h := ifn hc h
        refine g_iconst (v := 0) B dL_law_811 (by decide) ?_
        cases h
  · replace h := ifn hc h
    refine g_iconst (v := 0) B dL_law_794 (by decide) ?_
    cases h
set_option maxRecDepth 100000 in
set_option maxHeartbeats 4000000 in
theorem cL_c10 {Δ : AmbT} {Γ : CtxT} (B : Bd Δ Γ RL cL_law 9 2048 84000 601024 7293034) {Lx : Nat} {xs : Nat → Int32} (hX : Scr Δ Γ Lx xs) (hN : NCs Γ.2.2.2.2.1) {v1 v2 v3 v4 : Option Nat} {v5 : Int32} {σ σ' : HpT} {u : Unit} {a b kc ks A9 B9 : Nat} (h : fL_c10 Lx xs v1 v2 v3 v4 v5 σ = some (.ok u, σ', a, b)) (hka : kc + a = A9) (hkb : ks + b = B9) (hla : A9 ≤ 601024) (hlb : B9 ≤ 7293034) (kk : GW Δ Γ A9 B9 3319 [(0, va_rf (some (BIG + 203))), (1, va_rf v1), (2, va_rf v2), (3, va_rf v3), (4, va_rf v4), (5, .int v5)] [] σ') : GW Δ Γ kc ks 816 [(0, va_rf (some (BIG + 203))), (1, va_rf v1), (2, va_rf v2), (3, va_rf v3), (4, va_rf v4), (5, .int v5)] [] σ := by
  unfold fL_c10 at h
  refine g_aload_n B 1 dL_law_816 rfl rfl ?_
  refine g_aload_n B 0 dL_law_817 rfl rfl ?_
  refine g_iload B 5 dL_law_818 rfl ?_
  refine g_iconst (v := 1) B dL_law_820 (by decide) ?_
  refine g_iadd B dL_law_821 ?_
  replace h := bnP_s h
  obtain ⟨x1, h2, h⟩ := h
  refine g_sld B hX dL_law_822 h2 ?_
  refine g_aload_n B 0 dL_law_823 rfl rfl ?_
  refine g_iload B 5 dL_law_824 rfl ?_
  refine g_iconst (v := 2) B dL_law_826 (by decide) ?_
  refine g_iadd B dL_law_827 ?_
  replace h := bnP_s h
  obtain ⟨x3, h4, h⟩ := h
  refine g_sld B hX dL_law_828 h4 ?_
  refine g_aload_n B 0 dL_law_829 rfl rfl ?_
  refine g_iload B 5 dL_law_830 rfl ?_
  refine g_iconst (v := 3) B dL_law_832 (by decide) ?_
  refine g_iadd B dL_law_833 ?_
  replace h := bnP_s h
  obtain ⟨x5, h6, h⟩ := h
  refine g_sld B hX dL_law_834 h6 ?_
  refine g_aload_n B 3 dL_law_835 rfl rfl ?_
  replace h := bnO_s h
  obtain ⟨x7, s9, a10, b11, a12, b13, h8, h, ea, eb⟩ := h
  subst ea; subst eb
  have hka := bk hka
  have hkb := bk hkb
  refine g_callSWs (st := []) B hN (cL_clausec (o := .ok x7) h8) miw_L_clause lk_RL_216 ⟨Nat.le_of_ble_eq_true rfl, Nat.le_of_ble_eq_true rfl⟩ rfl rfl (Nat.le_of_ble_eq_true rfl) dL_law_836 (Nat.le_trans (bm hka) hla) (Nat.le_trans (bm hkb) hlb) ?_
  refine g_istore B dL_law_839 (Nat.le_of_ble_eq_true rfl) (s1_c (f1_k rfl (f1_k rfl (f1_k rfl (f1_k rfl (f1_k rfl (f1_1 rfl rfl f1_n))))))) ?_
  refine g_aload_n B 3 dL_law_841 rfl rfl ?_
  refine g_aload_n B 1 dL_law_842 rfl rfl ?_
  refine g_iload B 6 dL_law_843 rfl ?_
  refine g_iconst (v := 1) B dL_law_845 (by decide) ?_
  refine g_iadd B dL_law_846 ?_
  replace h := bnP_s h
  obtain ⟨x14, h15, h⟩ := h
  refine g_sld B hX dL_law_847 h15 ?_
  refine g_aload_n B 1 dL_law_848 rfl rfl ?_
  refine g_iload B 6 dL_law_849 rfl ?_
  refine g_iconst (v := 2) B dL_law_851 (by decide) ?_
  refine g_iadd B dL_law_852 ?_
  replace h := bnP_s h
  obtain ⟨x16, h17, h⟩ := h
  refine g_sld B hX dL_law_853 h17 ?_
  refine g_aload_n B 1 dL_law_854 rfl rfl ?_
  refine g_iload B 6 dL_law_855 rfl ?_
  refine g_iconst (v := 3) B dL_law_857 (by decide) ?_
  refine g_iadd B dL_law_858 ?_
  replace h := bnP_s h
  obtain ⟨x18, h19, h⟩ := h
  refine g_sld B hX dL_law_859 h19 ?_
  replace h := bnS_s h
  obtain ⟨x20, s22, h21, h⟩ := h
  refine g_callVs0 (st := []) B (cX10_clausec h21) (Nat.le_of_ble_eq_true rfl) rfl rfl mi_X10_clause lk_RL_218 ⟨Nat.le_of_ble_eq_true rfl, Nat.le_of_ble_eq_true rfl⟩ rfl rfl (Nat.le_of_ble_eq_true rfl) dL_law_860 (Nat.le_trans (bm hka) hla) (Nat.le_trans (bm hkb) hlb) ?_
  refine g_istore B dL_law_863 (Nat.le_of_ble_eq_true rfl) (s1_c (f1_1 rfl rfl (f1_k rfl (f1_k rfl (f1_k rfl (f1_k rfl (f1_k rfl (f1_k rfl f1_n)))))))) ?_
  refine g_aload_n B 4 dL_law_865 rfl rfl ?_
  replace h := bnP_s h
  obtain ⟨x23, h24, h⟩ := h
  refine g_callVs0 (st := []) B (cX10_thrownc h24) (Nat.le_of_ble_eq_true rfl) rfl rfl mi_X10_thrown lk_RL_183 ⟨Nat.le_of_ble_eq_true rfl, Nat.le_of_ble_eq_true rfl⟩ rfl rfl (Nat.le_of_ble_eq_true rfl) dL_law_866 (Nat.le_trans (bm hka) hla) (Nat.le_trans (bm hkb) hlb) ?_
  refine g_iload B 1 dL_law_869 rfl ?_
  refine g_icmp_eq B 876 dL_law_871 (by decide) (fun hc => ?_) (fun hc => ?_)
  · replace h := ifp hc h
    refine g_iload B 1 dL_law_876 rfl ?_
    refine g_if_ne B 893 dL_law_878 (by decide) (fun hc => ?_) (fun hc => ?_)
    · replace h := ifn hc h
      refine g_goto B 3319 dL_law_893 (by decide) ?_
      obtain ⟨w1, w2, w3, w4⟩ := inA h
      clear h
      cases w1
      subst w2
      subst w3
      subst w4
      refine g_cost hka hkb ?_
      exact g_sub [2, 3, 4, 5, 6, 7] rfl kk
    · replace h := ifp hc h
      refine g_aload_n B 5 dL_law_881 rfl rfl ?_
      refine g_iconst (v := 0) B dL_law_882 (by decide) ?_
      replace h := bnP_s h
      obtain ⟨x25, h26, h⟩ := h
      refine g_lald B dL_law_883 h26 ?_
      refine g_iload B 0 dL_law_884 rfl ?_
      refine g_i2l B dL_law_886 ?_
      refine g_lcmp B dL_law_887 ?_
      refine g_if_eq B 893 dL_law_888 (by decide) (fun hc => ?_) (fun hc => ?_)
      · replace h := ifp hc h
        refine g_goto B 3319 dL_law_893 (by decide) ?_
        obtain ⟨w1, w2, w3, w4⟩ := inA h
        clear h
        cases w1
        subst w2
        subst w3
        subst w4
        refine g_cost hka hkb ?_
        exact g_sub [2, 3, 4, 5, 6, 7] rfl kk
      · replace h := ifn hc h
        refine g_iconst (v := 0) B dL_law_891 (by decide) ?_
        cases h
  · replace h := ifn hc h
    refine g_iconst (v := 0) B dL_law_874 (by decide) ?_
    cases h
set_option maxRecDepth 100000 in
set_option maxHeartbeats 4000000 in
theorem cL_c11 {Δ : AmbT} {Γ : CtxT} (B : Bd Δ Γ RL cL_law 9 2048 84000 601024 7293034) {Lx : Nat} {xs : Nat → Int32} (hX : Scr Δ Γ Lx xs) (hN : NCs Γ.2.2.2.2.1) {v1 v2 v3 v4 : Option Nat} {v5 : Int32} {σ σ' : HpT} {u : Unit} {a b kc ks A9 B9 : Nat} (h : fL_c11 Lx xs v1 v2 v3 v4 v5 σ = some (.ok u, σ', a, b)) (hka : kc + a = A9) (hkb : ks + b = B9) (hla : A9 ≤ 601024) (hlb : B9 ≤ 7293034) (kk : GW Δ Γ A9 B9 3319 [(0, va_rf (some (BIG + 203))), (1, va_rf v1), (2, va_rf v2), (3, va_rf v3), (4, va_rf v4), (5, .int v5)] [] σ') : GW Δ Γ kc ks 896 [(0, va_rf (some (BIG + 203))), (1, va_rf v1), (2, va_rf v2), (3, va_rf v3), (4, va_rf v4), (5, .int v5)] [] σ := by
  unfold fL_c11 at h
  refine g_aload_n B 1 dL_law_896 rfl rfl ?_
  refine g_aload_n B 0 dL_law_897 rfl rfl ?_
  refine g_iload B 5 dL_law_898 rfl ?_
  refine g_iconst (v := 1) B dL_law_900 (by decide) ?_
  refine g_iadd B dL_law_901 ?_
  replace h := bnP_s h
  obtain ⟨x1, h2, h⟩ := h
  refine g_sld B hX dL_law_902 h2 ?_
  refine g_aload_n B 0 dL_law_903 rfl rfl ?_
  refine g_iload B 5 dL_law_904 rfl ?_
  refine g_iconst (v := 2) B dL_law_906 (by decide) ?_
  refine g_iadd B dL_law_907 ?_
  replace h := bnP_s h
  obtain ⟨x3, h4, h⟩ := h
  refine g_sld B hX dL_law_908 h4 ?_
  refine g_aload_n B 3 dL_law_909 rfl rfl ?_
  replace h := bnO_s h
  obtain ⟨x5, s7, a8, b9, a10, b11, h6, h, ea, eb⟩ := h
  subst ea; subst eb
  have hka := bk hka
  have hkb := bk hkb
  refine g_callSWs (st := []) B hN (cL_leafc (o := .ok x5) h6) miw_L_leaf lk_RL_219 ⟨Nat.le_of_ble_eq_true rfl, Nat.le_of_ble_eq_true rfl⟩ rfl rfl (Nat.le_of_ble_eq_true rfl) dL_law_910 (Nat.le_trans (bm hka) hla) (Nat.le_trans (bm hkb) hlb) ?_
  refine g_istore B dL_law_913 (Nat.le_of_ble_eq_true rfl) (s1_c (f1_k rfl (f1_k rfl (f1_k rfl (f1_k rfl (f1_k rfl (f1_1 rfl rfl f1_n))))))) ?_
  refine g_aload_n B 3 dL_law_915 rfl rfl ?_
  refine g_aload_n B 1 dL_law_916 rfl rfl ?_
  refine g_iload B 6 dL_law_917 rfl ?_
  refine g_iconst (v := 1) B dL_law_919 (by decide) ?_
  refine g_iadd B dL_law_920 ?_
  replace h := bnP_s h
  obtain ⟨x12, h13, h⟩ := h
  refine g_sld B hX dL_law_921 h13 ?_
  refine g_aload_n B 1 dL_law_922 rfl rfl ?_
  refine g_iload B 6 dL_law_923 rfl ?_
  refine g_iconst (v := 2) B dL_law_925 (by decide) ?_
  refine g_iadd B dL_law_926 ?_
  replace h := bnP_s h
  obtain ⟨x14, h15, h⟩ := h
  refine g_sld B hX dL_law_927 h15 ?_
  replace h := bnS_s h
  obtain ⟨x16, s18, h17, h⟩ := h
  refine g_callVs0 (st := []) B (cX10_leafc h17) (Nat.le_of_ble_eq_true rfl) rfl rfl mi_X10_leaf lk_RL_221 ⟨Nat.le_of_ble_eq_true rfl, Nat.le_of_ble_eq_true rfl⟩ rfl rfl (Nat.le_of_ble_eq_true rfl) dL_law_928 (Nat.le_trans (bm hka) hla) (Nat.le_trans (bm hkb) hlb) ?_
  refine g_istore B dL_law_931 (Nat.le_of_ble_eq_true rfl) (s1_c (f1_1 rfl rfl (f1_k rfl (f1_k rfl (f1_k rfl (f1_k rfl (f1_k rfl (f1_k rfl f1_n)))))))) ?_
  refine g_aload_n B 4 dL_law_933 rfl rfl ?_
  replace h := bnP_s h
  obtain ⟨x19, h20, h⟩ := h
  refine g_callVs0 (st := []) B (cX10_thrownc h20) (Nat.le_of_ble_eq_true rfl) rfl rfl mi_X10_thrown lk_RL_183 ⟨Nat.le_of_ble_eq_true rfl, Nat.le_of_ble_eq_true rfl⟩ rfl rfl (Nat.le_of_ble_eq_true rfl) dL_law_934 (Nat.le_trans (bm hka) hla) (Nat.le_trans (bm hkb) hlb) ?_
  refine g_iload B 1 dL_law_937 rfl ?_
  refine g_icmp_eq B 944 dL_law_939 (by decide) (fun hc => ?_) (fun hc => ?_)
  · replace h := ifp hc h
    refine g_iload B 1 dL_law_944 rfl ?_
    refine g_if_ne B 961 dL_law_946 (by decide) (fun hc => ?_) (fun hc => ?_)
    · replace h := ifn hc h
      refine g_goto B 3319 dL_law_961 (by decide) ?_
      obtain ⟨w1, w2, w3, w4⟩ := inA h
      clear h
      cases w1
      subst w2
      subst w3
      subst w4
      refine g_cost hka hkb ?_
      exact g_sub [2, 3, 4, 5, 6, 7] rfl kk
    · replace h := ifp hc h
      refine g_aload_n B 5 dL_law_949 rfl rfl ?_
      refine g_iconst (v := 0) B dL_law_950 (by decide) ?_
      replace h := bnP_s h
      obtain ⟨x21, h22, h⟩ := h
      refine g_lald B dL_law_951 h22 ?_
      refine g_iload B 0 dL_law_952 rfl ?_
      refine g_i2l B dL_law_954 ?_
      refine g_lcmp B dL_law_955 ?_
      refine g_if_eq B 961 dL_law_956 (by decide) (fun hc => ?_) (fun hc => ?_)
      · replace h := ifp hc h
        refine g_goto B 3319 dL_law_961 (by decide) ?_
        obtain ⟨w1, w2, w3, w4⟩ := inA h
        clear h
        cases w1
        subst w2
        subst w3
        subst w4
        refine g_cost hka hkb ?_
        exact g_sub [2, 3, 4, 5, 6, 7] rfl kk
      · replace h := ifn hc h
        refine g_iconst (v := 0) B dL_law_959 (by decide) ?_
        cases h
  · replace h := ifn hc h
    refine g_iconst (v := 0) B dL_law_942 (by decide) ?_
    cases h
set_option maxRecDepth 100000 in
set_option maxHeartbeats 4000000 in
theorem cL_c12 {Δ : AmbT} {Γ : CtxT} (B : Bd Δ Γ RL cL_law 9 2048 84000 601024 7293034) {Lx : Nat} {xs : Nat → Int32} (hX : Scr Δ Γ Lx xs) (hN : NCs Γ.2.2.2.2.1) {v1 v2 v3 v4 : Option Nat} {v5 : Int32} {σ σ' : HpT} {u : Unit} {a b kc ks A9 B9 : Nat} (h : fL_c12 Lx xs v1 v2 v3 v4 v5 σ = some (.ok u, σ', a, b)) (hka : kc + a = A9) (hkb : ks + b = B9) (hla : A9 ≤ 601024) (hlb : B9 ≤ 7293034) (kk : GW Δ Γ A9 B9 3319 [(0, va_rf (some (BIG + 203))), (1, va_rf v1), (2, va_rf v2), (3, va_rf v3), (4, va_rf v4), (5, .int v5)] [] σ') : GW Δ Γ kc ks 964 [(0, va_rf (some (BIG + 203))), (1, va_rf v1), (2, va_rf v2), (3, va_rf v3), (4, va_rf v4), (5, .int v5)] [] σ := by
  unfold fL_c12 at h
  refine g_aload_n B 1 dL_law_964 rfl rfl ?_
  refine g_aload_n B 0 dL_law_965 rfl rfl ?_
  refine g_iload B 5 dL_law_966 rfl ?_
  refine g_iconst (v := 1) B dL_law_968 (by decide) ?_
  refine g_iadd B dL_law_969 ?_
  replace h := bnP_s h
  obtain ⟨x1, h2, h⟩ := h
  refine g_sld B hX dL_law_970 h2 ?_
  refine g_aload_n B 0 dL_law_971 rfl rfl ?_
  refine g_iload B 5 dL_law_972 rfl ?_
  refine g_iconst (v := 2) B dL_law_974 (by decide) ?_
  refine g_iadd B dL_law_975 ?_
  replace h := bnP_s h
  obtain ⟨x3, h4, h⟩ := h
  refine g_sld B hX dL_law_976 h4 ?_
  refine g_aload_n B 3 dL_law_977 rfl rfl ?_
  replace h := bnO_s h
  obtain ⟨x5, s7, a8, b9, a10, b11, h6, h, ea, eb⟩ := h
  subst ea; subst eb
  have hka := bk hka
  have hkb := bk hkb
  refine g_callSWs (st := []) B hN (cL_copyc (o := .ok x5) h6) miw_L_copy lk_RL_222 ⟨Nat.le_of_ble_eq_true rfl, Nat.le_of_ble_eq_true rfl⟩ rfl rfl (Nat.le_of_ble_eq_true rfl) dL_law_978 (Nat.le_trans (bm hka) hla) (Nat.le_trans (bm hkb) hlb) ?_
  refine g_istore B dL_law_981 (Nat.le_of_ble_eq_true rfl) (s1_c (f1_k rfl (f1_k rfl (f1_k rfl (f1_k rfl (f1_k rfl (f1_1 rfl rfl f1_n))))))) ?_
  refine g_aload_n B 3 dL_law_983 rfl rfl ?_
  refine g_aload_n B 1 dL_law_984 rfl rfl ?_
  refine g_iload B 6 dL_law_985 rfl ?_
  refine g_iconst (v := 1) B dL_law_987 (by decide) ?_
  refine g_iadd B dL_law_988 ?_
  replace h := bnP_s h
  obtain ⟨x12, h13, h⟩ := h
  refine g_sld B hX dL_law_989 h13 ?_
  refine g_aload_n B 1 dL_law_990 rfl rfl ?_
  refine g_iload B 6 dL_law_991 rfl ?_
  refine g_iconst (v := 2) B dL_law_993 (by decide) ?_
  refine g_iadd B dL_law_994 ?_
  replace h := bnP_s h
  obtain ⟨x14, h15, h⟩ := h
  refine g_sld B hX dL_law_995 h15 ?_
  replace h := bnS_s h
  obtain ⟨x16, s18, h17, h⟩ := h
  refine g_callVs0 (st := []) B (cX10_copyc h17) (Nat.le_of_ble_eq_true rfl) rfl rfl mi_X10_copy lk_RL_224 ⟨Nat.le_of_ble_eq_true rfl, Nat.le_of_ble_eq_true rfl⟩ rfl rfl (Nat.le_of_ble_eq_true rfl) dL_law_996 (Nat.le_trans (bm hka) hla) (Nat.le_trans (bm hkb) hlb) ?_
  refine g_istore B dL_law_999 (Nat.le_of_ble_eq_true rfl) (s1_c (f1_1 rfl rfl (f1_k rfl (f1_k rfl (f1_k rfl (f1_k rfl (f1_k rfl (f1_k rfl f1_n)))))))) ?_
  refine g_aload_n B 4 dL_law_1001 rfl rfl ?_
  replace h := bnP_s h
  obtain ⟨x19, h20, h⟩ := h
  refine g_callVs0 (st := []) B (cX10_thrownc h20) (Nat.le_of_ble_eq_true rfl) rfl rfl mi_X10_thrown lk_RL_183 ⟨Nat.le_of_ble_eq_true rfl, Nat.le_of_ble_eq_true rfl⟩ rfl rfl (Nat.le_of_ble_eq_true rfl) dL_law_1002 (Nat.le_trans (bm hka) hla) (Nat.le_trans (bm hkb) hlb) ?_
  refine g_iload B 1 dL_law_1005 rfl ?_
  refine g_icmp_eq B 1012 dL_law_1007 (by decide) (fun hc => ?_) (fun hc => ?_)
  · replace h := ifp hc h
    refine g_iload B 1 dL_law_1012 rfl ?_
    refine g_if_ne B 1029 dL_law_1014 (by decide) (fun hc => ?_) (fun hc => ?_)
    · replace h := ifn hc h
      refine g_goto B 3319 dL_law_1029 (by decide) ?_
      obtain ⟨w1, w2, w3, w4⟩ := inA h
      clear h
      cases w1
      subst w2
      subst w3
      subst w4
      refine g_cost hka hkb ?_
      exact g_sub [2, 3, 4, 5, 6, 7] rfl kk
    · replace h := ifp hc h
      refine g_aload_n B 5 dL_law_1017 rfl rfl ?_
      refine g_iconst (v := 0) B dL_law_1018 (by decide) ?_
      replace h := bnP_s h
      obtain ⟨x21, h22, h⟩ := h
      refine g_lald B dL_law_1019 h22 ?_
      refine g_iload B 0 dL_law_1020 rfl ?_
      refine g_i2l B dL_law_1022 ?_
      refine g_lcmp B dL_law_1023 ?_
      refine g_if_eq B 1029 dL_law_1024 (by decide) (fun hc => ?_) (fun hc => ?_)
      · replace h := ifp hc h
        refine g_goto B 3319 dL_law_1029 (by decide) ?_
        obtain ⟨w1, w2, w3, w4⟩ := inA h
        clear h
        cases w1
        subst w2
        subst w3
        subst w4
        refine g_cost hka hkb ?_
        exact g_sub [2, 3, 4, 5, 6, 7] rfl kk
      · replace h := ifn hc h
        refine g_iconst (v := 0) B dL_law_1027 (by decide) ?_
        cases h
  · replace h := ifn hc h
    refine g_iconst (v := 0) B dL_law_1010 (by decide) ?_
    cases h
set_option maxRecDepth 100000 in
set_option maxHeartbeats 4000000 in
theorem cL_c13 {Δ : AmbT} {Γ : CtxT} (B : Bd Δ Γ RL cL_law 9 2048 84000 601024 7293034) {Lx : Nat} {xs : Nat → Int32} (hX : Scr Δ Γ Lx xs) (hN : NCs Γ.2.2.2.2.1) {v1 v2 v3 v4 : Option Nat} {v5 : Int32} {σ σ' : HpT} {u : Unit} {a b kc ks A9 B9 : Nat} (h : fL_c13 Lx xs v1 v2 v3 v4 v5 σ = some (.ok u, σ', a, b)) (hka : kc + a = A9) (hkb : ks + b = B9) (hla : A9 ≤ 601024) (hlb : B9 ≤ 7293034) (kk : GW Δ Γ A9 B9 3319 [(0, va_rf (some (BIG + 203))), (1, va_rf v1), (2, va_rf v2), (3, va_rf v3), (4, va_rf v4), (5, .int v5)] [] σ') : GW Δ Γ kc ks 1032 [(0, va_rf (some (BIG + 203))), (1, va_rf v1), (2, va_rf v2), (3, va_rf v3), (4, va_rf v4), (5, .int v5)] [] σ := by
  unfold fL_c13 at h
  refine g_aload_n B 1 dL_law_1032 rfl rfl ?_
  refine g_aload_n B 0 dL_law_1033 rfl rfl ?_
  refine g_iload B 5 dL_law_1034 rfl ?_
  refine g_iconst (v := 1) B dL_law_1036 (by decide) ?_
  refine g_iadd B dL_law_1037 ?_
  replace h := bnP_s h
  obtain ⟨x1, h2, h⟩ := h
  refine g_sld B hX dL_law_1038 h2 ?_
  refine g_aload_n B 0 dL_law_1039 rfl rfl ?_
  refine g_iload B 5 dL_law_1040 rfl ?_
  refine g_iconst (v := 2) B dL_law_1042 (by decide) ?_
  refine g_iadd B dL_law_1043 ?_
  replace h := bnP_s h
  obtain ⟨x3, h4, h⟩ := h
  refine g_sld B hX dL_law_1044 h4 ?_
  refine g_aload_n B 3 dL_law_1045 rfl rfl ?_
  replace h := bnO_s h
  obtain ⟨x5, s7, a8, b9, a10, b11, h6, h, ea, eb⟩ := h
  subst ea; subst eb
  have hka := bk hka
  have hkb := bk hkb
  refine g_callSWs (st := []) B hN (cL_hasc (o := .ok x5) h6) miw_L_has lk_RL_225 ⟨Nat.le_of_ble_eq_true rfl, Nat.le_of_ble_eq_true rfl⟩ rfl rfl (Nat.le_of_ble_eq_true rfl) dL_law_1046 (Nat.le_trans (bm hka) hla) (Nat.le_trans (bm hkb) hlb) ?_
  refine g_istore B dL_law_1049 (Nat.le_of_ble_eq_true rfl) (s1_c (f1_k rfl (f1_k rfl (f1_k rfl (f1_k rfl (f1_k rfl (f1_1 rfl rfl f1_n))))))) ?_
  refine g_aload_n B 3 dL_law_1051 rfl rfl ?_
  refine g_aload_n B 1 dL_law_1052 rfl rfl ?_
  refine g_iload B 6 dL_law_1053 rfl ?_
  refine g_iconst (v := 1) B dL_law_1055 (by decide) ?_
  refine g_iadd B dL_law_1056 ?_
  replace h := bnP_s h
  obtain ⟨x12, h13, h⟩ := h
  refine g_sld B hX dL_law_1057 h13 ?_
  refine g_aload_n B 1 dL_law_1058 rfl rfl ?_
  refine g_iload B 6 dL_law_1059 rfl ?_
  refine g_iconst (v := 2) B dL_law_1061 (by decide) ?_
  refine g_iadd B dL_law_1062 ?_
  replace h := bnP_s h
  obtain ⟨x14, h15, h⟩ := h
  refine g_sld B hX dL_law_1063 h15 ?_
  replace h := bnS_s h
  obtain ⟨x16, s18, h17, h⟩ := h
  refine g_callVs0 (st := []) B (cX10_hasc h17) (Nat.le_of_ble_eq_true rfl) rfl rfl mi_X10_has lk_RL_227 ⟨Nat.le_of_ble_eq_true rfl, Nat.le_of_ble_eq_true rfl⟩ rfl rfl (Nat.le_of_ble_eq_true rfl) dL_law_1064 (Nat.le_trans (bm hka) hla) (Nat.le_trans (bm hkb) hlb) ?_
  refine g_istore B dL_law_1067 (Nat.le_of_ble_eq_true rfl) (s1_c (f1_1 rfl rfl (f1_k rfl (f1_k rfl (f1_k rfl (f1_k rfl (f1_k rfl (f1_k rfl f1_n)))))))) ?_
  refine g_aload_n B 4 dL_law_1069 rfl rfl ?_
  replace h := bnP_s h
  obtain ⟨x19, h20, h⟩ := h
  refine g_callVs0 (st := []) B (cX10_thrownc h20) (Nat.le_of_ble_eq_true rfl) rfl rfl mi_X10_thrown lk_RL_183 ⟨Nat.le_of_ble_eq_true rfl, Nat.le_of_ble_eq_true rfl⟩ rfl rfl (Nat.le_of_ble_eq_true rfl) dL_law_1070 (Nat.le_trans (bm hka) hla) (Nat.le_trans (bm hkb) hlb) ?_
  refine g_iload B 1 dL_law_1073 rfl ?_
  refine g_icmp_eq B 1080 dL_law_1075 (by decide) (fun hc => ?_) (fun hc => ?_)
  · replace h := ifp hc h
    refine g_iload B 1 dL_law_1080 rfl ?_
    refine g_if_ne B 1104 dL_law_1082 (by decide) (fun hc => ?_) (fun hc => ?_)
    · replace h := ifn hc h
      refine g_goto B 3319 dL_law_1104 (by decide) ?_
      obtain ⟨w1, w2, w3, w4⟩ := inA h
      clear h
      cases w1
      subst w2
      subst w3
      subst w4
      refine g_cost hka hkb ?_
      exact g_sub [2, 3, 4, 5, 6, 7] rfl kk
    · replace h := ifp hc h
      refine g_aload_n B 5 dL_law_1085 rfl rfl ?_
      refine g_iconst (v := 0) B dL_law_1086 (by decide) ?_
      replace h := bnP_s h
      obtain ⟨x21, h22, h⟩ := h
      refine g_lald B dL_law_1087 h22 ?_
      refine g_iload B 0 dL_law_1088 rfl ?_
      replace h := bnP_s h
      obtain ⟨j23, h24, h⟩ := h
      have k26 : GW Δ Γ (kc + a8) (ks + b9) 1098 [(0, va_rf (some (BIG + 203))), (1, va_rf v1), (2, va_rf v2), (3, va_rf v3), (4, va_rf v4), (5, .int v5)] [.long j23.2, .long j23.1] s18 := by
        refine g_lcmp B dL_law_1098 ?_
        refine g_if_eq B 1104 dL_law_1099 (by decide) (fun hc => ?_) (fun hc => ?_)
        · replace h := ifp hc h
          refine g_goto B 3319 dL_law_1104 (by decide) ?_
          obtain ⟨w1, w2, w3, w4⟩ := inA h
          clear h
          cases w1
          subst w2
          subst w3
          subst w4
          refine g_cost hka hkb ?_
          exact g_sub [0, 1, 2, 3, 4, 5] rfl kk
        · replace h := ifn hc h
          refine g_iconst (v := 0) B dL_law_1102 (by decide) ?_
          cases h
      clear h
      have h := h24
      clear h24
      refine g_if_eq B 1097 dL_law_1090 (by decide) (fun hc => ?_) (fun hc => ?_)
      · replace h := ifn (bI0 hc) h
        refine g_lconst (v := 0) B dL_law_1097 (by decide) ?_
        replace h := Option.some.inj h
        subst h
        exact g_sub [2, 3, 4, 5, 6, 7] rfl k26
      · replace h := ifp (bI1 hc) h
        refine g_lconst (v := 1) B dL_law_1093 (by decide) ?_
        refine g_goto B 1098 dL_law_1094 (by decide) ?_
        replace h := Option.some.inj h
        subst h
        exact g_sub [2, 3, 4, 5, 6, 7] rfl k26
  · replace h := ifn hc h
    refine g_iconst (v := 0) B dL_law_1078 (by decide) ?_
    cases h
set_option maxRecDepth 100000 in
set_option maxHeartbeats 4000000 in
theorem cL_c14 {Δ : AmbT} {Γ : CtxT} (B : Bd Δ Γ RL cL_law 9 2048 84000 601024 7293034) {Lx : Nat} {xs : Nat → Int32} (hX : Scr Δ Γ Lx xs) (hN : NCs Γ.2.2.2.2.1) {v1 v2 v3 v4 : Option Nat} {v5 : Int32} {σ σ' : HpT} {u : Unit} {a b kc ks A9 B9 : Nat} (h : fL_c14 Lx xs v1 v2 v3 v4 v5 σ = some (.ok u, σ', a, b)) (hka : kc + a = A9) (hkb : ks + b = B9) (hla : A9 ≤ 601024) (hlb : B9 ≤ 7293034) (kk : GW Δ Γ A9 B9 3319 [(0, va_rf (some (BIG + 203))), (1, va_rf v1), (2, va_rf v2), (3, va_rf v3), (4, va_rf v4), (5, .int v5)] [] σ') : GW Δ Γ kc ks 1107 [(0, va_rf (some (BIG + 203))), (1, va_rf v1), (2, va_rf v2), (3, va_rf v3), (4, va_rf v4), (5, .int v5)] [] σ := by
  unfold fL_c14 at h
  refine g_aload_n B 1 dL_law_1107 rfl rfl ?_
  refine g_aload_n B 0 dL_law_1108 rfl rfl ?_
  refine g_iload B 5 dL_law_1109 rfl ?_
  refine g_iconst (v := 1) B dL_law_1111 (by decide) ?_
  refine g_iadd B dL_law_1112 ?_
  replace h := bnP_s h
  obtain ⟨x1, h2, h⟩ := h
  refine g_sld B hX dL_law_1113 h2 ?_
  refine g_aload_n B 3 dL_law_1114 rfl rfl ?_
  replace h := bnO_s h
  obtain ⟨x3, s5, a6, b7, a8, b9, h4, h, ea, eb⟩ := h
  subst ea; subst eb
  have hka := bk hka
  have hkb := bk hkb
  refine g_callSWs (st := []) B hN (cL_knownc (o := .ok x3) h4) miw_L_known lk_RL_228 ⟨Nat.le_of_ble_eq_true rfl, Nat.le_of_ble_eq_true rfl⟩ rfl rfl (Nat.le_of_ble_eq_true rfl) dL_law_1115 (Nat.le_trans (bm hka) hla) (Nat.le_trans (bm hkb) hlb) ?_
  refine g_istore B dL_law_1118 (Nat.le_of_ble_eq_true rfl) (s1_c (f1_k rfl (f1_k rfl (f1_k rfl (f1_k rfl (f1_k rfl (f1_1 rfl rfl f1_n))))))) ?_
  refine g_aload_n B 3 dL_law_1120 rfl rfl ?_
  refine g_aload_n B 1 dL_law_1121 rfl rfl ?_
  refine g_iload B 6 dL_law_1122 rfl ?_
  refine g_iconst (v := 1) B dL_law_1124 (by decide) ?_
  refine g_iadd B dL_law_1125 ?_
  replace h := bnP_s h
  obtain ⟨x10, h11, h⟩ := h
  refine g_sld B hX dL_law_1126 h11 ?_
  replace h := bnS_s h
  obtain ⟨x12, s14, h13, h⟩ := h
  refine g_callVs0 (st := []) B (cX10_knownc h13) (Nat.le_of_ble_eq_true rfl) rfl rfl mi_X10_known lk_RL_230 ⟨Nat.le_of_ble_eq_true rfl, Nat.le_of_ble_eq_true rfl⟩ rfl rfl (Nat.le_of_ble_eq_true rfl) dL_law_1127 (Nat.le_trans (bm hka) hla) (Nat.le_trans (bm hkb) hlb) ?_
  refine g_istore B dL_law_1130 (Nat.le_of_ble_eq_true rfl) (s1_c (f1_1 rfl rfl (f1_k rfl (f1_k rfl (f1_k rfl (f1_k rfl (f1_k rfl (f1_k rfl f1_n)))))))) ?_
  refine g_aload_n B 4 dL_law_1132 rfl rfl ?_
  replace h := bnP_s h
  obtain ⟨x15, h16, h⟩ := h
  refine g_callVs0 (st := []) B (cX10_thrownc h16) (Nat.le_of_ble_eq_true rfl) rfl rfl mi_X10_thrown lk_RL_183 ⟨Nat.le_of_ble_eq_true rfl, Nat.le_of_ble_eq_true rfl⟩ rfl rfl (Nat.le_of_ble_eq_true rfl) dL_law_1133 (Nat.le_trans (bm hka) hla) (Nat.le_trans (bm hkb) hlb) ?_
  refine g_iload B 1 dL_law_1136 rfl ?_
  refine g_icmp_eq B 1143 dL_law_1138 (by decide) (fun hc => ?_) (fun hc => ?_)
  · replace h := ifp hc h
    refine g_iload B 1 dL_law_1143 rfl ?_
    refine g_if_ne B 1160 dL_law_1145 (by decide) (fun hc => ?_) (fun hc => ?_)
    · replace h := ifn hc h
      refine g_goto B 3319 dL_law_1160 (by decide) ?_
      obtain ⟨w1, w2, w3, w4⟩ := inA h
      clear h
      cases w1
      subst w2
      subst w3
      subst w4
      refine g_cost hka hkb ?_
      exact g_sub [2, 3, 4, 5, 6, 7] rfl kk
    · replace h := ifp hc h
      refine g_aload_n B 5 dL_law_1148 rfl rfl ?_
      refine g_iconst (v := 0) B dL_law_1149 (by decide) ?_
      replace h := bnP_s h
      obtain ⟨x17, h18, h⟩ := h
      refine g_lald B dL_law_1150 h18 ?_
      refine g_iload B 0 dL_law_1151 rfl ?_
      refine g_i2l B dL_law_1153 ?_
      refine g_lcmp B dL_law_1154 ?_
      refine g_if_eq B 1160 dL_law_1155 (by decide) (fun hc => ?_) (fun hc => ?_)
      · replace h := ifp hc h
        refine g_goto B 3319 dL_law_1160 (by decide) ?_
        obtain ⟨w1, w2, w3, w4⟩ := inA h
        clear h
        cases w1
        subst w2
        subst w3
        subst w4
        refine g_cost hka hkb ?_
        exact g_sub [2, 3, 4, 5, 6, 7] rfl kk
      · replace h := ifn hc h
        refine g_iconst (v := 0) B dL_law_1158 (by decide) ?_
        cases h
  · replace h := ifn hc h
    refine g_iconst (v := 0) B dL_law_1141 (by decide) ?_
    cases h
set_option maxRecDepth 100000 in
set_option maxHeartbeats 4000000 in
theorem cL_c15 {Δ : AmbT} {Γ : CtxT} (B : Bd Δ Γ RL cL_law 9 2048 84000 601024 7293034) {Lx : Nat} {xs : Nat → Int32} (hX : Scr Δ Γ Lx xs) (hN : NCs Γ.2.2.2.2.1) {v1 v2 v3 v4 : Option Nat} {v5 : Int32} {σ σ' : HpT} {u : Unit} {a b kc ks A9 B9 : Nat} (h : fL_c15 Lx xs v1 v2 v3 v4 v5 σ = some (.ok u, σ', a, b)) (hka : kc + a = A9) (hkb : ks + b = B9) (hla : A9 ≤ 601024) (hlb : B9 ≤ 7293034) (kk : GW Δ Γ A9 B9 3319 [(0, va_rf (some (BIG + 203))), (1, va_rf v1), (2, va_rf v2), (3, va_rf v3), (4, va_rf v4), (5, .int v5)] [] σ') : GW Δ Γ kc ks 1163 [(0, va_rf (some (BIG + 203))), (1, va_rf v1), (2, va_rf v2), (3, va_rf v3), (4, va_rf v4), (5, .int v5)] [] σ := by
  unfold fL_c15 at h
  refine g_aload_n B 1 dL_law_1163 rfl rfl ?_
  refine g_aload_n B 0 dL_law_1164 rfl rfl ?_
  refine g_iload B 5 dL_law_1165 rfl ?_
  refine g_iconst (v := 1) B dL_law_1167 (by decide) ?_
  refine g_iadd B dL_law_1168 ?_
  replace h := bnP_s h
  obtain ⟨x1, h2, h⟩ := h
  refine g_sld B hX dL_law_1169 h2 ?_
  refine g_aload_n B 3 dL_law_1170 rfl rfl ?_
  replace h := bnO_s h
  obtain ⟨x3, s5, a6, b7, a8, b9, h4, h, ea, eb⟩ := h
  subst ea; subst eb
  have hka := bk hka
  have hkb := bk hkb
  refine g_callSWs (st := []) B hN (cL_firstUnknownc (o := .ok x3) h4) miw_L_firstUnknown lk_RL_231 ⟨Nat.le_of_ble_eq_true rfl, Nat.le_of_ble_eq_true rfl⟩ rfl rfl (Nat.le_of_ble_eq_true rfl) dL_law_1171 (Nat.le_trans (bm hka) hla) (Nat.le_trans (bm hkb) hlb) ?_
  refine g_istore B dL_law_1174 (Nat.le_of_ble_eq_true rfl) (s1_c (f1_k rfl (f1_k rfl (f1_k rfl (f1_k rfl (f1_k rfl (f1_1 rfl rfl f1_n))))))) ?_
  refine g_aload_n B 3 dL_law_1176 rfl rfl ?_
  refine g_aload_n B 1 dL_law_1177 rfl rfl ?_
  refine g_iload B 6 dL_law_1178 rfl ?_
  refine g_iconst (v := 1) B dL_law_1180 (by decide) ?_
  refine g_iadd B dL_law_1181 ?_
  replace h := bnP_s h
  obtain ⟨x10, h11, h⟩ := h
  refine g_sld B hX dL_law_1182 h11 ?_
  replace h := bnS_s h
  obtain ⟨x12, s14, h13, h⟩ := h
  refine g_callVs0 (st := []) B (cX10_firstUnknownc h13) (Nat.le_of_ble_eq_true rfl) rfl rfl mi_X10_firstUnknown lk_RL_233 ⟨Nat.le_of_ble_eq_true rfl, Nat.le_of_ble_eq_true rfl⟩ rfl rfl (Nat.le_of_ble_eq_true rfl) dL_law_1183 (Nat.le_trans (bm hka) hla) (Nat.le_trans (bm hkb) hlb) ?_
  refine g_istore B dL_law_1186 (Nat.le_of_ble_eq_true rfl) (s1_c (f1_1 rfl rfl (f1_k rfl (f1_k rfl (f1_k rfl (f1_k rfl (f1_k rfl (f1_k rfl f1_n)))))))) ?_
  refine g_aload_n B 4 dL_law_1188 rfl rfl ?_
  replace h := bnP_s h
  obtain ⟨x15, h16, h⟩ := h
  refine g_callVs0 (st := []) B (cX10_thrownc h16) (Nat.le_of_ble_eq_true rfl) rfl rfl mi_X10_thrown lk_RL_183 ⟨Nat.le_of_ble_eq_true rfl, Nat.le_of_ble_eq_true rfl⟩ rfl rfl (Nat.le_of_ble_eq_true rfl) dL_law_1189 (Nat.le_trans (bm hka) hla) (Nat.le_trans (bm hkb) hlb) ?_
  refine g_iload B 1 dL_law_1192 rfl ?_
  refine g_icmp_eq B 1199 dL_law_1194 (by decide) (fun hc => ?_) (fun hc => ?_)
  · replace h := ifp hc h
    refine g_iload B 1 dL_law_1199 rfl ?_
    refine g_if_ne B 1216 dL_law_1201 (by decide) (fun hc => ?_) (fun hc => ?_)
    · replace h := ifn hc h
      refine g_goto B 3319 dL_law_1216 (by decide) ?_
      obtain ⟨w1, w2, w3, w4⟩ := inA h
      clear h
      cases w1
      subst w2
      subst w3
      subst w4
      refine g_cost hka hkb ?_
      exact g_sub [2, 3, 4, 5, 6, 7] rfl kk
    · replace h := ifp hc h
      refine g_aload_n B 5 dL_law_1204 rfl rfl ?_
      refine g_iconst (v := 0) B dL_law_1205 (by decide) ?_
      replace h := bnP_s h
      obtain ⟨x17, h18, h⟩ := h
      refine g_lald B dL_law_1206 h18 ?_
      refine g_iload B 0 dL_law_1207 rfl ?_
      refine g_i2l B dL_law_1209 ?_
      refine g_lcmp B dL_law_1210 ?_
      refine g_if_eq B 1216 dL_law_1211 (by decide) (fun hc => ?_) (fun hc => ?_)
      · replace h := ifp hc h
        refine g_goto B 3319 dL_law_1216 (by decide) ?_
        obtain ⟨w1, w2, w3, w4⟩ := inA h
        clear h
        cases w1
        subst w2
        subst w3
        subst w4
        refine g_cost hka hkb ?_
        exact g_sub [2, 3, 4, 5, 6, 7] rfl kk
      · replace h := ifn hc h
        refine g_iconst (v := 0) B dL_law_1214 (by decide) ?_
        cases h
  · replace h := ifn hc h
    refine g_iconst (v := 0) B dL_law_1197 (by decide) ?_
    cases h
set_option maxRecDepth 100000 in
set_option maxHeartbeats 4000000 in
theorem cL_c16 {Δ : AmbT} {Γ : CtxT} (B : Bd Δ Γ RL cL_law 9 2048 84000 601024 7293034) {Lx : Nat} {xs : Nat → Int32} (hX : Scr Δ Γ Lx xs) (hN : NCs Γ.2.2.2.2.1) {v1 v2 v3 v4 : Option Nat} {v5 : Int32} {σ σ' : HpT} {u : Unit} {a b kc ks A9 B9 : Nat} (h : fL_c16 Lx xs v1 v2 v3 v4 v5 σ = some (.ok u, σ', a, b)) (hka : kc + a = A9) (hkb : ks + b = B9) (hla : A9 ≤ 601024) (hlb : B9 ≤ 7293034) (kk : GW Δ Γ A9 B9 3319 [(0, va_rf (some (BIG + 203))), (1, va_rf v1), (2, va_rf v2), (3, va_rf v3), (4, va_rf v4), (5, .int v5)] [] σ') : GW Δ Γ kc ks 1219 [(0, va_rf (some (BIG + 203))), (1, va_rf v1), (2, va_rf v2), (3, va_rf v3), (4, va_rf v4), (5, .int v5)] [] σ := by
  unfold fL_c16 at h
  refine g_aload_n B 1 dL_law_1219 rfl rfl ?_
  refine g_aload_n B 3 dL_law_1220 rfl rfl ?_
  replace h := bnO_s h
  obtain ⟨x1, s3, a4, b5, a6, b7, h2, h, ea, eb⟩ := h
  subst ea; subst eb
  have hka := bk hka
  have hkb := bk hkb
  refine g_callSWs (st := []) B hN (cL_gapc (o := .ok x1) h2) miw_L_gap lk_RL_234 ⟨Nat.le_of_ble_eq_true rfl, Nat.le_of_ble_eq_true rfl⟩ rfl rfl (Nat.le_of_ble_eq_true rfl) dL_law_1221 (Nat.le_trans (bm hka) hla) (Nat.le_trans (bm hkb) hlb) ?_
  refine g_istore B dL_law_1224 (Nat.le_of_ble_eq_true rfl) (s1_c (f1_k rfl (f1_k rfl (f1_k rfl (f1_k rfl (f1_k rfl (f1_1 rfl rfl f1_n))))))) ?_
  refine g_aload_n B 3 dL_law_1226 rfl rfl ?_
  replace h := bnS_s h
  obtain ⟨x8, s10, h9, h⟩ := h
  refine g_callVs0 (st := []) B (cX10_gapc h9) (Nat.le_of_ble_eq_true rfl) rfl rfl mi_X10_gap lk_RL_237 ⟨Nat.le_of_ble_eq_true rfl, Nat.le_of_ble_eq_true rfl⟩ rfl rfl (Nat.le_of_ble_eq_true rfl) dL_law_1227 (Nat.le_trans (bm hka) hla) (Nat.le_trans (bm hkb) hlb) ?_
  refine g_istore B dL_law_1230 (Nat.le_of_ble_eq_true rfl) (s1_c (f1_1 rfl rfl (f1_k rfl (f1_k rfl (f1_k rfl (f1_k rfl (f1_k rfl (f1_k rfl f1_n)))))))) ?_
  refine g_aload_n B 4 dL_law_1232 rfl rfl ?_
  replace h := bnP_s h
  obtain ⟨x11, h12, h⟩ := h
  refine g_callVs0 (st := []) B (cX10_thrownc h12) (Nat.le_of_ble_eq_true rfl) rfl rfl mi_X10_thrown lk_RL_183 ⟨Nat.le_of_ble_eq_true rfl, Nat.le_of_ble_eq_true rfl⟩ rfl rfl (Nat.le_of_ble_eq_true rfl) dL_law_1233 (Nat.le_trans (bm hka) hla) (Nat.le_trans (bm hkb) hlb) ?_
  refine g_iload B 1 dL_law_1236 rfl ?_
  refine g_icmp_eq B 1243 dL_law_1238 (by decide) (fun hc => ?_) (fun hc => ?_)
  · replace h := ifp hc h
    refine g_iload B 1 dL_law_1243 rfl ?_
    refine g_if_ne B 1260 dL_law_1245 (by decide) (fun hc => ?_) (fun hc => ?_)
    · replace h := ifn hc h
      refine g_goto B 3319 dL_law_1260 (by decide) ?_
      obtain ⟨w1, w2, w3, w4⟩ := inA h
      clear h
      cases w1
      subst w2
      subst w3
      subst w4
      refine g_cost hka hkb ?_
      exact g_sub [2, 3, 4, 5, 6, 7] rfl kk
    · replace h := ifp hc h
      refine g_aload_n B 5 dL_law_1248 rfl rfl ?_
      refine g_iconst (v := 0) B dL_law_1249 (by decide) ?_
      replace h := bnP_s h
      obtain ⟨x13, h14, h⟩ := h
      refine g_lald B dL_law_1250 h14 ?_
      refine g_iload B 0 dL_law_1251 rfl ?_
      refine g_i2l B dL_law_1253 ?_
      refine g_lcmp B dL_law_1254 ?_
      refine g_if_eq B 1260 dL_law_1255 (by decide) (fun hc => ?_) (fun hc => ?_)
      · replace h := ifp hc h
        refine g_goto B 3319 dL_law_1260 (by decide) ?_
        obtain ⟨w1, w2, w3, w4⟩ := inA h
        clear h
        cases w1
        subst w2
        subst w3
        subst w4
        refine g_cost hka hkb ?_
        exact g_sub [2, 3, 4, 5, 6, 7] rfl kk
      · replace h := ifn hc h
        refine g_iconst (v := 0) B dL_law_1258 (by decide) ?_
        cases h
  · replace h := ifn hc h
    refine g_iconst (v := 0) B dL_law_1241 (by decide) ?_
    cases h
set_option maxRecDepth 100000 in
set_option maxHeartbeats 4000000 in
theorem cL_c17 {Δ : AmbT} {Γ : CtxT} (B : Bd Δ Γ RL cL_law 9 2048 84000 601024 7293034) {Lx : Nat} {xs : Nat → Int32} (hX : Scr Δ Γ Lx xs) (hN : NCs Γ.2.2.2.2.1) {v1 v2 v3 v4 : Option Nat} {v5 : Int32} {σ σ' : HpT} {u : Unit} {a b kc ks A9 B9 : Nat} (h : fL_c17 Lx xs v1 v2 v3 v4 v5 σ = some (.ok u, σ', a, b)) (hka : kc + a = A9) (hkb : ks + b = B9) (hla : A9 ≤ 601024) (hlb : B9 ≤ 7293034) (kk : GW Δ Γ A9 B9 3319 [(0, va_rf (some (BIG + 203))), (1, va_rf v1), (2, va_rf v2), (3, va_rf v3), (4, va_rf v4), (5, .int v5)] [] σ') : GW Δ Γ kc ks 1263 [(0, va_rf (some (BIG + 203))), (1, va_rf v1), (2, va_rf v2), (3, va_rf v3), (4, va_rf v4), (5, .int v5)] [] σ := by
  unfold fL_c17 at h
  refine g_aload_n B 1 dL_law_1263 rfl rfl ?_
  refine g_aload_n B 0 dL_law_1264 rfl rfl ?_
  refine g_iload B 5 dL_law_1265 rfl ?_
  refine g_iconst (v := 1) B dL_law_1267 (by decide) ?_
  refine g_iadd B dL_law_1268 ?_
  replace h := bnP_s h
  obtain ⟨x1, h2, h⟩ := h
  refine g_sld B hX dL_law_1269 h2 ?_
  refine g_aload_n B 0 dL_law_1270 rfl rfl ?_
  refine g_iload B 5 dL_law_1271 rfl ?_
  refine g_iconst (v := 2) B dL_law_1273 (by decide) ?_
  refine g_iadd B dL_law_1274 ?_
  replace h := bnP_s h
  obtain ⟨x3, h4, h⟩ := h
  refine g_sld B hX dL_law_1275 h4 ?_
  refine g_aload_n B 3 dL_law_1276 rfl rfl ?_
  replace h := bnO_s h
  obtain ⟨x5, s7, a8, b9, a10, b11, h6, h, ea, eb⟩ := h
  subst ea; subst eb
  have hka := bk hka
  have hkb := bk hkb
  refine g_callSWs (st := []) B hN (cL_whyNotSealc (o := .ok x5) h6) miw_L_whyNotSeal lk_RL_238 ⟨Nat.le_of_ble_eq_true rfl, Nat.le_of_ble_eq_true rfl⟩ rfl rfl (Nat.le_of_ble_eq_true rfl) dL_law_1277 (Nat.le_trans (bm hka) hla) (Nat.le_trans (bm hkb) hlb) ?_
  refine g_istore B dL_law_1280 (Nat.le_of_ble_eq_true rfl) (s1_c (f1_k rfl (f1_k rfl (f1_k rfl (f1_k rfl (f1_k rfl (f1_1 rfl rfl f1_n))))))) ?_
  refine g_aload_n B 3 dL_law_1282 rfl rfl ?_
  refine g_aload_n B 1 dL_law_1283 rfl rfl ?_
  refine g_iload B 6 dL_law_1284 rfl ?_
  refine g_iconst (v := 1) B dL_law_1286 (by decide) ?_
  refine g_iadd B dL_law_1287 ?_
  replace h := bnP_s h
  obtain ⟨x12, h13, h⟩ := h
  refine g_sld B hX dL_law_1288 h13 ?_
  refine g_aload_n B 1 dL_law_1289 rfl rfl ?_
  refine g_iload B 6 dL_law_1290 rfl ?_
  refine g_iconst (v := 2) B dL_law_1292 (by decide) ?_
  refine g_iadd B dL_law_1293 ?_
  replace h := bnP_s h
  obtain ⟨x14, h15, h⟩ := h
  refine g_sld B hX dL_law_1294 h15 ?_
  replace h := bnS_s h
  obtain ⟨x16, s18, h17, h⟩ := h
  refine g_callVs0 (st := []) B (cX10_whyNotSealc h17) (Nat.le_of_ble_eq_true rfl) rfl rfl mi_X10_whyNotSeal lk_RL_240 ⟨Nat.le_of_ble_eq_true rfl, Nat.le_of_ble_eq_true rfl⟩ rfl rfl (Nat.le_of_ble_eq_true rfl) dL_law_1295 (Nat.le_trans (bm hka) hla) (Nat.le_trans (bm hkb) hlb) ?_
  refine g_istore B dL_law_1298 (Nat.le_of_ble_eq_true rfl) (s1_c (f1_1 rfl rfl (f1_k rfl (f1_k rfl (f1_k rfl (f1_k rfl (f1_k rfl (f1_k rfl f1_n)))))))) ?_
  refine g_aload_n B 4 dL_law_1300 rfl rfl ?_
  replace h := bnP_s h
  obtain ⟨x19, h20, h⟩ := h
  refine g_callVs0 (st := []) B (cX10_thrownc h20) (Nat.le_of_ble_eq_true rfl) rfl rfl mi_X10_thrown lk_RL_183 ⟨Nat.le_of_ble_eq_true rfl, Nat.le_of_ble_eq_true rfl⟩ rfl rfl (Nat.le_of_ble_eq_true rfl) dL_law_1301 (Nat.le_trans (bm hka) hla) (Nat.le_trans (bm hkb) hlb) ?_
  refine g_iload B 1 dL_law_1304 rfl ?_
  refine g_icmp_eq B 1311 dL_law_1306 (by decide) (fun hc => ?_) (fun hc => ?_)
  · replace h := ifp hc h
    refine g_iload B 1 dL_law_1311 rfl ?_
    refine g_if_ne B 1328 dL_law_1313 (by decide) (fun hc => ?_) (fun hc => ?_)
    · replace h := ifn hc h
      refine g_goto B 3319 dL_law_1328 (by decide) ?_
      obtain ⟨w1, w2, w3, w4⟩ := inA h
      clear h
      cases w1
      subst w2
      subst w3
      subst w4
      refine g_cost hka hkb ?_
      exact g_sub [2, 3, 4, 5, 6, 7] rfl kk
    · replace h := ifp hc h
      refine g_aload_n B 5 dL_law_1316 rfl rfl ?_
      refine g_iconst (v := 0) B dL_law_1317 (by decide) ?_
      replace h := bnP_s h
      obtain ⟨x21, h22, h⟩ := h
      refine g_lald B dL_law_1318 h22 ?_
      refine g_iload B 0 dL_law_1319 rfl ?_
      refine g_i2l B dL_law_1321 ?_
      refine g_lcmp B dL_law_1322 ?_
      refine g_if_eq B 1328 dL_law_1323 (by decide) (fun hc => ?_) (fun hc => ?_)
      · replace h := ifp hc h
        refine g_goto B 3319 dL_law_1328 (by decide) ?_
        obtain ⟨w1, w2, w3, w4⟩ := inA h
        clear h
        cases w1
        subst w2
        subst w3
        subst w4
        refine g_cost hka hkb ?_
        exact g_sub [2, 3, 4, 5, 6, 7] rfl kk
      · replace h := ifn hc h
        refine g_iconst (v := 0) B dL_law_1326 (by decide) ?_
        cases h
  · replace h := ifn hc h
    refine g_iconst (v := 0) B dL_law_1309 (by decide) ?_
    cases h
set_option maxRecDepth 100000 in
set_option maxHeartbeats 4000000 in
theorem cL_c18 {Δ : AmbT} {Γ : CtxT} (B : Bd Δ Γ RL cL_law 9 2048 84000 601024 7293034) {Lx : Nat} {xs : Nat → Int32} (hX : Scr Δ Γ Lx xs) (hN : NCs Γ.2.2.2.2.1) {v1 v2 v3 v4 : Option Nat} {v5 : Int32} {σ σ' : HpT} {u : Unit} {a b kc ks A9 B9 : Nat} (h : fL_c18 Lx xs v1 v2 v3 v4 v5 σ = some (.ok u, σ', a, b)) (hka : kc + a = A9) (hkb : ks + b = B9) (hla : A9 ≤ 601024) (hlb : B9 ≤ 7293034) (kk : GW Δ Γ A9 B9 3319 [(0, va_rf (some (BIG + 203))), (1, va_rf v1), (2, va_rf v2), (3, va_rf v3), (4, va_rf v4), (5, .int v5)] [] σ') : GW Δ Γ kc ks 1331 [(0, va_rf (some (BIG + 203))), (1, va_rf v1), (2, va_rf v2), (3, va_rf v3), (4, va_rf v4), (5, .int v5)] [] σ := by
  unfold fL_c18 at h
  refine g_aload_n B 1 dL_law_1331 rfl rfl ?_
  refine g_aload_n B 0 dL_law_1332 rfl rfl ?_
  refine g_iload B 5 dL_law_1333 rfl ?_
  refine g_iconst (v := 1) B dL_law_1335 (by decide) ?_
  refine g_iadd B dL_law_1336 ?_
  replace h := bnP_s h
  obtain ⟨x1, h2, h⟩ := h
  refine g_sld B hX dL_law_1337 h2 ?_
  refine g_aload_n B 0 dL_law_1338 rfl rfl ?_
  refine g_iload B 5 dL_law_1339 rfl ?_
  refine g_iconst (v := 2) B dL_law_1341 (by decide) ?_
  refine g_iadd B dL_law_1342 ?_
  replace h := bnP_s h
  obtain ⟨x3, h4, h⟩ := h
  refine g_sld B hX dL_law_1343 h4 ?_
  refine g_aload_n B 3 dL_law_1344 rfl rfl ?_
  replace h := bnO_s h
  obtain ⟨x5, s7, a8, b9, a10, b11, h6, h, ea, eb⟩ := h
  subst ea; subst eb
  have hka := bk hka
  have hkb := bk hkb
  refine g_callSWs (st := []) B hN (cL_whyNotCopyc (o := .ok x5) h6) miw_L_whyNotCopy lk_RL_241 ⟨Nat.le_of_ble_eq_true rfl, Nat.le_of_ble_eq_true rfl⟩ rfl rfl (Nat.le_of_ble_eq_true rfl) dL_law_1345 (Nat.le_trans (bm hka) hla) (Nat.le_trans (bm hkb) hlb) ?_
  refine g_istore B dL_law_1348 (Nat.le_of_ble_eq_true rfl) (s1_c (f1_k rfl (f1_k rfl (f1_k rfl (f1_k rfl (f1_k rfl (f1_1 rfl rfl f1_n))))))) ?_
  refine g_aload_n B 3 dL_law_1350 rfl rfl ?_
  refine g_aload_n B 1 dL_law_1351 rfl rfl ?_
  refine g_iload B 6 dL_law_1352 rfl ?_
  refine g_iconst (v := 1) B dL_law_1354 (by decide) ?_
  refine g_iadd B dL_law_1355 ?_
  replace h := bnP_s h
  obtain ⟨x12, h13, h⟩ := h
  refine g_sld B hX dL_law_1356 h13 ?_
  refine g_aload_n B 1 dL_law_1357 rfl rfl ?_
  refine g_iload B 6 dL_law_1358 rfl ?_
  refine g_iconst (v := 2) B dL_law_1360 (by decide) ?_
  refine g_iadd B dL_law_1361 ?_
  replace h := bnP_s h
  obtain ⟨x14, h15, h⟩ := h
  refine g_sld B hX dL_law_1362 h15 ?_
  replace h := bnS_s h
  obtain ⟨x16, s18, h17, h⟩ := h
  refine g_callVs0 (st := []) B (cX10_whyNotCopyc h17) (Nat.le_of_ble_eq_true rfl) rfl rfl mi_X10_whyNotCopy lk_RL_243 ⟨Nat.le_of_ble_eq_true rfl, Nat.le_of_ble_eq_true rfl⟩ rfl rfl (Nat.le_of_ble_eq_true rfl) dL_law_1363 (Nat.le_trans (bm hka) hla) (Nat.le_trans (bm hkb) hlb) ?_
  refine g_istore B dL_law_1366 (Nat.le_of_ble_eq_true rfl) (s1_c (f1_1 rfl rfl (f1_k rfl (f1_k rfl (f1_k rfl (f1_k rfl (f1_k rfl (f1_k rfl f1_n)))))))) ?_
  refine g_aload_n B 4 dL_law_1368 rfl rfl ?_
  replace h := bnP_s h
  obtain ⟨x19, h20, h⟩ := h
  refine g_callVs0 (st := []) B (cX10_thrownc h20) (Nat.le_of_ble_eq_true rfl) rfl rfl mi_X10_thrown lk_RL_183 ⟨Nat.le_of_ble_eq_true rfl, Nat.le_of_ble_eq_true rfl⟩ rfl rfl (Nat.le_of_ble_eq_true rfl) dL_law_1369 (Nat.le_trans (bm hka) hla) (Nat.le_trans (bm hkb) hlb) ?_
  refine g_iload B 1 dL_law_1372 rfl ?_
  refine g_icmp_eq B 1379 dL_law_1374 (by decide) (fun hc => ?_) (fun hc => ?_)
  · replace h := ifp hc h
    refine g_iload B 1 dL_law_1379 rfl ?_
    refine g_if_ne B 1396 dL_law_1381 (by decide) (fun hc => ?_) (fun hc => ?_)
    · replace h := ifn hc h
      refine g_goto B 3319 dL_law_1396 (by decide) ?_
      obtain ⟨w1, w2, w3, w4⟩ := inA h
      clear h
      cases w1
      subst w2
      subst w3
      subst w4
      refine g_cost hka hkb ?_
      exact g_sub [2, 3, 4, 5, 6, 7] rfl kk
    · replace h := ifp hc h
      refine g_aload_n B 5 dL_law_1384 rfl rfl ?_
      refine g_iconst (v := 0) B dL_law_1385 (by decide) ?_
      replace h := bnP_s h
      obtain ⟨x21, h22, h⟩ := h
      refine g_lald B dL_law_1386 h22 ?_
      refine g_iload B 0 dL_law_1387 rfl ?_
      refine g_i2l B dL_law_1389 ?_
      refine g_lcmp B dL_law_1390 ?_
      refine g_if_eq B 1396 dL_law_1391 (by decide) (fun hc => ?_) (fun hc => ?_)
      · replace h := ifp hc h
        refine g_goto B 3319 dL_law_1396 (by decide) ?_
        obtain ⟨w1, w2, w3, w4⟩ := inA h
        clear h
        cases w1
        subst w2
        subst w3
        subst w4
        refine g_cost hka hkb ?_
        exact g_sub [2, 3, 4, 5, 6, 7] rfl kk
      · replace h := ifn hc h
        refine g_iconst (v := 0) B dL_law_1394 (by decide) ?_
        cases h
  · replace h := ifn hc h
    refine g_iconst (v := 0) B dL_law_1377 (by decide) ?_
    cases h
set_option maxRecDepth 100000 in
set_option maxHeartbeats 4000000 in
theorem cL_c19 {Δ : AmbT} {Γ : CtxT} (B : Bd Δ Γ RL cL_law 9 2048 84000 601024 7293034) {Lx : Nat} {xs : Nat → Int32} (hX : Scr Δ Γ Lx xs) (hN : NCs Γ.2.2.2.2.1) {v1 v2 v3 v4 : Option Nat} {v5 : Int32} {σ σ' : HpT} {u : Unit} {a b kc ks A9 B9 : Nat} (h : fL_c19 Lx xs v1 v2 v3 v4 v5 σ = some (.ok u, σ', a, b)) (hka : kc + a = A9) (hkb : ks + b = B9) (hla : A9 ≤ 601024) (hlb : B9 ≤ 7293034) (kk : GW Δ Γ A9 B9 3319 [(0, va_rf (some (BIG + 203))), (1, va_rf v1), (2, va_rf v2), (3, va_rf v3), (4, va_rf v4), (5, .int v5)] [] σ') : GW Δ Γ kc ks 1399 [(0, va_rf (some (BIG + 203))), (1, va_rf v1), (2, va_rf v2), (3, va_rf v3), (4, va_rf v4), (5, .int v5)] [] σ := by
  unfold fL_c19 at h
  refine g_aload_n B 1 dL_law_1399 rfl rfl ?_
  refine g_aload_n B 0 dL_law_1400 rfl rfl ?_
  refine g_iload B 5 dL_law_1401 rfl ?_
  refine g_iconst (v := 1) B dL_law_1403 (by decide) ?_
  refine g_iadd B dL_law_1404 ?_
  replace h := bnP_s h
  obtain ⟨x1, h2, h⟩ := h
  refine g_sld B hX dL_law_1405 h2 ?_
  refine g_aload_n B 3 dL_law_1406 rfl rfl ?_
  replace h := bnO_s h
  obtain ⟨x3, s5, a6, b7, a8, b9, h4, h, ea, eb⟩ := h
  subst ea; subst eb
  have hka := bk hka
  have hkb := bk hkb
  refine g_callSWs (st := []) B hN (cL_whyNotStrikec (o := .ok x3) h4) miw_L_whyNotStrike lk_RL_244 ⟨Nat.le_of_ble_eq_true rfl, Nat.le_of_ble_eq_true rfl⟩ rfl rfl (Nat.le_of_ble_eq_true rfl) dL_law_1407 (Nat.le_trans (bm hka) hla) (Nat.le_trans (bm hkb) hlb) ?_
  refine g_istore B dL_law_1410 (Nat.le_of_ble_eq_true rfl) (s1_c (f1_k rfl (f1_k rfl (f1_k rfl (f1_k rfl (f1_k rfl (f1_1 rfl rfl f1_n))))))) ?_
  refine g_aload_n B 3 dL_law_1412 rfl rfl ?_
  refine g_aload_n B 1 dL_law_1413 rfl rfl ?_
  refine g_iload B 6 dL_law_1414 rfl ?_
  refine g_iconst (v := 1) B dL_law_1416 (by decide) ?_
  refine g_iadd B dL_law_1417 ?_
  replace h := bnP_s h
  obtain ⟨x10, h11, h⟩ := h
  refine g_sld B hX dL_law_1418 h11 ?_
  replace h := bnS_s h
  obtain ⟨x12, s14, h13, h⟩ := h
  refine g_callVs0 (st := []) B (cX10_whyNotStrikec h13) (Nat.le_of_ble_eq_true rfl) rfl rfl mi_X10_whyNotStrike lk_RL_246 ⟨Nat.le_of_ble_eq_true rfl, Nat.le_of_ble_eq_true rfl⟩ rfl rfl (Nat.le_of_ble_eq_true rfl) dL_law_1419 (Nat.le_trans (bm hka) hla) (Nat.le_trans (bm hkb) hlb) ?_
  refine g_istore B dL_law_1422 (Nat.le_of_ble_eq_true rfl) (s1_c (f1_1 rfl rfl (f1_k rfl (f1_k rfl (f1_k rfl (f1_k rfl (f1_k rfl (f1_k rfl f1_n)))))))) ?_
  refine g_aload_n B 4 dL_law_1424 rfl rfl ?_
  replace h := bnP_s h
  obtain ⟨x15, h16, h⟩ := h
  refine g_callVs0 (st := []) B (cX10_thrownc h16) (Nat.le_of_ble_eq_true rfl) rfl rfl mi_X10_thrown lk_RL_183 ⟨Nat.le_of_ble_eq_true rfl, Nat.le_of_ble_eq_true rfl⟩ rfl rfl (Nat.le_of_ble_eq_true rfl) dL_law_1425 (Nat.le_trans (bm hka) hla) (Nat.le_trans (bm hkb) hlb) ?_
  refine g_iload B 1 dL_law_1428 rfl ?_
  refine g_icmp_eq B 1435 dL_law_1430 (by decide) (fun hc => ?_) (fun hc => ?_)
  · replace h := ifp hc h
    refine g_iload B 1 dL_law_1435 rfl ?_
    refine g_if_ne B 1452 dL_law_1437 (by decide) (fun hc => ?_) (fun hc => ?_)
    · replace h := ifn hc h
      refine g_goto B 3319 dL_law_1452 (by decide) ?_
      obtain ⟨w1, w2, w3, w4⟩ := inA h
      clear h
      cases w1
      subst w2
      subst w3
      subst w4
      refine g_cost hka hkb ?_
      exact g_sub [2, 3, 4, 5, 6, 7] rfl kk
    · replace h := ifp hc h
      refine g_aload_n B 5 dL_law_1440 rfl rfl ?_
      refine g_iconst (v := 0) B dL_law_1441 (by decide) ?_
      replace h := bnP_s h
      obtain ⟨x17, h18, h⟩ := h
      refine g_lald B dL_law_1442 h18 ?_
      refine g_iload B 0 dL_law_1443 rfl ?_
      refine g_i2l B dL_law_1445 ?_
      refine g_lcmp B dL_law_1446 ?_
      refine g_if_eq B 1452 dL_law_1447 (by decide) (fun hc => ?_) (fun hc => ?_)
      · replace h := ifp hc h
        refine g_goto B 3319 dL_law_1452 (by decide) ?_
        obtain ⟨w1, w2, w3, w4⟩ := inA h
        clear h
        cases w1
        subst w2
        subst w3
        subst w4
        refine g_cost hka hkb ?_
        exact g_sub [2, 3, 4, 5, 6, 7] rfl kk
      · replace h := ifn hc h
        refine g_iconst (v := 0) B dL_law_1450 (by decide) ?_
        cases h
  · replace h := ifn hc h
    refine g_iconst (v := 0) B dL_law_1433 (by decide) ?_
    cases h
set_option maxRecDepth 100000 in
set_option maxHeartbeats 4000000 in
theorem cL_c20 {Δ : AmbT} {Γ : CtxT} (B : Bd Δ Γ RL cL_law 9 2048 84000 601024 7293034) {Lx : Nat} {xs : Nat → Int32} (hX : Scr Δ Γ Lx xs) (hN : NCs Γ.2.2.2.2.1) {v1 v2 v3 v4 : Option Nat} {v5 : Int32} {σ σ' : HpT} {u : Unit} {a b kc ks A9 B9 : Nat} (h : fL_c20 Lx xs v1 v2 v3 v4 v5 σ = some (.ok u, σ', a, b)) (hka : kc + a = A9) (hkb : ks + b = B9) (hla : A9 ≤ 601024) (hlb : B9 ≤ 7293034) (kk : GW Δ Γ A9 B9 3319 [(0, va_rf (some (BIG + 203))), (1, va_rf v1), (2, va_rf v2), (3, va_rf v3), (4, va_rf v4), (5, .int v5)] [] σ') : GW Δ Γ kc ks 1455 [(0, va_rf (some (BIG + 203))), (1, va_rf v1), (2, va_rf v2), (3, va_rf v3), (4, va_rf v4), (5, .int v5)] [] σ := by
  unfold fL_c20 at h
  refine g_aload_n B 1 dL_law_1455 rfl rfl ?_
  refine g_aload_n B 0 dL_law_1456 rfl rfl ?_
  refine g_iload B 5 dL_law_1457 rfl ?_
  refine g_iconst (v := 1) B dL_law_1459 (by decide) ?_
  refine g_iadd B dL_law_1460 ?_
  replace h := bnP_s h
  obtain ⟨x1, h2, h⟩ := h
  refine g_sld B hX dL_law_1461 h2 ?_
  refine g_aload_n B 3 dL_law_1462 rfl rfl ?_
  replace h := bnO_s h
  obtain ⟨x3, s5, a6, b7, a8, b9, h4, h, ea, eb⟩ := h
  subst ea; subst eb
  have hka := bk hka
  have hkb := bk hkb
  refine g_callSWs (st := []) B hN (cL_unknownIfc (o := .ok x3) h4) miw_L_unknownIf lk_RL_247 ⟨Nat.le_of_ble_eq_true rfl, Nat.le_of_ble_eq_true rfl⟩ rfl rfl (Nat.le_of_ble_eq_true rfl) dL_law_1463 (Nat.le_trans (bm hka) hla) (Nat.le_trans (bm hkb) hlb) ?_
  refine g_istore B dL_law_1466 (Nat.le_of_ble_eq_true rfl) (s1_c (f1_k rfl (f1_k rfl (f1_k rfl (f1_k rfl (f1_k rfl (f1_1 rfl rfl f1_n))))))) ?_
  refine g_aload_n B 3 dL_law_1468 rfl rfl ?_
  refine g_aload_n B 1 dL_law_1469 rfl rfl ?_
  refine g_iload B 6 dL_law_1470 rfl ?_
  refine g_iconst (v := 1) B dL_law_1472 (by decide) ?_
  refine g_iadd B dL_law_1473 ?_
  replace h := bnP_s h
  obtain ⟨x10, h11, h⟩ := h
  refine g_sld B hX dL_law_1474 h11 ?_
  replace h := bnS_s h
  obtain ⟨x12, s14, h13, h⟩ := h
  refine g_callVs0 (st := []) B (cX10_unknownIfc h13) (Nat.le_of_ble_eq_true rfl) rfl rfl mi_X10_unknownIf lk_RL_249 ⟨Nat.le_of_ble_eq_true rfl, Nat.le_of_ble_eq_true rfl⟩ rfl rfl (Nat.le_of_ble_eq_true rfl) dL_law_1475 (Nat.le_trans (bm hka) hla) (Nat.le_trans (bm hkb) hlb) ?_
  refine g_istore B dL_law_1478 (Nat.le_of_ble_eq_true rfl) (s1_c (f1_1 rfl rfl (f1_k rfl (f1_k rfl (f1_k rfl (f1_k rfl (f1_k rfl (f1_k rfl f1_n)))))))) ?_
  refine g_aload_n B 4 dL_law_1480 rfl rfl ?_
  replace h := bnP_s h
  obtain ⟨x15, h16, h⟩ := h
  refine g_callVs0 (st := []) B (cX10_thrownc h16) (Nat.le_of_ble_eq_true rfl) rfl rfl mi_X10_thrown lk_RL_183 ⟨Nat.le_of_ble_eq_true rfl, Nat.le_of_ble_eq_true rfl⟩ rfl rfl (Nat.le_of_ble_eq_true rfl) dL_law_1481 (Nat.le_trans (bm hka) hla) (Nat.le_trans (bm hkb) hlb) ?_
  refine g_iload B 1 dL_law_1484 rfl ?_
  refine g_icmp_eq B 1491 dL_law_1486 (by decide) (fun hc => ?_) (fun hc => ?_)
  · replace h := ifp hc h
    refine g_iload B 1 dL_law_1491 rfl ?_
    refine g_if_ne B 1508 dL_law_1493 (by decide) (fun hc => ?_) (fun hc => ?_)
    · replace h := ifn hc h
      refine g_goto B 3319 dL_law_1508 (by decide) ?_
      obtain ⟨w1, w2, w3, w4⟩ := inA h
      clear h
      cases w1
      subst w2
      subst w3
      subst w4
      refine g_cost hka hkb ?_
      exact g_sub [2, 3, 4, 5, 6, 7] rfl kk
    · replace h := ifp hc h
      refine g_aload_n B 5 dL_law_1496 rfl rfl ?_
      refine g_iconst (v := 0) B dL_law_1497 (by decide) ?_
      replace h := bnP_s h
      obtain ⟨x17, h18, h⟩ := h
      refine g_lald B dL_law_1498 h18 ?_
      refine g_iload B 0 dL_law_1499 rfl ?_
      refine g_i2l B dL_law_1501 ?_
      refine g_lcmp B dL_law_1502 ?_
      refine g_if_eq B 1508 dL_law_1503 (by decide) (fun hc => ?_) (fun hc => ?_)
      · replace h := ifp hc h
        refine g_goto B 3319 dL_law_1508 (by decide) ?_
        obtain ⟨w1, w2, w3, w4⟩ := inA h
        clear h
        cases w1
        subst w2
        subst w3
        subst w4
        refine g_cost hka hkb ?_
        exact g_sub [2, 3, 4, 5, 6, 7] rfl kk
      · replace h := ifn hc h
        refine g_iconst (v := 0) B dL_law_1506 (by decide) ?_
        cases h
  · replace h := ifn hc h
    refine g_iconst (v := 0) B dL_law_1489 (by decide) ?_
    cases h
set_option maxRecDepth 100000 in
set_option maxHeartbeats 4000000 in
theorem cL_c21 {Δ : AmbT} {Γ : CtxT} (B : Bd Δ Γ RL cL_law 9 2048 84000 601024 7293034) {Lx : Nat} {xs : Nat → Int32} (hX : Scr Δ Γ Lx xs) (hN : NCs Γ.2.2.2.2.1) {v1 v2 v3 v4 : Option Nat} {v5 : Int32} {σ σ' : HpT} {u : Unit} {a b kc ks A9 B9 : Nat} (h : fL_c21 Lx xs v1 v2 v3 v4 v5 σ = some (.ok u, σ', a, b)) (hka : kc + a = A9) (hkb : ks + b = B9) (hla : A9 ≤ 601024) (hlb : B9 ≤ 7293034) (kk : GW Δ Γ A9 B9 3319 [(0, va_rf (some (BIG + 203))), (1, va_rf v1), (2, va_rf v2), (3, va_rf v3), (4, va_rf v4), (5, .int v5)] [] σ') : GW Δ Γ kc ks 1511 [(0, va_rf (some (BIG + 203))), (1, va_rf v1), (2, va_rf v2), (3, va_rf v3), (4, va_rf v4), (5, .int v5)] [] σ := by
  unfold fL_c21 at h
  refine g_aload_n B 1 dL_law_1511 rfl rfl ?_
  refine g_aload_n B 3 dL_law_1512 rfl rfl ?_
  replace h := bnO_s h
  obtain ⟨x1, s3, a4, b5, a6, b7, h2, h, ea, eb⟩ := h
  subst ea; subst eb
  have hka := bk hka
  have hkb := bk hkb
  refine g_callSWs (st := []) B hN (cL_worstLeafc (o := .ok x1) h2) miw_L_worstLeaf lk_RL_250 ⟨Nat.le_of_ble_eq_true rfl, Nat.le_of_ble_eq_true rfl⟩ rfl rfl (Nat.le_of_ble_eq_true rfl) dL_law_1513 (Nat.le_trans (bm hka) hla) (Nat.le_trans (bm hkb) hlb) ?_
  refine g_istore B dL_law_1516 (Nat.le_of_ble_eq_true rfl) (s1_c (f1_k rfl (f1_k rfl (f1_k rfl (f1_k rfl (f1_k rfl (f1_1 rfl rfl f1_n))))))) ?_
  refine g_aload_n B 3 dL_law_1518 rfl rfl ?_
  replace h := bnS_s h
  obtain ⟨x8, s10, h9, h⟩ := h
  refine g_callVs0 (st := []) B (cX10_worstLeafc h9) (Nat.le_of_ble_eq_true rfl) rfl rfl mi_X10_worstLeaf lk_RL_252 ⟨Nat.le_of_ble_eq_true rfl, Nat.le_of_ble_eq_true rfl⟩ rfl rfl (Nat.le_of_ble_eq_true rfl) dL_law_1519 (Nat.le_trans (bm hka) hla) (Nat.le_trans (bm hkb) hlb) ?_
  refine g_istore B dL_law_1522 (Nat.le_of_ble_eq_true rfl) (s1_c (f1_1 rfl rfl (f1_k rfl (f1_k rfl (f1_k rfl (f1_k rfl (f1_k rfl (f1_k rfl f1_n)))))))) ?_
  refine g_aload_n B 4 dL_law_1524 rfl rfl ?_
  replace h := bnP_s h
  obtain ⟨x11, h12, h⟩ := h
  refine g_callVs0 (st := []) B (cX10_thrownc h12) (Nat.le_of_ble_eq_true rfl) rfl rfl mi_X10_thrown lk_RL_183 ⟨Nat.le_of_ble_eq_true rfl, Nat.le_of_ble_eq_true rfl⟩ rfl rfl (Nat.le_of_ble_eq_true rfl) dL_law_1525 (Nat.le_trans (bm hka) hla) (Nat.le_trans (bm hkb) hlb) ?_
  refine g_iload B 1 dL_law_1528 rfl ?_
  refine g_icmp_eq B 1535 dL_law_1530 (by decide) (fun hc => ?_) (fun hc => ?_)
  · replace h := ifp hc h
    refine g_iload B 1 dL_law_1535 rfl ?_
    refine g_if_ne B 1552 dL_law_1537 (by decide) (fun hc => ?_) (fun hc => ?_)
    · replace h := ifn hc h
      refine g_goto B 3319 dL_law_1552 (by decide) ?_
      obtain ⟨w1, w2, w3, w4⟩ := inA h
      clear h
      cases w1
      subst w2
      subst w3
      subst w4
      refine g_cost hka hkb ?_
      exact g_sub [2, 3, 4, 5, 6, 7] rfl kk
    · replace h := ifp hc h
      refine g_aload_n B 5 dL_law_1540 rfl rfl ?_
      refine g_iconst (v := 0) B dL_law_1541 (by decide) ?_
      replace h := bnP_s h
      obtain ⟨x13, h14, h⟩ := h
      refine g_lald B dL_law_1542 h14 ?_
      refine g_iload B 0 dL_law_1543 rfl ?_
      refine g_i2l B dL_law_1545 ?_
      refine g_lcmp B dL_law_1546 ?_
      refine g_if_eq B 1552 dL_law_1547 (by decide) (fun hc => ?_) (fun hc => ?_)
      · replace h := ifp hc h
        refine g_goto B 3319 dL_law_1552 (by decide) ?_
        obtain ⟨w1, w2, w3, w4⟩ := inA h
        clear h
        cases w1
        subst w2
        subst w3
        subst w4
        refine g_cost hka hkb ?_
        exact g_sub [2, 3, 4, 5, 6, 7] rfl kk
      · replace h := ifn hc h
        refine g_iconst (v := 0) B dL_law_1550 (by decide) ?_
        cases h
  · replace h := ifn hc h
    refine g_iconst (v := 0) B dL_law_1533 (by decide) ?_
    cases h
set_option maxRecDepth 100000 in
set_option maxHeartbeats 4000000 in
theorem cL_c22 {Δ : AmbT} {Γ : CtxT} (B : Bd Δ Γ RL cL_law 9 2048 84000 601024 7293034) {Lx : Nat} {xs : Nat → Int32} (hX : Scr Δ Γ Lx xs) (hN : NCs Γ.2.2.2.2.1) {v1 v2 v3 v4 : Option Nat} {v5 : Int32} {σ σ' : HpT} {u : Unit} {a b kc ks A9 B9 : Nat} (h : fL_c22 Lx xs v1 v2 v3 v4 v5 σ = some (.ok u, σ', a, b)) (hka : kc + a = A9) (hkb : ks + b = B9) (hla : A9 ≤ 601024) (hlb : B9 ≤ 7293034) (kk : GW Δ Γ A9 B9 3319 [(0, va_rf (some (BIG + 203))), (1, va_rf v1), (2, va_rf v2), (3, va_rf v3), (4, va_rf v4), (5, .int v5)] [] σ') : GW Δ Γ kc ks 1555 [(0, va_rf (some (BIG + 203))), (1, va_rf v1), (2, va_rf v2), (3, va_rf v3), (4, va_rf v4), (5, .int v5)] [] σ := by
  unfold fL_c22 at h
  refine g_aload_n B 1 dL_law_1555 rfl rfl ?_
  refine g_aload_n B 3 dL_law_1556 rfl rfl ?_
  replace h := bnO_s h
  obtain ⟨x1, s3, a4, b5, a6, b7, h2, h, ea, eb⟩ := h
  subst ea; subst eb
  have hka := bk hka
  have hkb := bk hkb
  refine g_callSWs (st := []) B hN (cL_shakenOutc (o := .ok x1) h2) miw_L_shakenOut lk_RL_253 ⟨Nat.le_of_ble_eq_true rfl, Nat.le_of_ble_eq_true rfl⟩ rfl rfl (Nat.le_of_ble_eq_true rfl) dL_law_1557 (Nat.le_trans (bm hka) hla) (Nat.le_trans (bm hkb) hlb) ?_
  refine g_istore B dL_law_1560 (Nat.le_of_ble_eq_true rfl) (s1_c (f1_k rfl (f1_k rfl (f1_k rfl (f1_k rfl (f1_k rfl (f1_1 rfl rfl f1_n))))))) ?_
  refine g_aload_n B 3 dL_law_1562 rfl rfl ?_
  replace h := bnS_s h
  obtain ⟨x8, s10, h9, h⟩ := h
  refine g_callVs0 (st := []) B (cX10_shakenOutc h9) (Nat.le_of_ble_eq_true rfl) rfl rfl mi_X10_shakenOut lk_RL_255 ⟨Nat.le_of_ble_eq_true rfl, Nat.le_of_ble_eq_true rfl⟩ rfl rfl (Nat.le_of_ble_eq_true rfl) dL_law_1563 (Nat.le_trans (bm hka) hla) (Nat.le_trans (bm hkb) hlb) ?_
  refine g_istore B dL_law_1566 (Nat.le_of_ble_eq_true rfl) (s1_c (f1_1 rfl rfl (f1_k rfl (f1_k rfl (f1_k rfl (f1_k rfl (f1_k rfl (f1_k rfl f1_n)))))))) ?_
  refine g_aload_n B 4 dL_law_1568 rfl rfl ?_
  replace h := bnP_s h
  obtain ⟨x11, h12, h⟩ := h
  refine g_callVs0 (st := []) B (cX10_thrownc h12) (Nat.le_of_ble_eq_true rfl) rfl rfl mi_X10_thrown lk_RL_183 ⟨Nat.le_of_ble_eq_true rfl, Nat.le_of_ble_eq_true rfl⟩ rfl rfl (Nat.le_of_ble_eq_true rfl) dL_law_1569 (Nat.le_trans (bm hka) hla) (Nat.le_trans (bm hkb) hlb) ?_
  refine g_iload B 1 dL_law_1572 rfl ?_
  refine g_icmp_eq B 1579 dL_law_1574 (by decide) (fun hc => ?_) (fun hc => ?_)
  · replace h := ifp hc h
    refine g_iload B 1 dL_law_1579 rfl ?_
    refine g_if_ne B 1596 dL_law_1581 (by decide) (fun hc => ?_) (fun hc => ?_)
    · replace h := ifn hc h
      refine g_goto B 3319 dL_law_1596 (by decide) ?_
      obtain ⟨w1, w2, w3, w4⟩ := inA h
      clear h
      cases w1
      subst w2
      subst w3
      subst w4
      refine g_cost hka hkb ?_
      exact g_sub [2, 3, 4, 5, 6, 7] rfl kk
    · replace h := ifp hc h
      refine g_aload_n B 5 dL_law_1584 rfl rfl ?_
      refine g_iconst (v := 0) B dL_law_1585 (by decide) ?_
      replace h := bnP_s h
      obtain ⟨x13, h14, h⟩ := h
      refine g_lald B dL_law_1586 h14 ?_
      refine g_iload B 0 dL_law_1587 rfl ?_
      refine g_i2l B dL_law_1589 ?_
      refine g_lcmp B dL_law_1590 ?_
      refine g_if_eq B 1596 dL_law_1591 (by decide) (fun hc => ?_) (fun hc => ?_)
      · replace h := ifp hc h
        refine g_goto B 3319 dL_law_1596 (by decide) ?_
        obtain ⟨w1, w2, w3, w4⟩ := inA h
        clear h
        cases w1
        subst w2
        subst w3
        subst w4
        refine g_cost hka hkb ?_
        exact g_sub [2, 3, 4, 5, 6, 7] rfl kk
      · replace h := ifn hc h
        refine g_iconst (v := 0) B dL_law_1594 (by decide) ?_
        cases h
  · replace h := ifn hc h
    refine g_iconst (v := 0) B dL_law_1577 (by decide) ?_
    cases h
set_option maxRecDepth 100000 in
set_option maxHeartbeats 4000000 in
theorem cL_c23 {Δ : AmbT} {Γ : CtxT} (B : Bd Δ Γ RL cL_law 9 2048 84000 601024 7293034) {Lx : Nat} {xs : Nat → Int32} (hX : Scr Δ Γ Lx xs) (hN : NCs Γ.2.2.2.2.1) {v1 v2 v3 v4 : Option Nat} {v5 : Int32} {σ σ' : HpT} {u : Unit} {a b kc ks A9 B9 : Nat} (h : fL_c23 Lx xs v1 v2 v3 v4 v5 σ = some (.ok u, σ', a, b)) (hka : kc + a = A9) (hkb : ks + b = B9) (hla : A9 ≤ 601024) (hlb : B9 ≤ 7293034) (kk : GW Δ Γ A9 B9 3319 [(0, va_rf (some (BIG + 203))), (1, va_rf v1), (2, va_rf v2), (3, va_rf v3), (4, va_rf v4), (5, .int v5)] [] σ') : GW Δ Γ kc ks 1599 [(0, va_rf (some (BIG + 203))), (1, va_rf v1), (2, va_rf v2), (3, va_rf v3), (4, va_rf v4), (5, .int v5)] [] σ := by
  unfold fL_c23 at h
  refine g_aload_n B 1 dL_law_1599 rfl rfl ?_
  refine g_aload_n B 0 dL_law_1600 rfl rfl ?_
  refine g_iload B 5 dL_law_1601 rfl ?_
  refine g_iconst (v := 1) B dL_law_1603 (by decide) ?_
  refine g_iadd B dL_law_1604 ?_
  replace h := bnP_s h
  obtain ⟨x1, h2, h⟩ := h
  refine g_sld B hX dL_law_1605 h2 ?_
  refine g_aload_n B 3 dL_law_1606 rfl rfl ?_
  replace h := bnO_s h
  obtain ⟨x3, s5, a6, b7, a8, b9, h4, h, ea, eb⟩ := h
  subst ea; subst eb
  have hka := bk hka
  have hkb := bk hkb
  refine g_callSWs (st := []) B hN (cL_leavesForc (o := .ok x3) h4) miw_L_leavesFor lk_RL_256 ⟨Nat.le_of_ble_eq_true rfl, Nat.le_of_ble_eq_true rfl⟩ rfl rfl (Nat.le_of_ble_eq_true rfl) dL_law_1607 (Nat.le_trans (bm hka) hla) (Nat.le_trans (bm hkb) hlb) ?_
  refine g_istore B dL_law_1610 (Nat.le_of_ble_eq_true rfl) (s1_c (f1_k rfl (f1_k rfl (f1_k rfl (f1_k rfl (f1_k rfl (f1_1 rfl rfl f1_n))))))) ?_
  refine g_aload_n B 3 dL_law_1612 rfl rfl ?_
  refine g_aload_n B 1 dL_law_1613 rfl rfl ?_
  refine g_iload B 6 dL_law_1614 rfl ?_
  refine g_iconst (v := 1) B dL_law_1616 (by decide) ?_
  refine g_iadd B dL_law_1617 ?_
  replace h := bnP_s h
  obtain ⟨x10, h11, h⟩ := h
  refine g_sld B hX dL_law_1618 h11 ?_
  replace h := bnS_s h
  obtain ⟨x12, s14, h13, h⟩ := h
  refine g_callVs0 (st := []) B (cX10_leavesForc h13) (Nat.le_of_ble_eq_true rfl) rfl rfl mi_X10_leavesFor lk_RL_258 ⟨Nat.le_of_ble_eq_true rfl, Nat.le_of_ble_eq_true rfl⟩ rfl rfl (Nat.le_of_ble_eq_true rfl) dL_law_1619 (Nat.le_trans (bm hka) hla) (Nat.le_trans (bm hkb) hlb) ?_
  refine g_istore B dL_law_1622 (Nat.le_of_ble_eq_true rfl) (s1_c (f1_1 rfl rfl (f1_k rfl (f1_k rfl (f1_k rfl (f1_k rfl (f1_k rfl (f1_k rfl f1_n)))))))) ?_
  refine g_aload_n B 4 dL_law_1624 rfl rfl ?_
  replace h := bnP_s h
  obtain ⟨x15, h16, h⟩ := h
  refine g_callVs0 (st := []) B (cX10_thrownc h16) (Nat.le_of_ble_eq_true rfl) rfl rfl mi_X10_thrown lk_RL_183 ⟨Nat.le_of_ble_eq_true rfl, Nat.le_of_ble_eq_true rfl⟩ rfl rfl (Nat.le_of_ble_eq_true rfl) dL_law_1625 (Nat.le_trans (bm hka) hla) (Nat.le_trans (bm hkb) hlb) ?_
  refine g_iload B 1 dL_law_1628 rfl ?_
  refine g_icmp_eq B 1635 dL_law_1630 (by decide) (fun hc => ?_) (fun hc => ?_)
  · replace h := ifp hc h
    refine g_iload B 1 dL_law_1635 rfl ?_
    refine g_if_ne B 1652 dL_law_1637 (by decide) (fun hc => ?_) (fun hc => ?_)
    · replace h := ifn hc h
      refine g_goto B 3319 dL_law_1652 (by decide) ?_
      obtain ⟨w1, w2, w3, w4⟩ := inA h
      clear h
      cases w1
      subst w2
      subst w3
      subst w4
      refine g_cost hka hkb ?_
      exact g_sub [2, 3, 4, 5, 6, 7] rfl kk
    · replace h := ifp hc h
      refine g_aload_n B 5 dL_law_1640 rfl rfl ?_
      refine g_iconst (v := 0) B dL_law_1641 (by decide) ?_
      replace h := bnP_s h
      obtain ⟨x17, h18, h⟩ := h
      refine g_lald B dL_law_1642 h18 ?_
      refine g_iload B 0 dL_law_1643 rfl ?_
      refine g_i2l B dL_law_1645 ?_
      refine g_lcmp B dL_law_1646 ?_
      refine g_if_eq B 1652 dL_law_1647 (by decide) (fun hc => ?_) (fun hc => ?_)
      · replace h := ifp hc h
        refine g_goto B 3319 dL_law_1652 (by decide) ?_
        obtain ⟨w1, w2, w3, w4⟩ := inA h
        clear h
        cases w1
        subst w2
        subst w3
        subst w4
        refine g_cost hka hkb ?_
        exact g_sub [2, 3, 4, 5, 6, 7] rfl kk
      · replace h := ifn hc h
        refine g_iconst (v := 0) B dL_law_1650 (by decide) ?_
        cases h
  · replace h := ifn hc h
    refine g_iconst (v := 0) B dL_law_1633 (by decide) ?_
    cases h
set_option maxRecDepth 100000 in
set_option maxHeartbeats 4000000 in
theorem cL_c24 {Δ : AmbT} {Γ : CtxT} (B : Bd Δ Γ RL cL_law 9 2048 84000 601024 7293034) {Lx : Nat} {xs : Nat → Int32} (hX : Scr Δ Γ Lx xs) (hN : NCs Γ.2.2.2.2.1) {v1 v2 v3 v4 : Option Nat} {v5 : Int32} {σ σ' : HpT} {u : Unit} {a b kc ks A9 B9 : Nat} (h : fL_c24 Lx xs v1 v2 v3 v4 v5 σ = some (.ok u, σ', a, b)) (hka : kc + a = A9) (hkb : ks + b = B9) (hla : A9 ≤ 601024) (hlb : B9 ≤ 7293034) (kk : GW Δ Γ A9 B9 3319 [(0, va_rf (some (BIG + 203))), (1, va_rf v1), (2, va_rf v2), (3, va_rf v3), (4, va_rf v4), (5, .int v5)] [] σ') : GW Δ Γ kc ks 1655 [(0, va_rf (some (BIG + 203))), (1, va_rf v1), (2, va_rf v2), (3, va_rf v3), (4, va_rf v4), (5, .int v5)] [] σ := by
  unfold fL_c24 at h
  refine g_aload_n B 1 dL_law_1655 rfl rfl ?_
  refine g_aload_n B 0 dL_law_1656 rfl rfl ?_
  refine g_iload B 5 dL_law_1657 rfl ?_
  refine g_iconst (v := 1) B dL_law_1659 (by decide) ?_
  refine g_iadd B dL_law_1660 ?_
  replace h := bnP_s h
  obtain ⟨x1, h2, h⟩ := h
  refine g_sld B hX dL_law_1661 h2 ?_
  refine g_aload_n B 0 dL_law_1662 rfl rfl ?_
  refine g_iload B 5 dL_law_1663 rfl ?_
  refine g_iconst (v := 2) B dL_law_1665 (by decide) ?_
  refine g_iadd B dL_law_1666 ?_
  replace h := bnP_s h
  obtain ⟨x3, h4, h⟩ := h
  refine g_sld B hX dL_law_1667 h4 ?_
  refine g_aload_n B 3 dL_law_1668 rfl rfl ?_
  replace h := bnO_s h
  obtain ⟨x5, s7, a8, b9, a10, b11, h6, h, ea, eb⟩ := h
  subst ea; subst eb
  have hka := bk hka
  have hkb := bk hkb
  refine g_callSWs (st := []) B hN (cL_copyWordsc (o := .ok x5) h6) miw_L_copyWords lk_RL_259 ⟨Nat.le_of_ble_eq_true rfl, Nat.le_of_ble_eq_true rfl⟩ rfl rfl (Nat.le_of_ble_eq_true rfl) dL_law_1669 (Nat.le_trans (bm hka) hla) (Nat.le_trans (bm hkb) hlb) ?_
  refine g_istore B dL_law_1672 (Nat.le_of_ble_eq_true rfl) (s1_c (f1_k rfl (f1_k rfl (f1_k rfl (f1_k rfl (f1_k rfl (f1_1 rfl rfl f1_n))))))) ?_
  refine g_aload_n B 3 dL_law_1674 rfl rfl ?_
  refine g_aload_n B 1 dL_law_1675 rfl rfl ?_
  refine g_iload B 6 dL_law_1676 rfl ?_
  refine g_iconst (v := 1) B dL_law_1678 (by decide) ?_
  refine g_iadd B dL_law_1679 ?_
  replace h := bnP_s h
  obtain ⟨x12, h13, h⟩ := h
  refine g_sld B hX dL_law_1680 h13 ?_
  refine g_aload_n B 1 dL_law_1681 rfl rfl ?_
  refine g_iload B 6 dL_law_1682 rfl ?_
  refine g_iconst (v := 2) B dL_law_1684 (by decide) ?_
  refine g_iadd B dL_law_1685 ?_
  replace h := bnP_s h
  obtain ⟨x14, h15, h⟩ := h
  refine g_sld B hX dL_law_1686 h15 ?_
  replace h := bnS_s h
  obtain ⟨x16, s18, h17, h⟩ := h
  refine g_callVs0 (st := []) B (cX10_copyWordsc h17) (Nat.le_of_ble_eq_true rfl) rfl rfl mi_X10_copyWords lk_RL_261 ⟨Nat.le_of_ble_eq_true rfl, Nat.le_of_ble_eq_true rfl⟩ rfl rfl (Nat.le_of_ble_eq_true rfl) dL_law_1687 (Nat.le_trans (bm hka) hla) (Nat.le_trans (bm hkb) hlb) ?_
  refine g_istore B dL_law_1690 (Nat.le_of_ble_eq_true rfl) (s1_c (f1_1 rfl rfl (f1_k rfl (f1_k rfl (f1_k rfl (f1_k rfl (f1_k rfl (f1_k rfl f1_n)))))))) ?_
  refine g_aload_n B 4 dL_law_1692 rfl rfl ?_
  replace h := bnP_s h
  obtain ⟨x19, h20, h⟩ := h
  refine g_callVs0 (st := []) B (cX10_thrownc h20) (Nat.le_of_ble_eq_true rfl) rfl rfl mi_X10_thrown lk_RL_183 ⟨Nat.le_of_ble_eq_true rfl, Nat.le_of_ble_eq_true rfl⟩ rfl rfl (Nat.le_of_ble_eq_true rfl) dL_law_1693 (Nat.le_trans (bm hka) hla) (Nat.le_trans (bm hkb) hlb) ?_
  refine g_iload B 1 dL_law_1696 rfl ?_
  refine g_icmp_eq B 1703 dL_law_1698 (by decide) (fun hc => ?_) (fun hc => ?_)
  · replace h := ifp hc h
    refine g_iload B 1 dL_law_1703 rfl ?_
    refine g_if_ne B 1720 dL_law_1705 (by decide) (fun hc => ?_) (fun hc => ?_)
    · replace h := ifn hc h
      refine g_goto B 3319 dL_law_1720 (by decide) ?_
      obtain ⟨w1, w2, w3, w4⟩ := inA h
      clear h
      cases w1
      subst w2
      subst w3
      subst w4
      refine g_cost hka hkb ?_
      exact g_sub [2, 3, 4, 5, 6, 7] rfl kk
    · replace h := ifp hc h
      refine g_aload_n B 5 dL_law_1708 rfl rfl ?_
      refine g_iconst (v := 0) B dL_law_1709 (by decide) ?_
      replace h := bnP_s h
      obtain ⟨x21, h22, h⟩ := h
      refine g_lald B dL_law_1710 h22 ?_
      refine g_iload B 0 dL_law_1711 rfl ?_
      refine g_i2l B dL_law_1713 ?_
      refine g_lcmp B dL_law_1714 ?_
      refine g_if_eq B 1720 dL_law_1715 (by decide) (fun hc => ?_) (fun hc => ?_)
      · replace h := ifp hc h
        refine g_goto B 3319 dL_law_1720 (by decide) ?_
        obtain ⟨w1, w2, w3, w4⟩ := inA h
        clear h
        cases w1
        subst w2
        subst w3
        subst w4
        refine g_cost hka hkb ?_
        exact g_sub [2, 3, 4, 5, 6, 7] rfl kk
      · replace h := ifn hc h
        refine g_iconst (v := 0) B dL_law_1718 (by decide) ?_
        cases h
  · replace h := ifn hc h
    refine g_iconst (v := 0) B dL_law_1701 (by decide) ?_
    cases h
set_option maxRecDepth 100000 in
set_option maxHeartbeats 4000000 in
theorem cL_c25 {Δ : AmbT} {Γ : CtxT} (B : Bd Δ Γ RL cL_law 9 2048 84000 601024 7293034) {Lx : Nat} {xs : Nat → Int32} (hX : Scr Δ Γ Lx xs) (hN : NCs Γ.2.2.2.2.1) {v1 v2 v3 v4 : Option Nat} {v5 : Int32} {σ σ' : HpT} {u : Unit} {a b kc ks A9 B9 : Nat} (h : fL_c25 Lx xs v1 v2 v3 v4 v5 σ = some (.ok u, σ', a, b)) (hka : kc + a = A9) (hkb : ks + b = B9) (hla : A9 ≤ 601024) (hlb : B9 ≤ 7293034) (kk : GW Δ Γ A9 B9 3319 [(0, va_rf (some (BIG + 203))), (1, va_rf v1), (2, va_rf v2), (3, va_rf v3), (4, va_rf v4), (5, .int v5)] [] σ') : GW Δ Γ kc ks 1723 [(0, va_rf (some (BIG + 203))), (1, va_rf v1), (2, va_rf v2), (3, va_rf v3), (4, va_rf v4), (5, .int v5)] [] σ := by
  unfold fL_c25 at h
  refine g_aload_n B 1 dL_law_1723 rfl rfl ?_
  refine g_aload_n B 0 dL_law_1724 rfl rfl ?_
  refine g_iload B 5 dL_law_1725 rfl ?_
  refine g_iconst (v := 1) B dL_law_1727 (by decide) ?_
  refine g_iadd B dL_law_1728 ?_
  replace h := bnP_s h
  obtain ⟨x1, h2, h⟩ := h
  refine g_sld B hX dL_law_1729 h2 ?_
  refine g_aload_n B 3 dL_law_1730 rfl rfl ?_
  replace h := bnO_s h
  obtain ⟨x3, s5, a6, b7, a8, b9, h4, h, ea, eb⟩ := h
  subst ea; subst eb
  have hka := bk hka
  have hkb := bk hkb
  refine g_callSWs (st := []) B hN (cL_bestCopyc (o := .ok x3) h4) miw_L_bestCopy lk_RL_262 ⟨Nat.le_of_ble_eq_true rfl, Nat.le_of_ble_eq_true rfl⟩ rfl rfl (Nat.le_of_ble_eq_true rfl) dL_law_1731 (Nat.le_trans (bm hka) hla) (Nat.le_trans (bm hkb) hlb) ?_
  refine g_istore B dL_law_1734 (Nat.le_of_ble_eq_true rfl) (s1_c (f1_k rfl (f1_k rfl (f1_k rfl (f1_k rfl (f1_k rfl (f1_1 rfl rfl f1_n))))))) ?_
  refine g_aload_n B 3 dL_law_1736 rfl rfl ?_
  refine g_aload_n B 1 dL_law_1737 rfl rfl ?_
  refine g_iload B 6 dL_law_1738 rfl ?_
  refine g_iconst (v := 1) B dL_law_1740 (by decide) ?_
  refine g_iadd B dL_law_1741 ?_
  replace h := bnP_s h
  obtain ⟨x10, h11, h⟩ := h
  refine g_sld B hX dL_law_1742 h11 ?_
  replace h := bnS_s h
  obtain ⟨x12, s14, h13, h⟩ := h
  refine g_callVs0 (st := []) B (cX10_bestCopyc h13) (Nat.le_of_ble_eq_true rfl) rfl rfl mi_X10_bestCopy lk_RL_264 ⟨Nat.le_of_ble_eq_true rfl, Nat.le_of_ble_eq_true rfl⟩ rfl rfl (Nat.le_of_ble_eq_true rfl) dL_law_1743 (Nat.le_trans (bm hka) hla) (Nat.le_trans (bm hkb) hlb) ?_
  refine g_istore B dL_law_1746 (Nat.le_of_ble_eq_true rfl) (s1_c (f1_1 rfl rfl (f1_k rfl (f1_k rfl (f1_k rfl (f1_k rfl (f1_k rfl (f1_k rfl f1_n)))))))) ?_
  refine g_aload_n B 4 dL_law_1748 rfl rfl ?_
  replace h := bnP_s h
  obtain ⟨x15, h16, h⟩ := h
  refine g_callVs0 (st := []) B (cX10_thrownc h16) (Nat.le_of_ble_eq_true rfl) rfl rfl mi_X10_thrown lk_RL_183 ⟨Nat.le_of_ble_eq_true rfl, Nat.le_of_ble_eq_true rfl⟩ rfl rfl (Nat.le_of_ble_eq_true rfl) dL_law_1749 (Nat.le_trans (bm hka) hla) (Nat.le_trans (bm hkb) hlb) ?_
  refine g_iload B 1 dL_law_1752 rfl ?_
  refine g_icmp_eq B 1759 dL_law_1754 (by decide) (fun hc => ?_) (fun hc => ?_)
  · replace h := ifp hc h
    refine g_iload B 1 dL_law_1759 rfl ?_
    refine g_if_ne B 1776 dL_law_1761 (by decide) (fun hc => ?_) (fun hc => ?_)
    · replace h := ifn hc h
      refine g_goto B 3319 dL_law_1776 (by decide) ?_
      obtain ⟨w1, w2, w3, w4⟩ := inA h
      clear h
      cases w1
      subst w2
      subst w3
      subst w4
      refine g_cost hka hkb ?_
      exact g_sub [2, 3, 4, 5, 6, 7] rfl kk
    · replace h := ifp hc h
      refine g_aload_n B 5 dL_law_1764 rfl rfl ?_
      refine g_iconst (v := 0) B dL_law_1765 (by decide) ?_
      replace h := bnP_s h
      obtain ⟨x17, h18, h⟩ := h
      refine g_lald B dL_law_1766 h18 ?_
      refine g_iload B 0 dL_law_1767 rfl ?_
      refine g_i2l B dL_law_1769 ?_
      refine g_lcmp B dL_law_1770 ?_
      refine g_if_eq B 1776 dL_law_1771 (by decide) (fun hc => ?_) (fun hc => ?_)
      · replace h := ifp hc h
        refine g_goto B 3319 dL_law_1776 (by decide) ?_
        obtain ⟨w1, w2, w3, w4⟩ := inA h
        clear h
        cases w1
        subst w2
        subst w3
        subst w4
        refine g_cost hka hkb ?_
        exact g_sub [2, 3, 4, 5, 6, 7] rfl kk
      · replace h := ifn hc h
        refine g_iconst (v := 0) B dL_law_1774 (by decide) ?_
        cases h
  · replace h := ifn hc h
    refine g_iconst (v := 0) B dL_law_1757 (by decide) ?_
    cases h
