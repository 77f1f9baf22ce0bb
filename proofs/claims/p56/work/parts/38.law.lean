set_option maxRecDepth 100000 in
set_option maxHeartbeats 4000000 in
theorem cL_strike {Δ : AmbT} {Γ : CtxT} (B : Bd Δ Γ RL cL_law 18 16 630 600086 7301442) {v1 v2 v5 v6 : Option Nat} {v7 v8 v9 v10 v11 v12 v13 v14 : Int32} {σ σ' : HpT} {u : Except Nat Unit} {a b kc ks A9 B9 : Nat} (h : fL_strike v1 v2 v5 v10 v11 v12 v13 v14 σ = some (u, σ', a, b)) (hka : kc + a = A9) (hkb : ks + b = B9) (hla : A9 ≤ 600086) (hlb : B9 ≤ 7301442) (kk : GW Δ Γ A9 B9 780 [(0, va_rf (some (BIG + 204))), (1, va_rf v1), (2, va_rf v2), (5, va_rf v5), (6, va_rf v6), (7, .int v7), (8, .int v8), (9, .int v9)] [] σ') : GW Δ Γ kc ks 215 [(0, va_rf (some (BIG + 204))), (1, va_rf v1), (2, va_rf v2), (5, va_rf v5), (6, va_rf v6), (7, .int v7), (8, .int v8), (9, .int v9), (10, .int v10), (11, .int v11), (12, .int v12), (13, .int v13), (14, .int v14)] [] σ := by
  unfold fL_strike at h
  refine g_aload_n B 1 dL_law_215 rfl rfl ?_
  refine g_iload B 9 dL_law_216 rfl ?_
  replace h := bnP_s h
  obtain ⟨x1, h2x, h⟩ := h
  have h2 := exO_s h2x
  refine g_callVs0 (st := []) B (cX9_whyNotStrikec (o := .ok x1) h2) (Nat.le_of_ble_eq_true rfl) rfl rfl mi_X9_whyNotStrike lk_RL_235 ⟨Nat.le_of_ble_eq_true rfl, Nat.le_of_ble_eq_true rfl⟩ rfl rfl (Nat.le_of_ble_eq_true rfl) dL_law_218 (Nat.le_trans (bm hka) hla) (Nat.le_trans (bm hkb) hlb) ?_
  refine g_if_ne B 780 dL_law_221 (by decide) (fun hc => ?_) (fun hc => ?_)
  · replace h := ifn hc h
    obtain ⟨w1, w2, w3, w4⟩ := inA h
    clear h
    subst w1
    subst w2
    subst w3
    subst w4
    refine g_cost hka hkb ?_
    exact g_sub [0, 1, 2, 3, 4, 5, 6, 7] rfl kk
  · replace h := ifp hc h
    refine g_aload_n B 1 dL_law_224 rfl rfl ?_
    refine g_iload B 9 dL_law_225 rfl ?_
    refine g_iconst (v := 0) B dL_law_227 (by decide) ?_
    replace h := bnO_s h
    obtain ⟨x3, s5, a6, b7, a8, b9, h4, h, ea, eb⟩ := h
    subst ea; subst eb
    have hka := bk hka
    have hkb := bk hkb
    refine g_callVsA (st := []) B (cX9_standingIfc (o := .ok x3) h4) (Nat.le_of_ble_eq_true rfl) rfl rfl mi_X9_standingIf lk_RL_238 ⟨Nat.le_of_ble_eq_true rfl, Nat.le_of_ble_eq_true rfl⟩ rfl rfl (Nat.le_of_ble_eq_true rfl) dL_law_228 (Nat.le_trans (bm hka) hla) (Nat.le_trans (bm hkb) hlb) ?_
    refine g_istore B dL_law_231 (Nat.le_of_ble_eq_true rfl) (s1_c (f1_k rfl (f1_k rfl (f1_k rfl (f1_k rfl (f1_k rfl (f1_k rfl (f1_k rfl (f1_k rfl (f1_k rfl (f1_k rfl (f1_k rfl (f1_k rfl (f1_k rfl f1_n)))))))))))))) ?_
    refine g_aload_n B 2 dL_law_233 rfl rfl ?_
    refine g_iload B 10 dL_law_234 rfl ?_
    replace h := bnO_s h
    obtain ⟨x10, s12, a13, b14, a15, b16, h11, h, ea, eb⟩ := h
    subst ea; subst eb
    have hka := bk hka
    have hkb := bk hkb
    refine g_callVsA (st := []) B (cX9_strikec (o := .ok x10) h11) (Nat.le_of_ble_eq_true rfl) rfl rfl mi_X9_strike lk_RL_242 ⟨Nat.le_of_ble_eq_true rfl, Nat.le_of_ble_eq_true rfl⟩ rfl rfl (Nat.le_of_ble_eq_true rfl) dL_law_236 (Nat.le_trans (bm hka) hla) (Nat.le_trans (bm hkb) hlb) ?_
    refine g_iload B 0 dL_law_239 rfl ?_
    replace h := bnP_s h
    obtain ⟨j17, h18, h⟩ := h
    have k20 : GW Δ Γ (kc + a6 + a13) (ks + b7 + b14) 244 [(0, va_rf (some (BIG + 204))), (1, va_rf v1), (2, va_rf v2), (5, va_rf v5), (6, va_rf v6), (7, .int v7), (8, .int v8), (9, .int v9), (10, .int v10), (11, .int v11)] [] s12 := by
      refine g_aload_n B 1 dL_law_244 rfl rfl ?_
      refine g_iload B 9 dL_law_245 rfl ?_
      replace h := bnP_s h
      obtain ⟨x22, h23x, h⟩ := h
      have h23 := exO_s h23x
      refine g_callVs0 (st := []) B (cX9_whyNotStrikec (o := .ok x22) h23) (Nat.le_of_ble_eq_true rfl) rfl rfl mi_X9_whyNotStrike lk_RL_235 ⟨Nat.le_of_ble_eq_true rfl, Nat.le_of_ble_eq_true rfl⟩ rfl rfl (Nat.le_of_ble_eq_true rfl) dL_law_247 (Nat.le_trans (bm hka) hla) (Nat.le_trans (bm hkb) hlb) ?_
      refine g_iconst (v := 3) B dL_law_250 (by decide) ?_
      replace h := bnP_s h
      obtain ⟨j24, h25, h⟩ := h
      have k27 : GW Δ Γ (kc + a6 + a13) (ks + b7 + b14) 254 [(0, va_rf (some (BIG + 204))), (1, va_rf v1), (2, va_rf v2), (5, va_rf v5), (6, va_rf v6), (7, .int v7), (8, .int v8), (9, .int v9), (10, .int v10)] [] s12 := by
        refine g_aload_n B 1 dL_law_254 rfl rfl ?_
        refine g_iload B 8 dL_law_255 rfl ?_
        refine g_iconst (v := 3) B dL_law_257 (by decide) ?_
        replace h := bnP_s h
        obtain ⟨x29, h30x, h⟩ := h
        have h30 := exO_s h30x
        refine g_callVs0 (st := []) B (cX9_actc (o := .ok x29) h30) (Nat.le_of_ble_eq_true rfl) rfl rfl mi_X9_act lk_RL_152 ⟨Nat.le_of_ble_eq_true rfl, Nat.le_of_ble_eq_true rfl⟩ rfl rfl (Nat.le_of_ble_eq_true rfl) dL_law_258 (Nat.le_trans (bm hka) hla) (Nat.le_trans (bm hkb) hlb) ?_
        refine g_i2l B dL_law_261 ?_
        refine g_aload B 3 dL_law_262 rfl ?_
        refine g_bipush (v := 20) B dL_law_264 (by decide) ?_
        refine g_iload B 8 dL_law_266 rfl ?_
        refine g_iadd B dL_law_268 ?_
        replace h := bnP_s h
        obtain ⟨x31, h32, h⟩ := h
        refine g_lald B dL_law_269 h32 ?_
        refine g_lconst (v := 1) B dL_law_270 (by decide) ?_
        refine g_ladd B dL_law_271 ?_
        refine g_lcmp B dL_law_272 ?_
        refine g_if_eq B 278 dL_law_273 (by decide) (fun hc => ?_) (fun hc => ?_)
        · replace h := ifp hc h
          refine g_goto B 780 dL_law_278 (by decide) ?_
          obtain ⟨w1, w2, w3, w4⟩ := inA h
          clear h
          subst w1
          subst w2
          subst w3
          subst w4
          refine g_cost hka hkb ?_
          exact g_sub [0, 1, 2, 3, 4, 5, 6, 7] rfl kk
        · replace h := ifn hc h
          cases h
      clear h
      have h := h25
      clear h25
      refine g_icmp_ne B 276 dL_law_251 (by decide) (fun hc => ?_) (fun hc => ?_)
      · replace h := ifn hc h
        cases h
      · replace h := ifp hc h
        replace h := Option.some.inj h
        subst h
        exact g_sub [0, 1, 2, 3, 4, 5, 6, 7, 8] rfl k27
    clear h
    have h := h18
    clear h18
    refine g_icmp_ne B 276 dL_law_241 (by decide) (fun hc => ?_) (fun hc => ?_)
    · replace h := ifn hc h
      cases h
    · replace h := ifp hc h
      replace h := Option.some.inj h
      subst h
      exact g_sub [1, 2, 3, 4, 5, 6, 7, 8, 9, 10] rfl k20
set_option maxRecDepth 100000 in
set_option maxHeartbeats 4000000 in
theorem cL_clause {Δ : AmbT} {Γ : CtxT} (B : Bd Δ Γ RL cL_law 18 16 630 600086 7301442) {v1 v2 v5 v6 : Option Nat} {v7 v8 v9 v10 v11 v12 v13 v14 : Int32} {σ σ' : HpT} {u : Except Nat Unit} {a b kc ks A9 B9 : Nat} (h : fL_clause v1 v2 v5 v10 v11 v12 v13 v14 σ = some (u, σ', a, b)) (hka : kc + a = A9) (hkb : ks + b = B9) (hla : A9 ≤ 600086) (hlb : B9 ≤ 7301442) (kk : GW Δ Γ A9 B9 780 [(0, va_rf (some (BIG + 204))), (1, va_rf v1), (2, va_rf v2), (5, va_rf v5), (6, va_rf v6), (7, .int v7), (8, .int v8), (9, .int v9)] [] σ') : GW Δ Γ kc ks 287 [(0, va_rf (some (BIG + 204))), (1, va_rf v1), (2, va_rf v2), (5, va_rf v5), (6, va_rf v6), (7, .int v7), (8, .int v8), (9, .int v9), (10, .int v10), (11, .int v11), (12, .int v12), (13, .int v13), (14, .int v14)] [] σ := by
  unfold fL_clause at h
  refine g_iload B 8 dL_law_287 rfl ?_
  refine g_if_le B 780 dL_law_289 (by decide) (fun hc => ?_) (fun hc => ?_)
  · replace h := ifp hc h
    obtain ⟨w1, w2, w3, w4⟩ := inA h
    clear h
    subst w1
    subst w2
    subst w3
    subst w4
    refine g_cost hka hkb ?_
    exact g_sub [0, 1, 2, 3, 4, 5, 6, 7] rfl kk
  · replace h := ifn hc h
    refine g_aload_n B 1 dL_law_292 rfl rfl ?_
    refine g_iload B 8 dL_law_293 rfl ?_
    refine g_iload B 9 dL_law_295 rfl ?_
    refine g_iconst (v := 2) B dL_law_297 (by decide) ?_
    replace h := bnP_s h
    obtain ⟨x1, h2x, h⟩ := h
    have h2 := exO_s h2x
    refine g_callVs0 (st := []) B (cX9_wordc (o := .ok x1) h2) (Nat.le_of_ble_eq_true rfl) rfl rfl mi_X9_word lk_RL_156 ⟨Nat.le_of_ble_eq_true rfl, Nat.le_of_ble_eq_true rfl⟩ rfl rfl (Nat.le_of_ble_eq_true rfl) dL_law_298 (Nat.le_trans (bm hka) hla) (Nat.le_trans (bm hkb) hlb) ?_
    refine g_if_le B 780 dL_law_301 (by decide) (fun hc => ?_) (fun hc => ?_)
    · replace h := ifp hc h
      obtain ⟨w1, w2, w3, w4⟩ := inA h
      clear h
      subst w1
      subst w2
      subst w3
      subst w4
      refine g_cost hka hkb ?_
      exact g_sub [0, 1, 2, 3, 4, 5, 6, 7] rfl kk
    · replace h := ifn hc h
      refine g_aload_n B 1 dL_law_304 rfl rfl ?_
      refine g_iload B 9 dL_law_305 rfl ?_
      refine g_iconst (v := 1) B dL_law_307 (by decide) ?_
      replace h := bnO_s h
      obtain ⟨x3, s5, a6, b7, a8, b9, h4, h, ea, eb⟩ := h
      subst ea; subst eb
      have hka := bk hka
      have hkb := bk hkb
      refine g_callVsA (st := []) B (cX9_standingIfc (o := .ok x3) h4) (Nat.le_of_ble_eq_true rfl) rfl rfl mi_X9_standingIf lk_RL_238 ⟨Nat.le_of_ble_eq_true rfl, Nat.le_of_ble_eq_true rfl⟩ rfl rfl (Nat.le_of_ble_eq_true rfl) dL_law_308 (Nat.le_trans (bm hka) hla) (Nat.le_trans (bm hkb) hlb) ?_
      refine g_istore B dL_law_311 (Nat.le_of_ble_eq_true rfl) (s1_c (f1_k rfl (f1_k rfl (f1_k rfl (f1_k rfl (f1_k rfl (f1_k rfl (f1_k rfl (f1_k rfl (f1_k rfl (f1_k rfl (f1_k rfl (f1_k rfl (f1_k rfl f1_n)))))))))))))) ?_
      refine g_aload_n B 2 dL_law_313 rfl rfl ?_
      refine g_iload B 10 dL_law_314 rfl ?_
      replace h := bnO_s h
      obtain ⟨x10, s12, a13, b14, a15, b16, h11, h, ea, eb⟩ := h
      subst ea; subst eb
      have hka := bk hka
      have hkb := bk hkb
      refine g_callVsA (st := []) B (cX9_strikeClausec (o := .ok x10) h11) (Nat.le_of_ble_eq_true rfl) rfl rfl mi_X9_strikeClause lk_RL_245 ⟨Nat.le_of_ble_eq_true rfl, Nat.le_of_ble_eq_true rfl⟩ rfl rfl (Nat.le_of_ble_eq_true rfl) dL_law_316 (Nat.le_trans (bm hka) hla) (Nat.le_trans (bm hkb) hlb) ?_
      refine g_istore B dL_law_319 (Nat.le_of_ble_eq_true rfl) (s1_c (f1_1 rfl rfl (f1_k rfl (f1_k rfl (f1_k rfl (f1_k rfl (f1_k rfl (f1_k rfl (f1_k rfl (f1_k rfl (f1_k rfl (f1_k rfl (f1_k rfl (f1_k rfl (f1_k rfl f1_n))))))))))))))) ?_
      refine g_aload_n B 3 dL_law_321 rfl rfl ?_
      refine g_iload B 10 dL_law_322 rfl ?_
      refine g_iconst (v := 5) B dL_law_324 (by decide) ?_
      replace h := bnP_s h
      obtain ⟨x17, h18x, h⟩ := h
      have h18 := exO_s h18x
      refine g_callVs0 (st := []) B (cX9_actc (o := .ok x17) h18) (Nat.le_of_ble_eq_true rfl) rfl rfl mi_X9_act lk_RL_152 ⟨Nat.le_of_ble_eq_true rfl, Nat.le_of_ble_eq_true rfl⟩ rfl rfl (Nat.le_of_ble_eq_true rfl) dL_law_325 (Nat.le_trans (bm hka) hla) (Nat.le_trans (bm hkb) hlb) ?_
      refine g_iload B 1 dL_law_328 rfl ?_
      replace h := bnP_s h
      obtain ⟨j19, h20, h⟩ := h
      have k22 : GW Δ Γ (kc + a6 + a13) (ks + b7 + b14) 333 [(0, va_rf (some (BIG + 204))), (1, va_rf v1), (2, va_rf v2), (5, va_rf v5), (6, va_rf v6), (7, .int v7), (8, .int v8), (9, .int v9), (17, .int x10)] [] s12 := by
        refine g_aload B 3 dL_law_333 rfl ?_
        refine g_bipush (v := 11) B dL_law_335 (by decide) ?_
        replace h := bnP_s h
        obtain ⟨x24, h25, h⟩ := h
        refine g_lald B dL_law_337 h25 ?_
        refine g_iload B 8 dL_law_338 rfl ?_
        refine g_i2l B dL_law_340 ?_
        refine g_lsub B dL_law_341 ?_
        refine g_aload_n B 1 dL_law_342 rfl rfl ?_
        refine g_bipush (v := 11) B dL_law_343 (by decide) ?_
        replace h := bnP_s h
        obtain ⟨x26, h27x, h⟩ := h
        have h27 := exO_s h27x
        refine g_callVs0 (st := [.long (x24 - (x10).toInt64)]) B (cX9_countc (o := .ok x26) h27) (Nat.le_of_ble_eq_true rfl) rfl rfl mi_X9_count lk_RL_206 ⟨Nat.le_of_ble_eq_true rfl, Nat.le_of_ble_eq_true rfl⟩ rfl rfl (Nat.le_of_ble_eq_true rfl) dL_law_345 (Nat.le_trans (bm hka) hla) (Nat.le_trans (bm hkb) hlb) ?_
        refine g_i2l B dL_law_348 ?_
        refine g_lcmp B dL_law_349 ?_
        refine g_if_eq B 355 dL_law_350 (by decide) (fun hc => ?_) (fun hc => ?_)
        · replace h := ifp hc h
          refine g_goto B 780 dL_law_355 (by decide) ?_
          obtain ⟨w1, w2, w3, w4⟩ := inA h
          clear h
          subst w1
          subst w2
          subst w3
          subst w4
          refine g_cost hka hkb ?_
          exact g_sub [0, 1, 2, 3, 4, 5, 6, 7] rfl kk
        · replace h := ifn hc h
          cases h
      clear h
      have h := h20
      clear h20
      refine g_icmp_ne B 353 dL_law_330 (by decide) (fun hc => ?_) (fun hc => ?_)
      · replace h := ifn hc h
        cases h
      · replace h := ifp hc h
        replace h := Option.some.inj h
        subst h
        exact g_sub [2, 3, 4, 5, 6, 7, 8, 9, 0] rfl k22
set_option maxRecDepth 100000 in
set_option maxHeartbeats 4000000 in
theorem cL_inter {Δ : AmbT} {Γ : CtxT} (B : Bd Δ Γ RL cL_law 18 16 630 600086 7301442) {v1 v2 v5 v6 : Option Nat} {v7 v8 v9 v10 v11 v12 v13 v14 : Int32} {σ σ' : HpT} {u : Except Nat Unit} {a b kc ks A9 B9 : Nat} (h : fL_inter v1 v2 v5 v10 v11 v12 v13 v14 σ = some (u, σ', a, b)) (hka : kc + a = A9) (hkb : ks + b = B9) (hla : A9 ≤ 600086) (hlb : B9 ≤ 7301442) (kk : GW Δ Γ A9 B9 780 [(0, va_rf (some (BIG + 204))), (1, va_rf v1), (2, va_rf v2), (5, va_rf v5), (6, va_rf v6), (7, .int v7), (8, .int v8), (9, .int v9)] [] σ') : GW Δ Γ kc ks 365 [(0, va_rf (some (BIG + 204))), (1, va_rf v1), (2, va_rf v2), (5, va_rf v5), (6, va_rf v6), (7, .int v7), (8, .int v8), (9, .int v9), (10, .int v10), (11, .int v11), (12, .int v12), (13, .int v13), (14, .int v14)] [] σ := by
  unfold fL_inter at h
  refine g_iload B 8 dL_law_365 rfl ?_
  refine g_if_le B 780 dL_law_367 (by decide) (fun hc => ?_) (fun hc => ?_)
  · replace h := ifp hc h
    obtain ⟨w1, w2, w3, w4⟩ := inA h
    clear h
    subst w1
    subst w2
    subst w3
    subst w4
    refine g_cost hka hkb ?_
    exact g_sub [0, 1, 2, 3, 4, 5, 6, 7] rfl kk
  · replace h := ifn hc h
    refine g_aload_n B 1 dL_law_370 rfl rfl ?_
    refine g_iload B 8 dL_law_371 rfl ?_
    refine g_iload B 9 dL_law_373 rfl ?_
    refine g_iconst (v := 3) B dL_law_375 (by decide) ?_
    replace h := bnP_s h
    obtain ⟨x1, h2x, h⟩ := h
    have h2 := exO_s h2x
    refine g_callVs0 (st := []) B (cX9_wordc (o := .ok x1) h2) (Nat.le_of_ble_eq_true rfl) rfl rfl mi_X9_word lk_RL_156 ⟨Nat.le_of_ble_eq_true rfl, Nat.le_of_ble_eq_true rfl⟩ rfl rfl (Nat.le_of_ble_eq_true rfl) dL_law_376 (Nat.le_trans (bm hka) hla) (Nat.le_trans (bm hkb) hlb) ?_
    refine g_iconst (v := 4) B dL_law_379 (by decide) ?_
    refine g_icmp_ge B 780 dL_law_380 (by decide) (fun hc => ?_) (fun hc => ?_)
    · replace h := ifp hc h
      obtain ⟨w1, w2, w3, w4⟩ := inA h
      clear h
      subst w1
      subst w2
      subst w3
      subst w4
      refine g_cost hka hkb ?_
      exact g_sub [0, 1, 2, 3, 4, 5, 6, 7] rfl kk
    · replace h := ifn hc h
      refine g_aload_n B 1 dL_law_383 rfl rfl ?_
      refine g_iload B 9 dL_law_384 rfl ?_
      refine g_aload_n B 1 dL_law_386 rfl rfl ?_
      refine g_aload_n B 2 dL_law_387 rfl rfl ?_
      refine g_ldcS B (j := 46) rfl dL_law_388 ?_
      replace h := bnS_s h
      obtain ⟨x3, s5, h4, h⟩ := h
      refine g_callSs0 (st := [.int v11, va_rf v1]) B (cL_toldc h4) mi_L_told lk_RL_217 ⟨Nat.le_of_ble_eq_true rfl, Nat.le_of_ble_eq_true rfl⟩ rfl rfl (Nat.le_of_ble_eq_true rfl) dL_law_390 (Nat.le_trans (bm hka) hla) (Nat.le_trans (bm hkb) hlb) ?_
      replace h := bnO_s h
      obtain ⟨x6, s8, a9, b10, a11, b12, h7, h, ea, eb⟩ := h
      subst ea; subst eb
      have hka := bk hka
      have hkb := bk hkb
      refine g_callVsA (st := []) B (cX9_interlinec (o := .ok x6) h7) (Nat.le_of_ble_eq_true rfl) rfl rfl mi_X9_interline lk_RL_250 ⟨Nat.le_of_ble_eq_true rfl, Nat.le_of_ble_eq_true rfl⟩ rfl rfl (Nat.le_of_ble_eq_true rfl) dL_law_393 (Nat.le_trans (bm hka) hla) (Nat.le_trans (bm hkb) hlb) ?_
      refine g_aload_n B 1 dL_law_396 rfl rfl ?_
      refine g_iload B 8 dL_law_397 rfl ?_
      refine g_iconst (v := 5) B dL_law_399 (by decide) ?_
      replace h := bnP_s h
      obtain ⟨x13, h14x, h⟩ := h
      have h14 := exO_s h14x
      refine g_callVs0 (st := [.int x6]) B (cX9_actc (o := .ok x13) h14) (Nat.le_of_ble_eq_true rfl) rfl rfl mi_X9_act lk_RL_152 ⟨Nat.le_of_ble_eq_true rfl, Nat.le_of_ble_eq_true rfl⟩ rfl rfl (Nat.le_of_ble_eq_true rfl) dL_law_400 (Nat.le_trans (bm hka) hla) (Nat.le_trans (bm hkb) hlb) ?_
      replace h := bnP_s h
      obtain ⟨j15, h16, h⟩ := h
      have k18 : GW Δ Γ (kc + a9) (ks + b10) 406 [(0, va_rf (some (BIG + 204))), (1, va_rf v1), (2, va_rf v2), (5, va_rf v5), (6, va_rf v6), (7, .int v7), (8, .int v8), (9, .int v9)] [] s8 := by
        refine g_aload_n B 1 dL_law_406 rfl rfl ?_
        refine g_bipush (v := 11) B dL_law_407 (by decide) ?_
        replace h := bnP_s h
        obtain ⟨x20, h21x, h⟩ := h
        have h21 := exO_s h21x
        refine g_callVs0 (st := []) B (cX9_countc (o := .ok x20) h21) (Nat.le_of_ble_eq_true rfl) rfl rfl mi_X9_count lk_RL_206 ⟨Nat.le_of_ble_eq_true rfl, Nat.le_of_ble_eq_true rfl⟩ rfl rfl (Nat.le_of_ble_eq_true rfl) dL_law_409 (Nat.le_trans (bm hka) hla) (Nat.le_trans (bm hkb) hlb) ?_
        refine g_i2l B dL_law_412 ?_
        refine g_aload B 3 dL_law_413 rfl ?_
        refine g_bipush (v := 11) B dL_law_415 (by decide) ?_
        replace h := bnP_s h
        obtain ⟨x22, h23, h⟩ := h
        refine g_lald B dL_law_417 h23 ?_
        refine g_lconst (v := 1) B dL_law_418 (by decide) ?_
        refine g_ladd B dL_law_419 ?_
        refine g_lcmp B dL_law_420 ?_
        refine g_if_eq B 780 dL_law_421 (by decide) (fun hc => ?_) (fun hc => ?_)
        · replace h := ifp hc h
          obtain ⟨w1, w2, w3, w4⟩ := inA h
          clear h
          subst w1
          subst w2
          subst w3
          subst w4
          refine g_cost hka hkb ?_
          exact g_sub [0, 1, 2, 3, 4, 5, 6, 7] rfl kk
        · replace h := ifn hc h
          cases h
      clear h
      have h := h16
      clear h16
      refine g_icmp_ne B 424 dL_law_403 (by decide) (fun hc => ?_) (fun hc => ?_)
      · replace h := ifn hc h
        cases h
      · replace h := ifp hc h
        replace h := Option.some.inj h
        subst h
        exact g_sub [0, 1, 2, 3, 4, 5, 6, 7] rfl k18
set_option maxRecDepth 100000 in
set_option maxHeartbeats 4000000 in
theorem cL_seal {Δ : AmbT} {Γ : CtxT} (B : Bd Δ Γ RL cL_law 18 16 630 600086 7301442) {v1 v2 v5 v6 : Option Nat} {v7 v8 v9 v10 v11 v12 v13 v14 : Int32} {σ σ' : HpT} {u : Except Nat Unit} {a b kc ks A9 B9 : Nat} (h : fL_seal v1 v2 v5 v10 v11 v12 v13 v14 σ = some (u, σ', a, b)) (hka : kc + a = A9) (hkb : ks + b = B9) (hla : A9 ≤ 600086) (hlb : B9 ≤ 7301442) (kk : GW Δ Γ A9 B9 780 [(0, va_rf (some (BIG + 204))), (1, va_rf v1), (2, va_rf v2), (5, va_rf v5), (6, va_rf v6), (7, .int v7), (8, .int v8), (9, .int v9)] [] σ') : GW Δ Γ kc ks 433 [(0, va_rf (some (BIG + 204))), (1, va_rf v1), (2, va_rf v2), (5, va_rf v5), (6, va_rf v6), (7, .int v7), (8, .int v8), (9, .int v9), (10, .int v10), (11, .int v11), (12, .int v12), (13, .int v13), (14, .int v14)] [] σ := by
  unfold fL_seal at h
  refine g_iload B 8 dL_law_433 rfl ?_
  refine g_if_le B 780 dL_law_435 (by decide) (fun hc => ?_) (fun hc => ?_)
  · replace h := ifp hc h
    obtain ⟨w1, w2, w3, w4⟩ := inA h
    clear h
    subst w1
    subst w2
    subst w3
    subst w4
    refine g_cost hka hkb ?_
    exact g_sub [0, 1, 2, 3, 4, 5, 6, 7] rfl kk
  · replace h := ifn hc h
    refine g_aload_n B 1 dL_law_438 rfl rfl ?_
    refine g_iconst (v := 4) B dL_law_439 (by decide) ?_
    refine g_aload_n B 1 dL_law_440 rfl rfl ?_
    refine g_iload B 8 dL_law_441 rfl ?_
    refine g_iconst (v := 3) B dL_law_443 (by decide) ?_
    replace h := bnP_s h
    obtain ⟨x1, h2x, h⟩ := h
    have h2 := exO_s h2x
    refine g_callVs0 (st := [.int 4, va_rf v1]) B (cX9_actc (o := .ok x1) h2) (Nat.le_of_ble_eq_true rfl) rfl rfl mi_X9_act lk_RL_152 ⟨Nat.le_of_ble_eq_true rfl, Nat.le_of_ble_eq_true rfl⟩ rfl rfl (Nat.le_of_ble_eq_true rfl) dL_law_444 (Nat.le_trans (bm hka) hla) (Nat.le_trans (bm hkb) hlb) ?_
    replace h := bnP_s h
    obtain ⟨x3, h4x, h⟩ := h
    have h4 := exO_s h4x
    refine g_callVs0 (st := []) B (cX9_whyNotSealc (o := .ok x3) h4) (Nat.le_of_ble_eq_true rfl) rfl rfl mi_X9_whyNotSeal lk_RL_253 ⟨Nat.le_of_ble_eq_true rfl, Nat.le_of_ble_eq_true rfl⟩ rfl rfl (Nat.le_of_ble_eq_true rfl) dL_law_447 (Nat.le_trans (bm hka) hla) (Nat.le_trans (bm hkb) hlb) ?_
    refine g_if_ne B 780 dL_law_450 (by decide) (fun hc => ?_) (fun hc => ?_)
    · replace h := ifn hc h
      obtain ⟨w1, w2, w3, w4⟩ := inA h
      clear h
      subst w1
      subst w2
      subst w3
      subst w4
      refine g_cost hka hkb ?_
      exact g_sub [0, 1, 2, 3, 4, 5, 6, 7] rfl kk
    · replace h := ifp hc h
      refine g_aload_n B 1 dL_law_453 rfl rfl ?_
      refine g_iconst (v := 4) B dL_law_454 (by decide) ?_
      refine g_aload_n B 1 dL_law_455 rfl rfl ?_
      refine g_iload B 8 dL_law_456 rfl ?_
      refine g_iconst (v := 3) B dL_law_458 (by decide) ?_
      replace h := bnP_s h
      obtain ⟨x5, h6x, h⟩ := h
      have h6 := exO_s h6x
      refine g_callVs0 (st := [.int 4, va_rf v1]) B (cX9_actc (o := .ok x5) h6) (Nat.le_of_ble_eq_true rfl) rfl rfl mi_X9_act lk_RL_152 ⟨Nat.le_of_ble_eq_true rfl, Nat.le_of_ble_eq_true rfl⟩ rfl rfl (Nat.le_of_ble_eq_true rfl) dL_law_459 (Nat.le_trans (bm hka) hla) (Nat.le_trans (bm hkb) hlb) ?_
      replace h := bnO_s h
      obtain ⟨x7, s9, a10, b11, a12, b13, h8, h, ea, eb⟩ := h
      subst ea; subst eb
      have hka := bk hka
      have hkb := bk hkb
      refine g_callVsA (st := []) B (cX9_sealc (o := .ok x7) h8) (Nat.le_of_ble_eq_true rfl) rfl rfl mi_X9_seal lk_RL_256 ⟨Nat.le_of_ble_eq_true rfl, Nat.le_of_ble_eq_true rfl⟩ rfl rfl (Nat.le_of_ble_eq_true rfl) dL_law_462 (Nat.le_trans (bm hka) hla) (Nat.le_trans (bm hkb) hlb) ?_
      refine g_istore B dL_law_465 (Nat.le_of_ble_eq_true rfl) (s1_c (f1_k rfl (f1_k rfl (f1_k rfl (f1_k rfl (f1_k rfl (f1_k rfl (f1_k rfl (f1_k rfl (f1_k rfl (f1_k rfl (f1_k rfl (f1_k rfl (f1_k rfl f1_n)))))))))))))) ?_
      refine g_aload_n B 2 dL_law_467 rfl rfl ?_
      refine g_bipush (v := 9) B dL_law_468 (by decide) ?_
      replace h := bnP_s h
      obtain ⟨x14, h15x, h⟩ := h
      have h15 := exO_s h15x
      refine g_callVs0 (st := []) B (cX9_countc (o := .ok x14) h15) (Nat.le_of_ble_eq_true rfl) rfl rfl mi_X9_count lk_RL_206 ⟨Nat.le_of_ble_eq_true rfl, Nat.le_of_ble_eq_true rfl⟩ rfl rfl (Nat.le_of_ble_eq_true rfl) dL_law_470 (Nat.le_trans (bm hka) hla) (Nat.le_trans (bm hkb) hlb) ?_
      refine g_i2l B dL_law_473 ?_
      refine g_aload B 4 dL_law_474 rfl ?_
      refine g_bipush (v := 9) B dL_law_476 (by decide) ?_
      replace h := bnP_s h
      obtain ⟨x16, h17, h⟩ := h
      refine g_lald B dL_law_478 h17 ?_
      refine g_iload B 0 dL_law_479 rfl ?_
      refine g_i2l B dL_law_481 ?_
      refine g_ladd B dL_law_482 ?_
      refine g_lcmp B dL_law_483 ?_
      replace h := bnP_s h
      obtain ⟨j18, h19, h⟩ := h
      have k21 : GW Δ Γ (kc + a10) (ks + b11) 487 [(0, va_rf (some (BIG + 204))), (1, va_rf v1), (2, va_rf v2), (5, va_rf v5), (6, va_rf v6), (7, .int v7), (8, .int v8), (9, .int v9), (10, .int v10)] [] s9 := by
        refine g_aload_n B 1 dL_law_487 rfl rfl ?_
        refine g_bipush (v := 14) B dL_law_488 (by decide) ?_
        replace h := bnP_s h
        obtain ⟨x23, h24x, h⟩ := h
        have h24 := exO_s h24x
        refine g_callVs0 (st := []) B (cX9_countc (o := .ok x23) h24) (Nat.le_of_ble_eq_true rfl) rfl rfl mi_X9_count lk_RL_206 ⟨Nat.le_of_ble_eq_true rfl, Nat.le_of_ble_eq_true rfl⟩ rfl rfl (Nat.le_of_ble_eq_true rfl) dL_law_490 (Nat.le_trans (bm hka) hla) (Nat.le_trans (bm hkb) hlb) ?_
        replace h := bnP_s h
        obtain ⟨j25, h26, h⟩ := h
        have k28 : GW Δ Γ (kc + a10) (ks + b11) 496 [(0, va_rf (some (BIG + 204))), (1, va_rf v1), (2, va_rf v2), (5, va_rf v5), (6, va_rf v6), (7, .int v7), (8, .int v8), (9, .int v9), (10, .int v10)] [] s9 := by
          refine g_aload_n B 1 dL_law_496 rfl rfl ?_
          refine g_iload B 8 dL_law_497 rfl ?_
          refine g_iconst (v := 1) B dL_law_499 (by decide) ?_
          replace h := bnP_s h
          obtain ⟨x30, h31x, h⟩ := h
          have h31 := exO_s h31x
          refine g_callVs0 (st := []) B (cX9_actc (o := .ok x30) h31) (Nat.le_of_ble_eq_true rfl) rfl rfl mi_X9_act lk_RL_152 ⟨Nat.le_of_ble_eq_true rfl, Nat.le_of_ble_eq_true rfl⟩ rfl rfl (Nat.le_of_ble_eq_true rfl) dL_law_500 (Nat.le_trans (bm hka) hla) (Nat.le_trans (bm hkb) hlb) ?_
          refine g_iconst (v := 1) B dL_law_503 (by decide) ?_
          refine g_icmp_eq B 509 dL_law_504 (by decide) (fun hc => ?_) (fun hc => ?_)
          · replace h := ifp hc h
            refine g_goto B 780 dL_law_509 (by decide) ?_
            obtain ⟨w1, w2, w3, w4⟩ := inA h
            clear h
            subst w1
            subst w2
            subst w3
            subst w4
            refine g_cost hka hkb ?_
            exact g_sub [0, 1, 2, 3, 4, 5, 6, 7] rfl kk
          · replace h := ifn hc h
            cases h
        clear h
        have h := h26
        clear h26
        refine g_if_ne B 507 dL_law_493 (by decide) (fun hc => ?_) (fun hc => ?_)
        · replace h := ifn hc h
          cases h
        · replace h := ifp hc h
          replace h := Option.some.inj h
          subst h
          exact g_sub [0, 1, 2, 3, 4, 5, 6, 7, 8] rfl k28
      clear h
      have h := h19
      clear h19
      refine g_if_ne B 507 dL_law_484 (by decide) (fun hc => ?_) (fun hc => ?_)
      · replace h := ifn hc h
        cases h
      · replace h := ifp hc h
        replace h := Option.some.inj h
        subst h
        exact g_sub [1, 2, 3, 4, 5, 6, 7, 8, 9] rfl k21
set_option maxRecDepth 100000 in
set_option maxHeartbeats 4000000 in
theorem cL_copy {Δ : AmbT} {Γ : CtxT} (B : Bd Δ Γ RL cL_law 18 16 630 600086 7301442) {v1 v2 v5 v6 : Option Nat} {v7 v8 v9 v10 v11 v12 v13 v14 : Int32} {σ σ' : HpT} {u : Except Nat Unit} {a b kc ks A9 B9 : Nat} (h : fL_copy v1 v2 v5 v10 v11 v12 v13 v14 σ = some (u, σ', a, b)) (hka : kc + a = A9) (hkb : ks + b = B9) (hla : A9 ≤ 600086) (hlb : B9 ≤ 7301442) (kk : GW Δ Γ A9 B9 780 [(0, va_rf (some (BIG + 204))), (1, va_rf v1), (2, va_rf v2), (5, va_rf v5), (6, va_rf v6), (7, .int v7), (8, .int v8), (9, .int v9)] [] σ') : GW Δ Γ kc ks 519 [(0, va_rf (some (BIG + 204))), (1, va_rf v1), (2, va_rf v2), (5, va_rf v5), (6, va_rf v6), (7, .int v7), (8, .int v8), (9, .int v9), (10, .int v10), (11, .int v11), (12, .int v12), (13, .int v13), (14, .int v14)] [] σ := by
  unfold fL_copy at h
  refine g_aload_n B 1 dL_law_519 rfl rfl ?_
  refine g_iload B 11 dL_law_520 rfl ?_
  refine g_iload B 12 dL_law_522 rfl ?_
  replace h := bnO_s h
  obtain ⟨x1, s3, a4, b5, a6, b7, h2, h, ea, eb⟩ := h
  subst ea; subst eb
  have hka := bk hka
  have hkb := bk hkb
  refine g_callVsA (st := []) B (cX9_copyWordsc (o := .ok x1) h2) (Nat.le_of_ble_eq_true rfl) rfl rfl mi_X9_copyWords lk_RL_259 ⟨Nat.le_of_ble_eq_true rfl, Nat.le_of_ble_eq_true rfl⟩ rfl rfl (Nat.le_of_ble_eq_true rfl) dL_law_524 (Nat.le_trans (bm hka) hla) (Nat.le_trans (bm hkb) hlb) ?_
  refine g_istore B dL_law_527 (Nat.le_of_ble_eq_true rfl) (s1_c (f1_k rfl (f1_k rfl (f1_k rfl (f1_k rfl (f1_k rfl (f1_k rfl (f1_k rfl (f1_k rfl (f1_k rfl (f1_k rfl (f1_k rfl (f1_k rfl (f1_k rfl f1_n)))))))))))))) ?_
  refine g_aload_n B 2 dL_law_529 rfl rfl ?_
  refine g_iload B 12 dL_law_530 rfl ?_
  refine g_iload B 13 dL_law_532 rfl ?_
  replace h := bnO_s h
  obtain ⟨x8, s10, a11, b12, a13, b14, h9, h, ea, eb⟩ := h
  subst ea; subst eb
  have hka := bk hka
  have hkb := bk hkb
  refine g_callVsA (st := []) B (cX9_whyNotCopyc (o := .ok x8) h9) (Nat.le_of_ble_eq_true rfl) rfl rfl mi_X9_whyNotCopy lk_RL_262 ⟨Nat.le_of_ble_eq_true rfl, Nat.le_of_ble_eq_true rfl⟩ rfl rfl (Nat.le_of_ble_eq_true rfl) dL_law_534 (Nat.le_trans (bm hka) hla) (Nat.le_trans (bm hkb) hlb) ?_
  refine g_if_ne B 588 dL_law_537 (by decide) (fun hc => ?_) (fun hc => ?_)
  · replace h := ifn hc h
    refine g_goto B 780 dL_law_588 (by decide) ?_
    obtain ⟨w1, w2, w3, w4⟩ := inA h
    clear h
    subst w1
    subst w2
    subst w3
    subst w4
    refine g_cost hka hkb ?_
    exact g_sub [1, 2, 3, 4, 5, 6, 7, 8] rfl kk
  · replace h := ifp hc h
    refine g_aload_n B 2 dL_law_540 rfl rfl ?_
    refine g_iload B 12 dL_law_541 rfl ?_
    refine g_iload B 13 dL_law_543 rfl ?_
    replace h := bnO_s h
    obtain ⟨x15, s17, a18, b19, a20, b21, h16, h, ea, eb⟩ := h
    subst ea; subst eb
    have hka := bk hka
    have hkb := bk hkb
    refine g_callVsA (st := []) B (cX9_addCopyc (o := .ok x15) h16) (Nat.le_of_ble_eq_true rfl) rfl rfl mi_X9_addCopy lk_RL_265 ⟨Nat.le_of_ble_eq_true rfl, Nat.le_of_ble_eq_true rfl⟩ rfl rfl (Nat.le_of_ble_eq_true rfl) dL_law_545 (Nat.le_trans (bm hka) hla) (Nat.le_trans (bm hkb) hlb) ?_
    refine g_istore B dL_law_548 (Nat.le_of_ble_eq_true rfl) (s1_c (f1_1 rfl rfl (f1_k rfl (f1_k rfl (f1_k rfl (f1_k rfl (f1_k rfl (f1_k rfl (f1_k rfl (f1_k rfl (f1_k rfl (f1_k rfl (f1_k rfl (f1_k rfl (f1_k rfl f1_n))))))))))))))) ?_
    refine g_aload_n B 3 dL_law_550 rfl rfl ?_
    refine g_iload B 0 dL_law_551 rfl ?_
    refine g_iconst (v := 2) B dL_law_553 (by decide) ?_
    replace h := bnP_s h
    obtain ⟨x22, h23x, h⟩ := h
    have h23 := exO_s h23x
    refine g_callVs0 (st := []) B (cX9_copyc (o := .ok x22) h23) (Nat.le_of_ble_eq_true rfl) rfl rfl mi_X9_copy lk_RL_189 ⟨Nat.le_of_ble_eq_true rfl, Nat.le_of_ble_eq_true rfl⟩ rfl rfl (Nat.le_of_ble_eq_true rfl) dL_law_554 (Nat.le_trans (bm hka) hla) (Nat.le_trans (bm hkb) hlb) ?_
    refine g_iload B 1 dL_law_557 rfl ?_
    replace h := bnP_s h
    obtain ⟨j24, h25, h⟩ := h
    have k27 : GW Δ Γ (kc + a4 + a11 + a18) (ks + b5 + b12 + b19) 562 [(0, va_rf (some (BIG + 204))), (1, va_rf v1), (2, va_rf v2), (5, va_rf v5), (6, va_rf v6), (7, .int v7), (8, .int v8), (9, .int v9), (14, .int v14)] [] s17 := by
      refine g_aload_n B 1 dL_law_562 rfl rfl ?_
      refine g_bipush (v := 9) B dL_law_563 (by decide) ?_
      replace h := bnP_s h
      obtain ⟨x29, h30x, h⟩ := h
      have h30 := exO_s h30x
      refine g_callVs0 (st := []) B (cX9_countc (o := .ok x29) h30) (Nat.le_of_ble_eq_true rfl) rfl rfl mi_X9_count lk_RL_206 ⟨Nat.le_of_ble_eq_true rfl, Nat.le_of_ble_eq_true rfl⟩ rfl rfl (Nat.le_of_ble_eq_true rfl) dL_law_565 (Nat.le_trans (bm hka) hla) (Nat.le_trans (bm hkb) hlb) ?_
      refine g_i2l B dL_law_568 ?_
      refine g_aload B 3 dL_law_569 rfl ?_
      refine g_bipush (v := 9) B dL_law_571 (by decide) ?_
      replace h := bnP_s h
      obtain ⟨x31, h32, h⟩ := h
      refine g_lald B dL_law_573 h32 ?_
      refine g_ldc2 (v := 3) B cj_RL_268 dL_law_574 ?_
      refine g_ladd B dL_law_577 ?_
      refine g_iload B 8 dL_law_578 rfl ?_
      refine g_i2l B dL_law_580 ?_
      refine g_lsub B dL_law_581 ?_
      refine g_lcmp B dL_law_582 ?_
      refine g_if_eq B 588 dL_law_583 (by decide) (fun hc => ?_) (fun hc => ?_)
      · replace h := ifp hc h
        refine g_goto B 780 dL_law_588 (by decide) ?_
        obtain ⟨w1, w2, w3, w4⟩ := inA h
        clear h
        subst w1
        subst w2
        subst w3
        subst w4
        refine g_cost hka hkb ?_
        exact g_sub [0, 1, 2, 3, 4, 5, 6, 7] rfl kk
      · replace h := ifn hc h
        cases h
    clear h
    have h := h25
    clear h25
    refine g_icmp_ne B 586 dL_law_559 (by decide) (fun hc => ?_) (fun hc => ?_)
    · replace h := ifn hc h
      cases h
    · replace h := ifp hc h
      replace h := Option.some.inj h
      subst h
      exact g_sub [2, 3, 4, 5, 6, 7, 8, 9, 14] rfl k27
set_option maxRecDepth 100000 in
set_option maxHeartbeats 4000000 in
theorem cL_lose {Δ : AmbT} {Γ : CtxT} (B : Bd Δ Γ RL cL_law 18 16 630 600086 7301442) {v1 v2 v5 v6 : Option Nat} {v7 v8 v9 v10 v11 v12 v13 v14 : Int32} {σ σ' : HpT} {u : Except Nat Unit} {a b kc ks A9 B9 : Nat} (h : fL_lose v1 v2 v5 v10 v11 v12 v13 v14 σ = some (u, σ', a, b)) (hka : kc + a = A9) (hkb : ks + b = B9) (hla : A9 ≤ 600086) (hlb : B9 ≤ 7301442) (kk : GW Δ Γ A9 B9 780 [(0, va_rf (some (BIG + 204))), (1, va_rf v1), (2, va_rf v2), (5, va_rf v5), (6, va_rf v6), (7, .int v7), (8, .int v8), (9, .int v9)] [] σ') : GW Δ Γ kc ks 598 [(0, va_rf (some (BIG + 204))), (1, va_rf v1), (2, va_rf v2), (5, va_rf v5), (6, va_rf v6), (7, .int v7), (8, .int v8), (9, .int v9), (10, .int v10), (11, .int v11), (12, .int v12), (13, .int v13), (14, .int v14)] [] σ := by
  unfold fL_lose at h
  refine g_aload_n B 1 dL_law_598 rfl rfl ?_
  refine g_iload B 10 dL_law_599 rfl ?_
  replace h := bnP_s h
  obtain ⟨x1, h2x, h⟩ := h
  have h2 := exO_s h2x
  refine g_callVs0 (st := []) B (cX9_unknownIfc (o := .ok x1) h2) (Nat.le_of_ble_eq_true rfl) rfl rfl mi_X9_unknownIf lk_RL_270 ⟨Nat.le_of_ble_eq_true rfl, Nat.le_of_ble_eq_true rfl⟩ rfl rfl (Nat.le_of_ble_eq_true rfl) dL_law_601 (Nat.le_trans (bm hka) hla) (Nat.le_trans (bm hkb) hlb) ?_
  refine g_istore B dL_law_604 (Nat.le_of_ble_eq_true rfl) (s1_c (f1_k rfl (f1_k rfl (f1_k rfl (f1_k rfl (f1_k rfl (f1_k rfl (f1_k rfl (f1_k rfl (f1_k rfl (f1_k rfl (f1_k rfl (f1_k rfl (f1_k rfl f1_n)))))))))))))) ?_
  refine g_aload_n B 2 dL_law_606 rfl rfl ?_
  refine g_iload B 11 dL_law_607 rfl ?_
  refine g_iconst (v := 0) B dL_law_609 (by decide) ?_
  replace h := bnP_s h
  obtain ⟨x3, h4x, h⟩ := h
  have h4 := exO_s h4x
  refine g_callVs0 (st := []) B (cX9_leafc (o := .ok x3) h4) (Nat.le_of_ble_eq_true rfl) rfl rfl mi_X9_leaf lk_RL_180 ⟨Nat.le_of_ble_eq_true rfl, Nat.le_of_ble_eq_true rfl⟩ rfl rfl (Nat.le_of_ble_eq_true rfl) dL_law_610 (Nat.le_trans (bm hka) hla) (Nat.le_trans (bm hkb) hlb) ?_
  refine g_iconst (v := 2) B dL_law_613 (by decide) ?_
  refine g_icmp_ge B 650 dL_law_614 (by decide) (fun hc => ?_) (fun hc => ?_)
  · replace h := ifp hc h
    refine g_goto B 780 dL_law_650 (by decide) ?_
    obtain ⟨w1, w2, w3, w4⟩ := inA h
    clear h
    subst w1
    subst w2
    subst w3
    subst w4
    refine g_cost hka hkb ?_
    exact g_sub [1, 2, 3, 4, 5, 6, 7, 8] rfl kk
  · replace h := ifn hc h
    refine g_aload_n B 2 dL_law_617 rfl rfl ?_
    refine g_iload B 11 dL_law_618 rfl ?_
    replace h := bnO_s h
    obtain ⟨x5, s7, a8, b9, a10, b11, h6, h, ea, eb⟩ := h
    subst ea; subst eb
    have hka := bk hka
    have hkb := bk hkb
    refine g_callVsA (st := []) B (cX9_losec (o := .ok x5) h6) (Nat.le_of_ble_eq_true rfl) rfl rfl mi_X9_lose lk_RL_273 ⟨Nat.le_of_ble_eq_true rfl, Nat.le_of_ble_eq_true rfl⟩ rfl rfl (Nat.le_of_ble_eq_true rfl) dL_law_620 (Nat.le_trans (bm hka) hla) (Nat.le_trans (bm hkb) hlb) ?_
    refine g_iload B 0 dL_law_623 rfl ?_
    replace h := bnP_s h
    obtain ⟨j12, h13, h⟩ := h
    have k15 : GW Δ Γ (kc + a8) (ks + b9) 628 [(0, va_rf (some (BIG + 204))), (1, va_rf v1), (2, va_rf v2), (5, va_rf v5), (6, va_rf v6), (7, .int v7), (8, .int v8), (9, .int v9), (16, .int x1)] [] s7 := by
      refine g_aload_n B 1 dL_law_628 rfl rfl ?_
      refine g_bipush (v := 15) B dL_law_629 (by decide) ?_
      replace h := bnP_s h
      obtain ⟨x17, h18x, h⟩ := h
      have h18 := exO_s h18x
      refine g_callVs0 (st := []) B (cX9_countc (o := .ok x17) h18) (Nat.le_of_ble_eq_true rfl) rfl rfl mi_X9_count lk_RL_206 ⟨Nat.le_of_ble_eq_true rfl, Nat.le_of_ble_eq_true rfl⟩ rfl rfl (Nat.le_of_ble_eq_true rfl) dL_law_631 (Nat.le_trans (bm hka) hla) (Nat.le_trans (bm hkb) hlb) ?_
      refine g_i2l B dL_law_634 ?_
      refine g_aload B 3 dL_law_635 rfl ?_
      refine g_bipush (v := 15) B dL_law_637 (by decide) ?_
      replace h := bnP_s h
      obtain ⟨x19, h20, h⟩ := h
      refine g_lald B dL_law_639 h20 ?_
      refine g_iload B 8 dL_law_640 rfl ?_
      refine g_i2l B dL_law_642 ?_
      refine g_ladd B dL_law_643 ?_
      refine g_lcmp B dL_law_644 ?_
      refine g_if_eq B 650 dL_law_645 (by decide) (fun hc => ?_) (fun hc => ?_)
      · replace h := ifp hc h
        refine g_goto B 780 dL_law_650 (by decide) ?_
        obtain ⟨w1, w2, w3, w4⟩ := inA h
        clear h
        subst w1
        subst w2
        subst w3
        subst w4
        refine g_cost hka hkb ?_
        exact g_sub [0, 1, 2, 3, 4, 5, 6, 7] rfl kk
      · replace h := ifn hc h
        cases h
    clear h
    have h := h13
    clear h13
    refine g_icmp_ne B 648 dL_law_625 (by decide) (fun hc => ?_) (fun hc => ?_)
    · replace h := ifn hc h
      cases h
    · replace h := ifp hc h
      replace h := Option.some.inj h
      subst h
      exact g_sub [1, 2, 3, 4, 5, 6, 7, 8, 0] rfl k15
set_option maxRecDepth 100000 in
set_option maxHeartbeats 4000000 in
theorem cL_find {Δ : AmbT} {Γ : CtxT} (B : Bd Δ Γ RL cL_law 18 16 630 600086 7301442) {v1 v2 v5 v6 : Option Nat} {v7 v8 v9 v10 v11 v12 v13 v14 : Int32} {σ σ' : HpT} {u : Except Nat Unit} {a b kc ks A9 B9 : Nat} (h : fL_find v1 v2 v5 v10 v11 v12 v13 v14 σ = some (u, σ', a, b)) (hka : kc + a = A9) (hkb : ks + b = B9) (hla : A9 ≤ 600086) (hlb : B9 ≤ 7301442) (kk : GW Δ Γ A9 B9 780 [(0, va_rf (some (BIG + 204))), (1, va_rf v1), (2, va_rf v2), (5, va_rf v5), (6, va_rf v6), (7, .int v7), (8, .int v8), (9, .int v9)] [] σ') : GW Δ Γ kc ks 660 [(0, va_rf (some (BIG + 204))), (1, va_rf v1), (2, va_rf v2), (5, va_rf v5), (6, va_rf v6), (7, .int v7), (8, .int v8), (9, .int v9), (10, .int v10), (11, .int v11), (12, .int v12), (13, .int v13), (14, .int v14)] [] σ := by
  unfold fL_find at h
  refine g_aload_n B 1 dL_law_660 rfl rfl ?_
  refine g_iload B 10 dL_law_661 rfl ?_
  refine g_iconst (v := 0) B dL_law_663 (by decide) ?_
  replace h := bnP_s h
  obtain ⟨x1, h2x, h⟩ := h
  have h2 := exO_s h2x
  refine g_callVs0 (st := []) B (cX9_leafc (o := .ok x1) h2) (Nat.le_of_ble_eq_true rfl) rfl rfl mi_X9_leaf lk_RL_180 ⟨Nat.le_of_ble_eq_true rfl, Nat.le_of_ble_eq_true rfl⟩ rfl rfl (Nat.le_of_ble_eq_true rfl) dL_law_664 (Nat.le_trans (bm hka) hla) (Nat.le_trans (bm hkb) hlb) ?_
  refine g_iconst (v := 2) B dL_law_667 (by decide) ?_
  refine g_icmp_ne B 780 dL_law_668 (by decide) (fun hc => ?_) (fun hc => ?_)
  · replace h := ifn hc h
    obtain ⟨w1, w2, w3, w4⟩ := inA h
    clear h
    subst w1
    subst w2
    subst w3
    subst w4
    refine g_cost hka hkb ?_
    exact g_sub [0, 1, 2, 3, 4, 5, 6, 7] rfl kk
  · replace h := ifp hc h
    refine g_aload_n B 1 dL_law_671 rfl rfl ?_
    refine g_iload B 10 dL_law_672 rfl ?_
    replace h := bnO_s h
    obtain ⟨x3, s5, a6, b7, a8, b9, h4, h, ea, eb⟩ := h
    subst ea; subst eb
    have hka := bk hka
    have hkb := bk hkb
    refine g_callVsA (st := []) B (cX9_recoverc (o := .ok x3) h4) (Nat.le_of_ble_eq_true rfl) rfl rfl mi_X9_recover lk_RL_276 ⟨Nat.le_of_ble_eq_true rfl, Nat.le_of_ble_eq_true rfl⟩ rfl rfl (Nat.le_of_ble_eq_true rfl) dL_law_674 (Nat.le_trans (bm hka) hla) (Nat.le_trans (bm hkb) hlb) ?_
    replace h := bnP_s h
    obtain ⟨j10, h11, h⟩ := h
    have k13 : GW Δ Γ (kc + a6) (ks + b7) 680 [(0, va_rf (some (BIG + 204))), (1, va_rf v1), (2, va_rf v2), (5, va_rf v5), (6, va_rf v6), (7, .int v7), (8, .int v8), (9, .int v9), (12, .int v12)] [] s5 := by
      refine g_aload_n B 1 dL_law_680 rfl rfl ?_
      refine g_iload B 8 dL_law_681 rfl ?_
      refine g_iconst (v := 0) B dL_law_683 (by decide) ?_
      replace h := bnP_s h
      obtain ⟨x15, h16x, h⟩ := h
      have h16 := exO_s h16x
      refine g_callVs0 (st := []) B (cX9_leafc (o := .ok x15) h16) (Nat.le_of_ble_eq_true rfl) rfl rfl mi_X9_leaf lk_RL_180 ⟨Nat.le_of_ble_eq_true rfl, Nat.le_of_ble_eq_true rfl⟩ rfl rfl (Nat.le_of_ble_eq_true rfl) dL_law_684 (Nat.le_trans (bm hka) hla) (Nat.le_trans (bm hkb) hlb) ?_
      refine g_if_eq B 780 dL_law_687 (by decide) (fun hc => ?_) (fun hc => ?_)
      · replace h := ifp hc h
        obtain ⟨w1, w2, w3, w4⟩ := inA h
        clear h
        subst w1
        subst w2
        subst w3
        subst w4
        refine g_cost hka hkb ?_
        exact g_sub [0, 1, 2, 3, 4, 5, 6, 7] rfl kk
      · replace h := ifn hc h
        cases h
    clear h
    have h := h11
    clear h11
    refine g_if_lt B 690 dL_law_677 (by decide) (fun hc => ?_) (fun hc => ?_)
    · replace h := ifp hc h
      cases h
    · replace h := ifn hc h
      replace h := Option.some.inj h
      subst h
      exact g_sub [0, 1, 2, 3, 4, 5, 6, 7, 10] rfl k13
set_option maxRecDepth 100000 in
set_option maxHeartbeats 4000000 in
theorem cL_shake {Δ : AmbT} {Γ : CtxT} (B : Bd Δ Γ RL cL_law 18 16 630 600086 7301442) {v1 v2 v5 v6 : Option Nat} {v7 v8 v9 v10 v11 v12 v13 v14 : Int32} {σ σ' : HpT} {u : Except Nat Unit} {a b kc ks A9 B9 : Nat} (h : fL_shake v1 v2 v5 v10 v11 v12 v13 v14 σ = some (u, σ', a, b)) (hka : kc + a = A9) (hkb : ks + b = B9) (hla : A9 ≤ 600086) (hlb : B9 ≤ 7301442) (kk : GW Δ Γ A9 B9 780 [(0, va_rf (some (BIG + 204))), (1, va_rf v1), (2, va_rf v2), (5, va_rf v5), (6, va_rf v6), (7, .int v7), (8, .int v8), (9, .int v9)] [] σ') : GW Δ Γ kc ks 699 [(0, va_rf (some (BIG + 204))), (1, va_rf v1), (2, va_rf v2), (5, va_rf v5), (6, va_rf v6), (7, .int v7), (8, .int v8), (9, .int v9), (10, .int v10), (11, .int v11), (12, .int v12), (13, .int v13), (14, .int v14)] [] σ := by
  unfold fL_shake at h
  refine g_aload_n B 1 dL_law_699 rfl rfl ?_
  replace h := bnO_s h
  obtain ⟨x1, s3, a4, b5, a6, b7, h2, h, ea, eb⟩ := h
  subst ea; subst eb
  have hka := bk hka
  have hkb := bk hkb
  refine g_callVsA (st := []) B (cX9_shakenOutc (o := .ok x1) h2) (Nat.le_of_ble_eq_true rfl) rfl rfl mi_X9_shakenOut lk_RL_279 ⟨Nat.le_of_ble_eq_true rfl, Nat.le_of_ble_eq_true rfl⟩ rfl rfl (Nat.le_of_ble_eq_true rfl) dL_law_700 (Nat.le_trans (bm hka) hla) (Nat.le_trans (bm hkb) hlb) ?_
  refine g_istore B dL_law_703 (Nat.le_of_ble_eq_true rfl) (s1_c (f1_k rfl (f1_k rfl (f1_k rfl (f1_k rfl (f1_k rfl (f1_k rfl (f1_k rfl (f1_k rfl (f1_k rfl (f1_k rfl (f1_k rfl (f1_k rfl (f1_k rfl f1_n)))))))))))))) ?_
  refine g_aload_n B 2 dL_law_705 rfl rfl ?_
  replace h := bnO_s h
  obtain ⟨x8, s10, a11, b12, a13, b14, h9, h, ea, eb⟩ := h
  subst ea; subst eb
  have hka := bk hka
  have hkb := bk hkb
  refine g_callVsA (st := []) B (cX9_shakec (o := .ok x8) h9) (Nat.le_of_ble_eq_true rfl) rfl rfl mi_X9_shake lk_RL_282 ⟨Nat.le_of_ble_eq_true rfl, Nat.le_of_ble_eq_true rfl⟩ rfl rfl (Nat.le_of_ble_eq_true rfl) dL_law_706 (Nat.le_trans (bm hka) hla) (Nat.le_trans (bm hkb) hlb) ?_
  refine g_istore B dL_law_709 (Nat.le_of_ble_eq_true rfl) (s1_c (f1_1 rfl rfl (f1_k rfl (f1_k rfl (f1_k rfl (f1_k rfl (f1_k rfl (f1_k rfl (f1_k rfl (f1_k rfl (f1_k rfl (f1_k rfl (f1_k rfl (f1_k rfl (f1_k rfl f1_n))))))))))))))) ?_
  refine g_iload B 1 dL_law_711 rfl ?_
  refine g_if_ne B 724 dL_law_713 (by decide) (fun hc => ?_) (fun hc => ?_)
  · replace h := ifn hc h
    refine g_iload B 0 dL_law_724 rfl ?_
    refine g_iconst (v := 1) B dL_law_726 (by decide) ?_
    replace h := bnP_s h
    obtain ⟨j15, h16, h⟩ := h
    have k18 : GW Δ Γ (kc + a4 + a11) (ks + b5 + b12) 730 [(0, va_rf (some (BIG + 204))), (1, va_rf v1), (2, va_rf v2), (5, va_rf v5), (6, va_rf v6), (7, .int v7), (8, .int v8), (9, .int v9), (16, .int x1)] [] s10 := by
      refine g_aload_n B 1 dL_law_730 rfl rfl ?_
      replace h := bnO_s h
      obtain ⟨x20, s22, a23, b24, a25, b26, h21, h, ea, eb⟩ := h
      subst ea; subst eb
      have hka := bk hka
      have hkb := bk hkb
      refine g_callVsA (st := []) B (cX9_shakenOutc (o := .ok x20) h21) (Nat.le_of_ble_eq_true rfl) rfl rfl mi_X9_shakenOut lk_RL_279 ⟨Nat.le_of_ble_eq_true rfl, Nat.le_of_ble_eq_true rfl⟩ rfl rfl (Nat.le_of_ble_eq_true rfl) dL_law_731 (Nat.le_trans (bm hka) hla) (Nat.le_trans (bm hkb) hlb) ?_
      refine g_iload B 8 dL_law_734 rfl ?_
      refine g_iconst (v := 1) B dL_law_736 (by decide) ?_
      refine g_isub B dL_law_737 ?_
      refine g_icmp_eq B 743 dL_law_738 (by decide) (fun hc => ?_) (fun hc => ?_)
      · replace h := ifp hc h
        refine g_goto B 780 dL_law_743 (by decide) ?_
        obtain ⟨w1, w2, w3, w4⟩ := inA h
        clear h
        subst w1
        subst w2
        subst w3
        subst w4
        refine g_cost hka hkb ?_
        exact g_sub [0, 1, 2, 3, 4, 5, 6, 7] rfl kk
      · replace h := ifn hc h
        cases h
    clear h
    have h := h16
    clear h16
    refine g_icmp_lt B 741 dL_law_727 (by decide) (fun hc => ?_) (fun hc => ?_)
    · replace h := ifp hc h
      cases h
    · replace h := ifn hc h
      replace h := Option.some.inj h
      subst h
      exact g_sub [2, 3, 4, 5, 6, 7, 8, 9, 1] rfl k18
  · replace h := ifp hc h
    refine g_iload B 0 dL_law_716 rfl ?_
    refine g_if_eq B 743 dL_law_718 (by decide) (fun hc => ?_) (fun hc => ?_)
    · replace h := ifp hc h
      refine g_goto B 780 dL_law_743 (by decide) ?_
      obtain ⟨w1, w2, w3, w4⟩ := inA h
      clear h
      subst w1
      subst w2
      subst w3
      subst w4
      refine g_cost hka hkb ?_
      exact g_sub [2, 3, 4, 5, 6, 7, 8, 9] rfl kk
    · replace h := ifn hc h
      refine g_goto B 741 dL_law_721 (by decide) ?_
      cases h
set_option maxRecDepth 100000 in
set_option maxHeartbeats 4000000 in
theorem cL_cancel {Δ : AmbT} {Γ : CtxT} (B : Bd Δ Γ RL cL_law 18 16 630 600086 7301442) {v1 v2 v5 v6 : Option Nat} {v7 v8 v9 v10 v11 v12 v13 v14 : Int32} {σ σ' : HpT} {u : Except Nat Unit} {a b kc ks A9 B9 : Nat} (h : fL_cancel v1 v2 v5 v10 v11 v12 v13 v14 σ = some (u, σ', a, b)) (hka : kc + a = A9) (hkb : ks + b = B9) (hla : A9 ≤ 600086) (hlb : B9 ≤ 7301442) (kk : GW Δ Γ A9 B9 780 [(0, va_rf (some (BIG + 204))), (1, va_rf v1), (2, va_rf v2), (5, va_rf v5), (6, va_rf v6), (7, .int v7), (8, .int v8), (9, .int v9)] [] σ') : GW Δ Γ kc ks 746 [(0, va_rf (some (BIG + 204))), (1, va_rf v1), (2, va_rf v2), (5, va_rf v5), (6, va_rf v6), (7, .int v7), (8, .int v8), (9, .int v9), (10, .int v10), (11, .int v11), (12, .int v12), (13, .int v13), (14, .int v14)] [] σ := by
  unfold fL_cancel at h
  refine g_iload B 8 dL_law_746 rfl ?_
  refine g_if_le B 780 dL_law_748 (by decide) (fun hc => ?_) (fun hc => ?_)
  · replace h := ifp hc h
    obtain ⟨w1, w2, w3, w4⟩ := inA h
    clear h
    subst w1
    subst w2
    subst w3
    subst w4
    refine g_cost hka hkb ?_
    exact g_sub [0, 1, 2, 3, 4, 5, 6, 7] rfl kk
  · replace h := ifn hc h
    refine g_aload_n B 1 dL_law_751 rfl rfl ?_
    replace h := bnO_s h
    obtain ⟨x1, s3, a4, b5, a6, b7, h2, h, ea, eb⟩ := h
    subst ea; subst eb
    have hka := bk hka
    have hkb := bk hkb
    refine g_callVsA (st := []) B (cX9_cancelc (o := .ok x1) h2) (Nat.le_of_ble_eq_true rfl) rfl rfl mi_X9_cancel lk_RL_285 ⟨Nat.le_of_ble_eq_true rfl, Nat.le_of_ble_eq_true rfl⟩ rfl rfl (Nat.le_of_ble_eq_true rfl) dL_law_752 (Nat.le_trans (bm hka) hla) (Nat.le_trans (bm hkb) hlb) ?_
    refine g_iload B 8 dL_law_755 rfl ?_
    replace h := bnP_s h
    obtain ⟨j8, h9, h⟩ := h
    have k11 : GW Δ Γ (kc + a4) (ks + b5) 760 [(0, va_rf (some (BIG + 204))), (1, va_rf v1), (2, va_rf v2), (5, va_rf v5), (6, va_rf v6), (7, .int v7), (8, .int v8), (9, .int v9)] [] s3 := by
      refine g_aload_n B 1 dL_law_760 rfl rfl ?_
      refine g_bipush (v := 13) B dL_law_761 (by decide) ?_
      replace h := bnP_s h
      obtain ⟨x13, h14x, h⟩ := h
      have h14 := exO_s h14x
      refine g_callVs0 (st := []) B (cX9_countc (o := .ok x13) h14) (Nat.le_of_ble_eq_true rfl) rfl rfl mi_X9_count lk_RL_206 ⟨Nat.le_of_ble_eq_true rfl, Nat.le_of_ble_eq_true rfl⟩ rfl rfl (Nat.le_of_ble_eq_true rfl) dL_law_763 (Nat.le_trans (bm hka) hla) (Nat.le_trans (bm hkb) hlb) ?_
      refine g_i2l B dL_law_766 ?_
      refine g_aload B 3 dL_law_767 rfl ?_
      refine g_bipush (v := 13) B dL_law_769 (by decide) ?_
      replace h := bnP_s h
      obtain ⟨x15, h16, h⟩ := h
      refine g_lald B dL_law_771 h16 ?_
      refine g_lconst (v := 1) B dL_law_772 (by decide) ?_
      refine g_ladd B dL_law_773 ?_
      refine g_lcmp B dL_law_774 ?_
      refine g_if_eq B 780 dL_law_775 (by decide) (fun hc => ?_) (fun hc => ?_)
      · replace h := ifp hc h
        obtain ⟨w1, w2, w3, w4⟩ := inA h
        clear h
        subst w1
        subst w2
        subst w3
        subst w4
        refine g_cost hka hkb ?_
        exact g_sub [0, 1, 2, 3, 4, 5, 6, 7] rfl kk
      · replace h := ifn hc h
        cases h
    clear h
    have h := h9
    clear h9
    refine g_icmp_ne B 778 dL_law_757 (by decide) (fun hc => ?_) (fun hc => ?_)
    · replace h := ifn hc h
      cases h
    · replace h := ifp hc h
      replace h := Option.some.inj h
      subst h
      exact g_sub [0, 1, 2, 3, 4, 5, 6, 7] rfl k11
set_option maxRecDepth 100000 in
set_option maxHeartbeats 4000000 in
theorem cL_disp {Δ : AmbT} {Γ : CtxT} (B : Bd Δ Γ RL cL_law 18 16 630 600086 7301442) {v1 v2 v5 v6 : Option Nat} {v7 v8 v9 v10 v11 v12 v13 v14 v15 : Int32} {σ σ' : HpT} {u : Except Nat Unit} {a b kc ks A9 B9 : Nat} (h : fL_disp v1 v2 v5 v10 v11 v12 v13 v14 v15 σ = some (u, σ', a, b)) (hka : kc + a = A9) (hkb : ks + b = B9) (hla : A9 ≤ 600086) (hlb : B9 ≤ 7301442) (kk : GW Δ Γ A9 B9 780 [(0, va_rf (some (BIG + 204))), (1, va_rf v1), (2, va_rf v2), (5, va_rf v5), (6, va_rf v6), (7, .int v7), (8, .int v8), (9, .int v9)] [] σ') : GW Δ Γ kc ks 209 [(0, va_rf (some (BIG + 204))), (1, va_rf v1), (2, va_rf v2), (5, va_rf v5), (6, va_rf v6), (7, .int v7), (8, .int v8), (9, .int v9), (10, .int v10), (11, .int v11), (12, .int v12), (13, .int v13), (14, .int v14), (15, .int v15)] [] σ := by
  unfold fL_disp at h
  refine g_iload B 13 dL_law_209 rfl ?_
  refine g_iconst (v := 3) B dL_law_211 (by decide) ?_
  refine g_icmp_ge B 281 dL_law_212 (by decide) (fun hc => ?_) (fun hc => ?_)
  · replace h := ifp hc h
    refine g_iload B 13 dL_law_281 rfl ?_
    refine g_iconst (v := 3) B dL_law_283 (by decide) ?_
    refine g_icmp_ne B 358 dL_law_284 (by decide) (fun hc => ?_) (fun hc => ?_)
    · replace h := ifn hc h
      refine g_iload B 13 dL_law_358 rfl ?_
      refine g_bipush (v := 6) B dL_law_360 (by decide) ?_
      refine g_icmp_ge B 426 dL_law_362 (by decide) (fun hc => ?_) (fun hc => ?_)
      · replace h := ifp hc h
        refine g_iload B 13 dL_law_426 rfl ?_
        refine g_bipush (v := 8) B dL_law_428 (by decide) ?_
        refine g_icmp_ge B 512 dL_law_430 (by decide) (fun hc => ?_) (fun hc => ?_)
        · replace h := ifp hc h
          refine g_iload B 13 dL_law_512 rfl ?_
          refine g_bipush (v := 11) B dL_law_514 (by decide) ?_
          refine g_icmp_ge B 591 dL_law_516 (by decide) (fun hc => ?_) (fun hc => ?_)
          · replace h := ifp hc h
            refine g_iload B 13 dL_law_591 rfl ?_
            refine g_bipush (v := 13) B dL_law_593 (by decide) ?_
            refine g_icmp_ge B 653 dL_law_595 (by decide) (fun hc => ?_) (fun hc => ?_)
            · replace h := ifp hc h
              refine g_iload B 13 dL_law_653 rfl ?_
              refine g_bipush (v := 13) B dL_law_655 (by decide) ?_
              refine g_icmp_ne B 692 dL_law_657 (by decide) (fun hc => ?_) (fun hc => ?_)
              · replace h := ifn hc h
                refine g_iload B 13 dL_law_692 rfl ?_
                refine g_bipush (v := 14) B dL_law_694 (by decide) ?_
                refine g_icmp_ne B 746 dL_law_696 (by decide) (fun hc => ?_) (fun hc => ?_)
                · replace h := ifn hc h
                  refine g_sub [0, 1, 2, 3, 4, 5, 6, 7, 8, 9, 10, 11, 12] rfl ?_
                  exact cL_cancel B h hka hkb hla hlb kk
                · replace h := ifp hc h
                  refine g_sub [0, 1, 2, 3, 4, 5, 6, 7, 8, 9, 10, 11, 12] rfl ?_
                  exact cL_shake B h hka hkb hla hlb kk
              · replace h := ifp hc h
                refine g_sub [0, 1, 2, 3, 4, 5, 6, 7, 8, 9, 10, 11, 12] rfl ?_
                exact cL_find B h hka hkb hla hlb kk
            · replace h := ifn hc h
              refine g_sub [0, 1, 2, 3, 4, 5, 6, 7, 8, 9, 10, 11, 12] rfl ?_
              exact cL_lose B h hka hkb hla hlb kk
          · replace h := ifn hc h
            refine g_sub [0, 1, 2, 3, 4, 5, 6, 7, 8, 9, 10, 11, 12] rfl ?_
            exact cL_copy B h hka hkb hla hlb kk
        · replace h := ifn hc h
          refine g_sub [0, 1, 2, 3, 4, 5, 6, 7, 8, 9, 10, 11, 12] rfl ?_
          exact cL_seal B h hka hkb hla hlb kk
      · replace h := ifn hc h
        refine g_sub [0, 1, 2, 3, 4, 5, 6, 7, 8, 9, 10, 11, 12] rfl ?_
        exact cL_inter B h hka hkb hla hlb kk
    · replace h := ifp hc h
      refine g_sub [0, 1, 2, 3, 4, 5, 6, 7, 8, 9, 10, 11, 12] rfl ?_
      exact cL_clause B h hka hkb hla hlb kk
  · replace h := ifn hc h
    refine g_sub [0, 1, 2, 3, 4, 5, 6, 7, 8, 9, 10, 11, 12] rfl ?_
    exact cL_strike B h hka hkb hla hlb kk
set_option maxRecDepth 100000 in
set_option maxHeartbeats 4000000 in
theorem cL_lawc {Δ : AmbT} {Γ : CtxT} (B : Bd Δ Γ RL cL_law 18 16 630 600086 7301442) {σ σ' : HpT} {o : Except Nat Unit} {a b : Nat} (hE : ∀ kc ks L σ9, kc ≤ 600086 → ks ≤ 7301442 → GW Δ Γ kc ks 866 L [.int 1] σ9) (h : fL_law σ = some (o, σ', a, b)) (hla : a ≤ 600086) (hlb : b ≤ 7301442) : GW Δ Γ 0 0 0 [(0, va_rf (some (BIG + 204)))] [] σ := by
  unfold fL_law at h
  have hka : 0 + a = a := Nat.zero_add a
  have hkb : 0 + b = b := Nat.zero_add b
  replace h := bnA_s h
  rcases h with ⟨e9, h2, e8⟩ | ⟨x1, s3, a4, b5, a6, b7, h2, h, ea, eb⟩
  · exact absurd h2 (by simp [nwA, nwR]; try (split <;> simp))
  · subst ea; subst eb
    have hka := bk hka
    have hkb := bk hkb
    refine g_new B nw_RL_14 dL_law_0 h2 (Nat.le_trans (bm hka) hla) (Nat.le_trans (bm hkb) hlb) ?_
    refine g_dup B dL_law_3 (rf_cat _) ?_
    replace h := bnO_s h
    obtain ⟨x8, s10, a11, b12, a13, b14, h9, h, ea, eb⟩ := h
    subst ea; subst eb
    have hka := bk hka
    have hkb := bk hkb
    refine g_callIvA (st := [va_rf x1]) B (cX9_initc (o := .ok x8) h9) mi_X9_init lk_RL_212 ⟨Nat.le_of_ble_eq_true rfl, Nat.le_of_ble_eq_true rfl⟩ rfl rfl (Nat.le_of_ble_eq_true rfl) dL_law_4 (Nat.le_trans (bm hka) hla) (Nat.le_trans (bm hkb) hlb) ?_
    refine g_astore_n B dL_law_7 rfl (Nat.le_of_ble_eq_true rfl) (s1_c (f1_1 rfl (rf_cat _) f1_n)) ?_
    refine g_bipush (v := 7) B dL_law_8 (by decide) ?_
    replace h := bnA_s h
    rcases h with ⟨e9, h16, e8⟩ | ⟨x15, s17, a18, b19, a20, b21, h16, h, ea, eb⟩
    · exact absurd h16 (by simp [nwA, nwR]; try (split <;> simp))
    · subst ea; subst eb
      have hka := bk hka
      have hkb := bk hkb
      refine g_newarr B (Or.inl ⟨rfl, rfl⟩) na_int dL_law_10 h16 (Nat.le_trans (bm hka) hla) (Nat.le_trans (bm hkb) hlb) ?_
      refine g_astore_n B dL_law_12 rfl (Nat.le_of_ble_eq_true rfl) (s1_c (f1_1 rfl (rf_cat _) (f1_k rfl f1_n))) ?_
      replace h := bnA_s h
      rcases h with ⟨e9, h23, e8⟩ | ⟨x22, s24, a25, b26, a27, b28, h23, h, ea, eb⟩
      · exact absurd h23 (by simp [nwA, nwR]; try (split <;> simp))
      · subst ea; subst eb
        have hka := bk hka
        have hkb := bk hkb
        refine g_new B nw_RL_44 dL_law_13 h23 (Nat.le_trans (bm hka) hla) (Nat.le_trans (bm hkb) hlb) ?_
        refine g_dup B dL_law_16 (rf_cat _) ?_
        replace h := bnO_s h
        obtain ⟨x29, s31, a32, b33, a34, b35, h30, h, ea, eb⟩ := h
        subst ea; subst eb
        have hka := bk hka
        have hkb := bk hkb
        refine g_callNIvA (st := [va_rf x22]) B (cX11_initc (o := .ok x29) h30) mi_X11_init lk_RL_213 ⟨Nat.le_of_ble_eq_true rfl, Nat.le_of_ble_eq_true rfl⟩ rfl rfl (Nat.le_of_ble_eq_true rfl) dL_law_17 (Nat.le_trans (bm hka) hla) (Nat.le_trans (bm hkb) hlb) ?_
        refine g_astore_n B dL_law_20 rfl (Nat.le_of_ble_eq_true rfl) (s1_c (f1_1 rfl (rf_cat _) (f1_k rfl (f1_k rfl f1_n)))) ?_
        refine g_aload_n B 0 dL_law_21 rfl rfl ?_
        refine g_aload_n B 3 dL_law_22 rfl rfl ?_
        replace h := bnO_s h
        obtain ⟨x36, s38, a39, b40, a41, b42, h37, h, ea, eb⟩ := h
        subst ea; subst eb
        have hka := bk hka
        have hkb := bk hkb
        refine g_callSsA (st := []) B (cL_textc (o := .ok x36) h37) mi_L_text lk_RL_214 ⟨Nat.le_of_ble_eq_true rfl, Nat.le_of_ble_eq_true rfl⟩ rfl rfl (Nat.le_of_ble_eq_true rfl) dL_law_23 (Nat.le_trans (bm hka) hla) (Nat.le_trans (bm hkb) hlb) ?_
        refine g_astore B dL_law_26 (Nat.le_of_ble_eq_true rfl) (s1_c (f1_1 rfl (rf_cat _) (f1_k rfl (f1_k rfl (f1_k rfl f1_n))))) ?_
        refine g_aload_n B 3 dL_law_28 rfl rfl ?_
        refine g_aload_n B 3 dL_law_29 rfl rfl ?_
        refine g_aload_n B 2 dL_law_30 rfl rfl ?_
        refine g_aload B 0 dL_law_31 rfl ?_
        replace h := bnS_s h
        obtain ⟨x43, s45, h44, h⟩ := h
        refine g_callSs0 (st := [va_rf x1]) B (cL_toldc h44) mi_L_told lk_RL_217 ⟨Nat.le_of_ble_eq_true rfl, Nat.le_of_ble_eq_true rfl⟩ rfl rfl (Nat.le_of_ble_eq_true rfl) dL_law_33 (Nat.le_trans (bm hka) hla) (Nat.le_trans (bm hkb) hlb) ?_
        replace h := bnO_s h
        obtain ⟨x46, s48, a49, b50, a51, b52, h47, h, ea, eb⟩ := h
        subst ea; subst eb
        have hka := bk hka
        have hkb := bk hkb
        refine g_callVsA (st := []) B (cX9_loadc (o := .ok x46) h47) (Nat.le_of_ble_eq_true rfl) rfl rfl mi_X9_load lk_RL_221 ⟨Nat.le_of_ble_eq_true rfl, Nat.le_of_ble_eq_true rfl⟩ rfl rfl (Nat.le_of_ble_eq_true rfl) dL_law_36 (Nat.le_trans (bm hka) hla) (Nat.le_trans (bm hkb) hlb) ?_
        refine g_iconst (v := 2) B dL_law_39 (by decide) ?_
        replace h := bnP_s h
        obtain ⟨j53, h54, h⟩ := h
        have k56 : GW Δ Γ (0 + a4 + a11 + a18 + a25 + a32 + a39 + a49) (0 + b5 + b12 + b19 + b26 + b33 + b40 + b50) 45 [(0, va_rf (some (BIG + 204))), (1, va_rf x1), (2, va_rf x15)] [] s48 := by
          refine g_bipush (v := 100) B dL_law_45 (by decide) ?_
          replace h := bnA_s h
          rcases h with ⟨e9, h59, e8⟩ | ⟨x58, s60, a61, b62, a63, b64, h59, h, ea, eb⟩
          · exact absurd h59 (by simp [nwA, nwR]; try (split <;> simp))
          · subst ea; subst eb
            have hka := bk hka
            have hkb := bk hkb
            refine g_newarr B (Or.inr (Or.inl ⟨rfl, rfl⟩)) na_long dL_law_47 h59 (Nat.le_trans (bm hka) hla) (Nat.le_trans (bm hkb) hlb) ?_
            refine g_astore B dL_law_49 (Nat.le_of_ble_eq_true rfl) (s1_c (f1_k rfl (f1_k rfl (f1_k rfl f1_n)))) ?_
            refine g_bipush (v := 100) B dL_law_51 (by decide) ?_
            replace h := bnA_s h
            rcases h with ⟨e9, h66, e8⟩ | ⟨x65, s67, a68, b69, a70, b71, h66, h, ea, eb⟩
            · exact absurd h66 (by simp [nwA, nwR]; try (split <;> simp))
            · subst ea; subst eb
              have hka := bk hka
              have hkb := bk hkb
              refine g_newarr B (Or.inr (Or.inl ⟨rfl, rfl⟩)) na_long dL_law_53 h66 (Nat.le_trans (bm hka) hla) (Nat.le_trans (bm hkb) hlb) ?_
              refine g_astore B dL_law_55 (Nat.le_of_ble_eq_true rfl) (s1_c (f1_1 rfl (rf_cat _) (f1_k rfl (f1_k rfl (f1_k rfl f1_n))))) ?_
              refine g_iconst (v := 0) B dL_law_57 (by decide) ?_
              refine g_istore B dL_law_58 (Nat.le_of_ble_eq_true rfl) (s1_c (f1_1 rfl (rf_cat _) (f1_k rfl (f1_k rfl (f1_k rfl (f1_k rfl f1_n)))))) ?_
              replace h := bnA_o h
              obtain ⟨z196, s184, a185, b186, h74, er80o, h, la, lb⟩ := h
              have kE75 : ∀ r73, z196 = .ok r73 → GW Δ Γ (0 + a4 + a11 + a18 + a25 + a32 + a39 + a49 + a61 + a68 + a185) (0 + b5 + b12 + b19 + b26 + b33 + b40 + b50 + b62 + b69 + b186) 854 [(1, va_rf x1)] [] s184 := by
                intro r73 ej
                replace h := h _ ej
                obtain ⟨a187, b188, h, ea, eb⟩ := h
                subst ea; subst eb
                have hka := bk hka
                have hkb := bk hkb
                refine g_aload_n B 0 dL_law_854 rfl rfl ?_
                replace h := bnP_s h
                obtain ⟨x189, h190x, h⟩ := h
                have h190 := exO_s h190x
                refine g_callVs0 (st := []) B (cX9_gapc (o := .ok x189) h190) (Nat.le_of_ble_eq_true rfl) rfl rfl mi_X9_gap lk_RL_209 ⟨Nat.le_of_ble_eq_true rfl, Nat.le_of_ble_eq_true rfl⟩ rfl rfl (Nat.le_of_ble_eq_true rfl) dL_law_855 (Nat.le_trans (bm hka) hla) (Nat.le_trans (bm hkb) hlb) ?_
                replace h := bnP_s h
                obtain ⟨j191, h192, h⟩ := h
                have k194 : GW Δ Γ (0 + a4 + a11 + a18 + a25 + a32 + a39 + a49 + a61 + a68 + a185) (0 + b5 + b12 + b19 + b26 + b33 + b40 + b50 + b62 + b69 + b186) 861 [] [] s184 := by
                  refine g_iconst (v := 1) B dL_law_861 (by decide) ?_
                  refine g_goto B 866 dL_law_862 (by decide) ?_
                  obtain ⟨w1, w2, w3, w4⟩ := inA h
                  clear h
                  subst w1
                  subst w2
                  subst w3
                  subst w4
                  exact hE _ _ _ _ (Nat.le_trans (Nat.le_of_eq hka) hla) (Nat.le_trans (Nat.le_of_eq hkb) hlb)
                clear h
                have h := h192
                clear h192
                refine g_if_ne B 865 dL_law_858 (by decide) (fun hc => ?_) (fun hc => ?_)
                · replace h := ifn hc h
                  cases h
                · replace h := ifp hc h
                  replace h := Option.some.inj h
                  subst h
                  exact g_sub [] rfl k194
              clear h
              refine g_sub [3, 4, 5, 2, 1, 0] rfl ?_
              have hla9 := Nat.le_trans (bj hka la) hla
              have hlb9 := Nat.le_trans (bj hkb lb) hlb
              refine lpA_w (I := fun q72 s81 ka82 kb83 => GW Δ Γ (ka82) (kb83) 60 [(0, va_rf (some (BIG + 204))), (1, va_rf x1), (2, va_rf x15), (5, va_rf x58), (6, va_rf x65), (7, .int q72)] [] s81) (r := z196) (σr := s184) (A := 0 + a4 + a11 + a18 + a25 + a32 + a39 + a49 + a61 + a68 + a185) (B := 0 + b5 + b12 + b19 + b26 + b33 + b40 + b50 + b62 + b69 + b186) ?_ FUEL 0 s67 _ _ _ _ h74 rfl rfl
              intro q72 s81 ka82 kb83 x79 s9 i9 j9 h hI77 hle9 hR78 er80i
              unfold fL_law_l1 at h
              have hka : ka82 + i9 = _ := rfl
              have hkb : kb83 + j9 = _ := rfl
              have hlab : ka82 + i9 ≤ 0 + a4 + a11 + a18 + a25 + a32 + a39 + a49 + a61 + a68 + a185 ∧ kb83 + j9 ≤ 0 + b5 + b12 + b19 + b26 + b33 + b40 + b50 + b62 + b69 + b186 := by
                rcases x79 with e | (x | x)
                · obtain ⟨-, -, e1, e2⟩ := er80i e rfl; exact ⟨Nat.le_of_eq e1, Nat.le_of_eq e2⟩
                · exact hle9 x rfl
                · obtain ⟨-, -, e1, e2⟩ := hR78 x rfl; exact ⟨Nat.le_of_eq e1, Nat.le_of_eq e2⟩
              have hla := Nat.le_trans hlab.1 hla9
              have hlb := Nat.le_trans hlab.2 hlb9
              have er80n : ∀ e, x79 = .error e → z196 = .error e ∧ s9 = s184 ∧ ka82 + i9 = 0 + a4 + a11 + a18 + a25 + a32 + a39 + a49 + a61 + a68 + a185 ∧ kb83 + j9 = 0 + b5 + b12 + b19 + b26 + b33 + b40 + b50 + b62 + b69 + b186 := fun e q => (fun r9 => ⟨r9.1, r9.2.1.symm, r9.2.2.1, r9.2.2.2⟩) (er80i e q)
              refine g_iload B 5 dL_law_60 rfl ?_
              refine g_bipush (v := 18) B dL_law_62 (by decide) ?_
              refine g_icmp_ge B 854 dL_law_64 (by decide) (fun hc => ?_) (fun hc => ?_)
              · replace h := ifp hc h
                obtain ⟨w1, w2, w3, w4⟩ := inA h
                clear h
                subst w1
                subst w2
                subst w3
                subst w4
                obtain ⟨e8, e7, e6, e5⟩ := hR78 _ rfl
                subst e8
                subst e7
                refine g_cost (by omega) (by omega) ?_
                exact g_sub [1] rfl (kE75 _ rfl)
              · replace h := ifn hc h
                refine g_aload_n B 0 dL_law_67 rfl rfl ?_
                refine g_bipush (v := 10) B dL_law_68 (by decide) ?_
                refine g_iload B 5 dL_law_70 rfl ?_
                refine g_iadd B dL_law_72 ?_
                replace h := bnP_s h
                obtain ⟨x84, h85, h⟩ := h
                refine g_callSs0 (st := []) B (cL_cellc h85) mi_L_cell lk_RL_39 ⟨Nat.le_of_ble_eq_true rfl, Nat.le_of_ble_eq_true rfl⟩ rfl rfl (Nat.le_of_ble_eq_true rfl) dL_law_73 (Nat.le_trans (bm hka) hla) (Nat.le_trans (bm hkb) hlb) ?_
                refine g_istore B dL_law_76 (Nat.le_of_ble_eq_true rfl) (s1_c (f1_k rfl (f1_k rfl (f1_k rfl (f1_k rfl (f1_k rfl (f1_1 rfl rfl f1_n))))))) ?_
                refine g_iload B 0 dL_law_78 rfl ?_
                refine g_iconst (v := 1) B dL_law_80 (by decide) ?_
                refine g_iand B dL_law_81 ?_
                refine g_istore B dL_law_82 (Nat.le_of_ble_eq_true rfl) (s1_c (f1_1 rfl rfl (f1_k rfl (f1_k rfl (f1_k rfl (f1_k rfl (f1_k rfl (f1_k rfl f1_n)))))))) ?_
                refine g_aload_n B 3 dL_law_84 rfl rfl ?_
                refine g_bipush (v := 14) B dL_law_85 (by decide) ?_
                replace h := bnP_s h
                obtain ⟨x86, h87x, h⟩ := h
                have h87 := exO_s h87x
                refine g_callVs0 (st := []) B (cX9_countc (o := .ok x86) h87) (Nat.le_of_ble_eq_true rfl) rfl rfl mi_X9_count lk_RL_206 ⟨Nat.le_of_ble_eq_true rfl, Nat.le_of_ble_eq_true rfl⟩ rfl rfl (Nat.le_of_ble_eq_true rfl) dL_law_87 (Nat.le_trans (bm hka) hla) (Nat.le_trans (bm hkb) hlb) ?_
                refine g_istore B dL_law_90 (Nat.le_of_ble_eq_true rfl) (s1_c (f1_1 rfl rfl (f1_k rfl (f1_k rfl (f1_k rfl (f1_k rfl (f1_k rfl (f1_k rfl (f1_k rfl f1_n))))))))) ?_
                refine g_iload B 0 dL_law_92 rfl ?_
                replace h := bnP_s h
                obtain ⟨j88, h89, h⟩ := h
                have k91 : GW Δ Γ (ka82) (kb83) 116 [(0, va_rf (some (BIG + 204))), (1, va_rf x1), (2, va_rf x15), (5, va_rf x58), (6, va_rf x65), (7, .int q72), (8, .int x84), (9, .int (x84 &&& 1)), (10, .int x86)] [.int j88] s81 := by
                  refine g_istore B dL_law_116 (Nat.le_of_ble_eq_true rfl) (s1_c (f1_k rfl (f1_k rfl (f1_k rfl (f1_k rfl (f1_k rfl (f1_k rfl (f1_k rfl (f1_k rfl (f1_1 rfl rfl f1_n)))))))))) ?_
                  refine g_iload B 7 dL_law_118 rfl ?_
                  refine g_bipush (v := 8) B dL_law_120 (by decide) ?_
                  refine g_iushr B dL_law_122 ?_
                  refine g_bipush (v := 7) B dL_law_123 (by decide) ?_
                  refine g_iand B dL_law_125 ?_
                  refine g_aload_n B 2 dL_law_126 rfl rfl ?_
                  refine g_iconst (v := 5) B dL_law_127 (by decide) ?_
                  replace h := bnP_s h
                  obtain ⟨x97, h98x, h⟩ := h
                  have h98 := exO_s h98x
                  refine g_callVs0 (st := [.int ((Int32.toUInt32 (x84) >>> (Int32.toUInt32 (8) &&& Int32.toUInt32 31)).toInt32 &&& 7)]) B (cX9_countc (o := .ok x97) h98) (Nat.le_of_ble_eq_true rfl) rfl rfl mi_X9_count lk_RL_206 ⟨Nat.le_of_ble_eq_true rfl, Nat.le_of_ble_eq_true rfl⟩ rfl rfl (Nat.le_of_ble_eq_true rfl) dL_law_128 (Nat.le_trans (bm hka) hla) (Nat.le_trans (bm hkb) hlb) ?_
                  replace h := bnP_s h
                  obtain ⟨u99, h100, h⟩ := h
                  refine g_irem B dL_law_131 (nz_s h100) ?_
                  refine g_istore B dL_law_132 (Nat.le_of_ble_eq_true rfl) (s1_c (f1_1 rfl rfl (f1_k rfl (f1_k rfl (f1_k rfl (f1_k rfl (f1_k rfl (f1_k rfl (f1_k rfl (f1_k rfl (f1_k rfl f1_n))))))))))) ?_
                  refine g_iconst (v := 1) B dL_law_134 (by decide) ?_
                  refine g_iload B 8 dL_law_135 rfl ?_
                  refine g_bipush (v := 11) B dL_law_137 (by decide) ?_
                  refine g_iushr B dL_law_139 ?_
                  refine g_bipush (v := 7) B dL_law_140 (by decide) ?_
                  refine g_iand B dL_law_142 ?_
                  refine g_aload_n B 3 dL_law_143 rfl rfl ?_
                  refine g_iconst (v := 3) B dL_law_144 (by decide) ?_
                  replace h := bnP_s h
                  obtain ⟨x101, h102x, h⟩ := h
                  have h102 := exO_s h102x
                  refine g_callVs0 (st := [.int ((Int32.toUInt32 (x84) >>> (Int32.toUInt32 (11) &&& Int32.toUInt32 31)).toInt32 &&& 7), .int 1]) B (cX9_countc (o := .ok x101) h102) (Nat.le_of_ble_eq_true rfl) rfl rfl mi_X9_count lk_RL_206 ⟨Nat.le_of_ble_eq_true rfl, Nat.le_of_ble_eq_true rfl⟩ rfl rfl (Nat.le_of_ble_eq_true rfl) dL_law_145 (Nat.le_trans (bm hka) hla) (Nat.le_trans (bm hkb) hlb) ?_
                  replace h := bnP_s h
                  obtain ⟨u103, h104, h⟩ := h
                  refine g_irem B dL_law_148 (nz_s h104) ?_
                  refine g_iadd B dL_law_149 ?_
                  refine g_istore B dL_law_150 (Nat.le_of_ble_eq_true rfl) (s1_c (f1_1 rfl rfl (f1_k rfl (f1_k rfl (f1_k rfl (f1_k rfl (f1_k rfl (f1_k rfl (f1_k rfl (f1_k rfl (f1_k rfl (f1_k rfl f1_n)))))))))))) ?_
                  refine g_iload B 9 dL_law_152 rfl ?_
                  refine g_bipush (v := 14) B dL_law_154 (by decide) ?_
                  refine g_iushr B dL_law_156 ?_
                  refine g_iconst (v := 3) B dL_law_157 (by decide) ?_
                  refine g_iand B dL_law_158 ?_
                  refine g_iconst (v := 3) B dL_law_159 (by decide) ?_
                  refine g_irem B dL_law_160 (by decide) ?_
                  refine g_istore B dL_law_161 (Nat.le_of_ble_eq_true rfl) (s1_c (f1_1 rfl rfl (f1_k rfl (f1_k rfl (f1_k rfl (f1_k rfl (f1_k rfl (f1_k rfl (f1_k rfl (f1_k rfl (f1_k rfl (f1_k rfl (f1_k rfl f1_n))))))))))))) ?_
                  refine g_aload_n B 5 dL_law_163 rfl rfl ?_
                  refine g_aload B 7 dL_law_164 rfl ?_
                  replace h := bnP_s h
                  obtain ⟨s107, h106, h⟩ := h
                  refine g_callSv0 (st := []) B (cL_seesc h106) mi_L_sees lk_RL_224 ⟨Nat.le_of_ble_eq_true rfl, Nat.le_of_ble_eq_true rfl⟩ rfl rfl (Nat.le_of_ble_eq_true rfl) dL_law_166 (Nat.le_trans (bm hka) hla) (Nat.le_trans (bm hkb) hlb) ?_
                  refine g_aload_n B 5 dL_law_169 rfl rfl ?_
                  refine g_iload B 11 dL_law_170 rfl ?_
                  replace h := bnO_s h
                  obtain ⟨x108, s110, a111, b112, a113, b114, h109, h, ea, eb⟩ := h
                  subst ea; subst eb
                  have hka := bk hka
                  have hkb := bk hkb
                  refine g_callVsA (st := []) B (cX9_savec (o := .ok x108) h109) (Nat.le_of_ble_eq_true rfl) rfl rfl mi_X9_save lk_RL_228 ⟨Nat.le_of_ble_eq_true rfl, Nat.le_of_ble_eq_true rfl⟩ rfl rfl (Nat.le_of_ble_eq_true rfl) dL_law_172 (Nat.le_trans (bm hka) hla) (Nat.le_trans (bm hkb) hlb) ?_
                  refine g_i2l B dL_law_175 ?_
                  refine g_aload B 7 dL_law_176 rfl ?_
                  refine g_iconst (v := 3) B dL_law_178 (by decide) ?_
                  replace h := bnP_s h
                  obtain ⟨x115, h116, h⟩ := h
                  refine g_lald B dL_law_179 h116 ?_
                  refine g_lcmp B dL_law_180 ?_
                  replace h := bnP_s h
                  obtain ⟨j117, h118, h⟩ := h
                  have k120 : GW Δ Γ (ka82 + a111) (kb83 + b112) 184 [(0, va_rf (some (BIG + 204))), (1, va_rf x1), (2, va_rf x15), (5, va_rf x58), (6, va_rf x65), (7, .int q72), (8, .int x84), (9, .int (x84 &&& 1)), (10, .int x86), (11, .int j88), (12, .int (((Int32.toUInt32 (x84) >>> (Int32.toUInt32 (8) &&& Int32.toUInt32 31)).toInt32 &&& 7) - ((Int32.toUInt32 (x84) >>> (Int32.toUInt32 (8) &&& Int32.toUInt32 31)).toInt32 &&& 7) / x97 * x97)), (13, .int (1 + (((Int32.toUInt32 (x84) >>> (Int32.toUInt32 (11) &&& Int32.toUInt32 31)).toInt32 &&& 7) - ((Int32.toUInt32 (x84) >>> (Int32.toUInt32 (11) &&& Int32.toUInt32 31)).toInt32 &&& 7) / x101 * x101))), (14, .int (((Int32.toUInt32 (x84) >>> (Int32.toUInt32 (14) &&& Int32.toUInt32 31)).toInt32 &&& 3) - ((Int32.toUInt32 (x84) >>> (Int32.toUInt32 (14) &&& Int32.toUInt32 31)).toInt32 &&& 3) / 3 * 3))] [] s110 := by
                    refine g_aload_n B 1 dL_law_184 rfl rfl ?_
                    replace h := bnP_s h
                    obtain ⟨x122, h123x, h⟩ := h
                    have h123 := exO_s h123x
                    refine g_callVs0 (st := []) B (cX9_gapc (o := .ok x122) h123) (Nat.le_of_ble_eq_true rfl) rfl rfl mi_X9_gap lk_RL_209 ⟨Nat.le_of_ble_eq_true rfl, Nat.le_of_ble_eq_true rfl⟩ rfl rfl (Nat.le_of_ble_eq_true rfl) dL_law_185 (Nat.le_trans (bm hka) hla) (Nat.le_trans (bm hkb) hlb) ?_
                    replace h := bnP_s h
                    obtain ⟨j124, h125, h⟩ := h
                    have k127 : GW Δ Γ (ka82 + a111) (kb83 + b112) 191 [(0, va_rf (some (BIG + 204))), (1, va_rf x1), (2, va_rf x15), (5, va_rf x58), (6, va_rf x65), (7, .int q72), (8, .int x84), (9, .int (x84 &&& 1)), (10, .int x86), (11, .int j88), (12, .int (((Int32.toUInt32 (x84) >>> (Int32.toUInt32 (8) &&& Int32.toUInt32 31)).toInt32 &&& 7) - ((Int32.toUInt32 (x84) >>> (Int32.toUInt32 (8) &&& Int32.toUInt32 31)).toInt32 &&& 7) / x97 * x97)), (13, .int (1 + (((Int32.toUInt32 (x84) >>> (Int32.toUInt32 (11) &&& Int32.toUInt32 31)).toInt32 &&& 7) - ((Int32.toUInt32 (x84) >>> (Int32.toUInt32 (11) &&& Int32.toUInt32 31)).toInt32 &&& 7) / x101 * x101))), (14, .int (((Int32.toUInt32 (x84) >>> (Int32.toUInt32 (14) &&& Int32.toUInt32 31)).toInt32 &&& 3) - ((Int32.toUInt32 (x84) >>> (Int32.toUInt32 (14) &&& Int32.toUInt32 31)).toInt32 &&& 3) / 3 * 3))] [] s110 := by
                      refine g_aload_n B 1 dL_law_191 rfl rfl ?_
                      replace h := bnP_s h
                      obtain ⟨x129, h130, h⟩ := h
                      refine g_callSs0 (st := []) B (cL_areKnownc h130) mi_L_areKnown lk_RL_231 ⟨Nat.le_of_ble_eq_true rfl, Nat.le_of_ble_eq_true rfl⟩ rfl rfl (Nat.le_of_ble_eq_true rfl) dL_law_192 (Nat.le_trans (bm hka) hla) (Nat.le_trans (bm hkb) hlb) ?_
                      replace h := bnP_s h
                      obtain ⟨j131, h132, h⟩ := h
                      have k134 : GW Δ Γ (ka82 + a111) (kb83 + b112) 200 [(0, va_rf (some (BIG + 204))), (1, va_rf x1), (2, va_rf x15), (5, va_rf x58), (6, va_rf x65), (7, .int q72), (8, .int x84), (9, .int (x84 &&& 1)), (10, .int x86), (11, .int j88), (12, .int (((Int32.toUInt32 (x84) >>> (Int32.toUInt32 (8) &&& Int32.toUInt32 31)).toInt32 &&& 7) - ((Int32.toUInt32 (x84) >>> (Int32.toUInt32 (8) &&& Int32.toUInt32 31)).toInt32 &&& 7) / x97 * x97)), (13, .int (1 + (((Int32.toUInt32 (x84) >>> (Int32.toUInt32 (11) &&& Int32.toUInt32 31)).toInt32 &&& 7) - ((Int32.toUInt32 (x84) >>> (Int32.toUInt32 (11) &&& Int32.toUInt32 31)).toInt32 &&& 7) / x101 * x101))), (14, .int (((Int32.toUInt32 (x84) >>> (Int32.toUInt32 (14) &&& Int32.toUInt32 31)).toInt32 &&& 3) - ((Int32.toUInt32 (x84) >>> (Int32.toUInt32 (14) &&& Int32.toUInt32 31)).toInt32 &&& 3) / 3 * 3))] [] s110 := by
                        refine g_iload B 6 dL_law_200 rfl ?_
                        refine g_iconst (v := 1) B dL_law_202 (by decide) ?_
                        refine g_iushr B dL_law_203 ?_
                        refine g_bipush (v := 15) B dL_law_204 (by decide) ?_
                        refine g_iand B dL_law_206 ?_
                        refine g_istore B dL_law_207 (Nat.le_of_ble_eq_true rfl) (s1_c (f1_k rfl (f1_k rfl (f1_k rfl (f1_k rfl (f1_k rfl (f1_k rfl (f1_k rfl (f1_k rfl (f1_k rfl (f1_k rfl (f1_k rfl (f1_k rfl (f1_1 rfl rfl f1_n)))))))))))))) ?_
                        replace h := bnO_s h
                        obtain ⟨u136, s138, a139, b140, a141, b142, h137, h, ea, eb⟩ := h
                        subst ea; subst eb
                        have hka := bk hka
                        have hkb := bk hkb
                        have kJ143 : GW Δ Γ (ka82 + a111 + a139) (kb83 + b112 + b140) 780 [(0, va_rf (some (BIG + 204))), (1, va_rf x1), (2, va_rf x15), (5, va_rf x58), (6, va_rf x65), (7, .int q72), (8, .int x84), (9, .int (x84 &&& 1))] [] s138 := by
                          refine g_aload_n B 1 dL_law_780 rfl rfl ?_
                          replace h := bnP_s h
                          obtain ⟨x144, h145x, h⟩ := h
                          have h145 := exO_s h145x
                          refine g_callVs0 (st := []) B (cX9_gapc (o := .ok x144) h145) (Nat.le_of_ble_eq_true rfl) rfl rfl mi_X9_gap lk_RL_209 ⟨Nat.le_of_ble_eq_true rfl, Nat.le_of_ble_eq_true rfl⟩ rfl rfl (Nat.le_of_ble_eq_true rfl) dL_law_781 (Nat.le_trans (bm hka) hla) (Nat.le_trans (bm hkb) hlb) ?_
                          replace h := bnP_s h
                          obtain ⟨j146, h147, h⟩ := h
                          have k149 : GW Δ Γ (ka82 + a111 + a139) (kb83 + b112 + b140) 787 [(0, va_rf (some (BIG + 204))), (1, va_rf x1), (2, va_rf x15), (5, va_rf x58), (6, va_rf x65), (7, .int q72), (8, .int x84), (9, .int (x84 &&& 1))] [] s138 := by
                            refine g_aload_n B 1 dL_law_787 rfl rfl ?_
                            replace h := bnP_s h
                            obtain ⟨x151, h152, h⟩ := h
                            refine g_callSs0 (st := []) B (cL_areKnownc h152) mi_L_areKnown lk_RL_231 ⟨Nat.le_of_ble_eq_true rfl, Nat.le_of_ble_eq_true rfl⟩ rfl rfl (Nat.le_of_ble_eq_true rfl) dL_law_788 (Nat.le_trans (bm hka) hla) (Nat.le_trans (bm hkb) hlb) ?_
                            replace h := bnP_s h
                            obtain ⟨j153, h154, h⟩ := h
                            have k156 : GW Δ Γ (ka82 + a111 + a139) (kb83 + b112 + b140) 796 [(0, va_rf (some (BIG + 204))), (1, va_rf x1), (2, va_rf x15), (5, va_rf x58), (6, va_rf x65), (7, .int q72), (8, .int x84), (9, .int (x84 &&& 1))] [] s138 := by
                              refine g_iload B 6 dL_law_796 rfl ?_
                              refine g_bipush (v := 25) B dL_law_798 (by decide) ?_
                              refine g_iushr B dL_law_800 ?_
                              refine g_iconst (v := 3) B dL_law_801 (by decide) ?_
                              refine g_iand B dL_law_802 ?_
                              refine g_if_ne B 848 dL_law_803 (by decide) (fun hc => ?_) (fun hc => ?_)
                              · replace h := ifn hc h
                                refine g_iinc (v := (q72 + 1)) B 5 dL_law_848 rfl (by first | rfl | (congr 1; decide)) (Nat.le_of_ble_eq_true rfl) (s1_c (f1_k rfl (f1_k rfl (f1_k rfl (f1_k rfl (f1_1 rfl (rf_cat _) (f1_x (f1_k rfl (f1_k rfl f1_n))))))))) ?_
                                refine g_goto B 60 dL_law_851 (by decide) ?_
                                obtain ⟨w1, w2, w3, w4⟩ := inA h
                                clear h
                                subst w1
                                subst w2
                                subst w3
                                subst w4
                                refine g_cost (by omega) (by omega) ?_
                                exact g_sub [1, 2, 3, 4, 5, 0] rfl (hI77 _ rfl)
                              · replace h := ifp hc h
                                refine g_aload_n B 1 dL_law_806 rfl rfl ?_
                                refine g_iload B 7 dL_law_807 rfl ?_
                                replace h := bnO_s h
                                obtain ⟨x158, s160, a161, b162, a163, b164, h159, h, ea, eb⟩ := h
                                subst ea; subst eb
                                have hka := bk hka
                                have hkb := bk hkb
                                refine g_callVsA (st := []) B (cX9_restorec (o := .ok x158) h159) (Nat.le_of_ble_eq_true rfl) rfl rfl mi_X9_restore lk_RL_288 ⟨Nat.le_of_ble_eq_true rfl, Nat.le_of_ble_eq_true rfl⟩ rfl rfl (Nat.le_of_ble_eq_true rfl) dL_law_809 (Nat.le_trans (bm hka) hla) (Nat.le_trans (bm hkb) hlb) ?_
                                refine g_i2l B dL_law_812 ?_
                                refine g_aload B 3 dL_law_813 rfl ?_
                                refine g_iconst (v := 3) B dL_law_815 (by decide) ?_
                                replace h := bnP_s h
                                obtain ⟨x165, h166, h⟩ := h
                                refine g_lald B dL_law_816 h166 ?_
                                refine g_lcmp B dL_law_817 ?_
                                replace h := bnP_s h
                                obtain ⟨j167, h168, h⟩ := h
                                have k170 : GW Δ Γ (ka82 + a111 + a139 + a161) (kb83 + b112 + b140 + b162) 821 [(0, va_rf (some (BIG + 204))), (1, va_rf x1), (2, va_rf x15), (5, va_rf x58), (6, va_rf x65), (7, .int q72)] [] s160 := by
                                  refine g_aload_n B 1 dL_law_821 rfl rfl ?_
                                  replace h := bnP_s h
                                  obtain ⟨x172, h173, h⟩ := h
                                  refine g_callVs0 (st := []) B (cX9_undoablec h173) (Nat.le_of_ble_eq_true rfl) rfl rfl mi_X9_undoable lk_RL_291 ⟨Nat.le_of_ble_eq_true rfl, Nat.le_of_ble_eq_true rfl⟩ rfl rfl (Nat.le_of_ble_eq_true rfl) dL_law_822 (Nat.le_trans (bm hka) hla) (Nat.le_trans (bm hkb) hlb) ?_
                                  replace h := bnP_s h
                                  obtain ⟨j174, h175, h⟩ := h
                                  have k177 : GW Δ Γ (ka82 + a111 + a139 + a161) (kb83 + b112 + b140 + b162) 830 [(0, va_rf (some (BIG + 204))), (1, va_rf x1), (2, va_rf x15), (5, va_rf x58), (6, va_rf x65), (7, .int q72)] [] s160 := by
                                    refine g_aload_n B 1 dL_law_830 rfl rfl ?_
                                    refine g_aload B 4 dL_law_831 rfl ?_
                                    replace h := bnP_s h
                                    obtain ⟨s181, h180, h⟩ := h
                                    refine g_callSv0 (st := []) B (cL_seesc h180) mi_L_sees lk_RL_224 ⟨Nat.le_of_ble_eq_true rfl, Nat.le_of_ble_eq_true rfl⟩ rfl rfl (Nat.le_of_ble_eq_true rfl) dL_law_833 (Nat.le_trans (bm hka) hla) (Nat.le_trans (bm hkb) hlb) ?_
                                    refine g_aload B 3 dL_law_836 rfl ?_
                                    refine g_aload B 4 dL_law_838 rfl ?_
                                    replace h := bnP_s h
                                    obtain ⟨x182, h183, h⟩ := h
                                    refine g_callSs0 (st := []) B (cJ7_equals_331f6c h183) mi_J7_equals_331f6 lk_RL_294 ⟨Nat.le_of_ble_eq_true rfl, Nat.le_of_ble_eq_true rfl⟩ rfl rfl (Nat.le_of_ble_eq_true rfl) dL_law_840 (Nat.le_trans (bm hka) hla) (Nat.le_trans (bm hkb) hlb) ?_
                                    refine g_if_ne B 848 dL_law_843 (by decide) (fun hc => ?_) (fun hc => ?_)
                                    · replace h := ifp (bI1 hc) h
                                      refine g_iinc (v := (q72 + 1)) B 5 dL_law_848 rfl (by first | rfl | (congr 1; decide)) (Nat.le_of_ble_eq_true rfl) (s1_c (f1_k rfl (f1_k rfl (f1_k rfl (f1_k rfl (f1_1 rfl (rf_cat _) (f1_x f1_n))))))) ?_
                                      refine g_goto B 60 dL_law_851 (by decide) ?_
                                      obtain ⟨w1, w2, w3, w4⟩ := inA h
                                      clear h
                                      subst w1
                                      subst w2
                                      subst w3
                                      subst w4
                                      refine g_cost (by omega) (by omega) ?_
                                      exact g_sub [1, 2, 3, 4, 5, 0] rfl (hI77 _ rfl)
                                    · replace h := ifn (bI0 hc) h
                                      cases h
                                  clear h
                                  have h := h175
                                  clear h175
                                  refine g_if_eq B 830 dL_law_825 (by decide) (fun hc => ?_) (fun hc => ?_)
                                  · replace h := ifp hc h
                                    replace h := Option.some.inj h
                                    subst h
                                    exact g_sub [0, 1, 2, 3, 4, 5] rfl k177
                                  · replace h := ifn hc h
                                    cases h
                                clear h
                                have h := h168
                                clear h168
                                refine g_if_ne B 828 dL_law_818 (by decide) (fun hc => ?_) (fun hc => ?_)
                                · replace h := ifn hc h
                                  cases h
                                · replace h := ifp hc h
                                  replace h := Option.some.inj h
                                  subst h
                                  exact g_sub [0, 1, 2, 3, 4, 5] rfl k170
                            clear h
                            have h := h154
                            clear h154
                            refine g_if_ne B 796 dL_law_791 (by decide) (fun hc => ?_) (fun hc => ?_)
                            · replace h := ifp (bI1 hc) h
                              replace h := Option.some.inj h
                              subst h
                              exact g_sub [0, 1, 2, 3, 4, 5, 6, 7] rfl k156
                            · replace h := ifn (bI0 hc) h
                              cases h
                          clear h
                          have h := h147
                          clear h147
                          refine g_if_ne B 794 dL_law_784 (by decide) (fun hc => ?_) (fun hc => ?_)
                          · replace h := ifn hc h
                            cases h
                          · replace h := ifp hc h
                            replace h := Option.some.inj h
                            subst h
                            exact g_sub [0, 1, 2, 3, 4, 5, 6, 7] rfl k149
                        refine g_sub [1, 2, 3, 4, 5, 6, 7, 8, 9, 10, 11, 12, 13, 0] rfl ?_
                        exact cL_disp B h137 rfl rfl (Nat.le_trans (bm hka) hla) (Nat.le_trans (bm hkb) hlb) kJ143
                      clear h
                      have h := h132
                      clear h132
                      refine g_if_ne B 200 dL_law_195 (by decide) (fun hc => ?_) (fun hc => ?_)
                      · replace h := ifp (bI1 hc) h
                        replace h := Option.some.inj h
                        subst h
                        exact g_sub [0, 1, 2, 3, 4, 5, 6, 7, 8, 9, 10, 11, 12] rfl k134
                      · replace h := ifn (bI0 hc) h
                        cases h
                    clear h
                    have h := h125
                    clear h125
                    refine g_if_ne B 198 dL_law_188 (by decide) (fun hc => ?_) (fun hc => ?_)
                    · replace h := ifn hc h
                      cases h
                    · replace h := ifp hc h
                      replace h := Option.some.inj h
                      subst h
                      exact g_sub [0, 1, 2, 3, 4, 5, 6, 7, 8, 9, 10, 11, 12] rfl k127
                  clear h
                  have h := h118
                  clear h118
                  refine g_if_ne B 198 dL_law_181 (by decide) (fun hc => ?_) (fun hc => ?_)
                  · replace h := ifn hc h
                    cases h
                  · replace h := ifp hc h
                    replace h := Option.some.inj h
                    subst h
                    exact g_sub [4, 5, 6, 7, 8, 9, 10, 11, 12, 3, 2, 1, 0] rfl k120
                clear h
                have h := h89
                clear h89
                refine g_if_ne B 101 dL_law_94 (by decide) (fun hc => ?_) (fun hc => ?_)
                · replace h := ifn hc h
                  refine g_iload B 2 dL_law_101 rfl ?_
                  refine g_iconst (v := 5) B dL_law_103 (by decide) ?_
                  refine g_iushr B dL_law_104 ?_
                  refine g_bipush (v := 7) B dL_law_105 (by decide) ?_
                  refine g_iand B dL_law_107 ?_
                  refine g_aload_n B 4 dL_law_108 rfl rfl ?_
                  refine g_iload B 0 dL_law_109 rfl ?_
                  refine g_iconst (v := 4) B dL_law_111 (by decide) ?_
                  replace h := bnP_s h
                  obtain ⟨x93, h94x, h⟩ := h
                  have h94 := exO_s h94x
                  refine g_callVs0 (st := [.int ((Int32.toUInt32 (x84) >>> (Int32.toUInt32 (5) &&& Int32.toUInt32 31)).toInt32 &&& 7)]) B (cX9_actc (o := .ok x93) h94) (Nat.le_of_ble_eq_true rfl) rfl rfl mi_X9_act lk_RL_152 ⟨Nat.le_of_ble_eq_true rfl, Nat.le_of_ble_eq_true rfl⟩ rfl rfl (Nat.le_of_ble_eq_true rfl) dL_law_112 (Nat.le_trans (bm hka) hla) (Nat.le_trans (bm hkb) hlb) ?_
                  replace h := bnP_s h
                  obtain ⟨u95, h96, h⟩ := h
                  refine g_irem B dL_law_115 (nz_s h96) ?_
                  replace h := Option.some.inj h
                  subst h
                  exact g_sub [3, 4, 5, 6, 7, 8, 2, 1, 0] rfl k91
                · replace h := ifp hc h
                  refine g_iconst (v := 0) B dL_law_97 (by decide) ?_
                  refine g_goto B 116 dL_law_98 (by decide) ?_
                  replace h := Option.some.inj h
                  subst h
                  exact g_sub [3, 4, 5, 6, 7, 8, 2, 1, 0] rfl k91
        clear h
        have h := h54
        clear h54
        refine g_icmp_eq B 45 dL_law_40 (by decide) (fun hc => ?_) (fun hc => ?_)
        · replace h := ifp hc h
          replace h := Option.some.inj h
          subst h
          exact g_sub [4, 3, 2] rfl k56
        · replace h := ifn hc h
          cases h
