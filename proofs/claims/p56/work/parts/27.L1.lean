theorem mi_L_sees : MI yL_sees cL_sees 5 none 2 := ⟨by decide +kernel, (mw (i := 1773) (by decide +kernel) rfl), (mw (i := 36) (by decide +kernel) rfl), by decide +kernel, by decide +kernel⟩
theorem cj_RL_307 : Cond.constantLong RL 307 31 ∈ ALLw := (mw (i := 1777) (by decide +kernel) rfl)
theorem cj_RL_309 : Cond.constantLong RL 309 10 ∈ ALLw := (mw (i := 1778) (by decide +kernel) rfl)
theorem lk_RL_180 : LV RL 180 yX9_leaf := ⟨(mw (i := 1019) (by decide +kernel) rfl), (mw (i := 1020) (by decide +kernel) rfl), (mw (i := 1021) (by decide +kernel) rfl)⟩
theorem lk_RL_303 : LSt RL 303 yJ7_fill_d0a16 := ⟨(mw (i := 1774) (by decide +kernel) rfl), (mw (i := 1775) (by decide +kernel) rfl)⟩
theorem dL_sees_0 : decode cL_sees 0 = .ok (.aload_n 1, 1) := by decide +kernel
theorem dL_sees_1 : decode cL_sees 1 = .ok (.lconst 0, 1) := by decide +kernel
theorem dL_sees_2 : decode cL_sees 2 = .ok (.invokestatic 303, 3) := by decide +kernel
theorem dL_sees_5 : decode cL_sees 5 = .ok (.iconst 0, 1) := by decide +kernel
theorem dL_sees_6 : decode cL_sees 6 = .ok (.istore_n 2, 1) := by decide +kernel
theorem dL_sees_7 : decode cL_sees 7 = .ok (.iload_n 2, 1) := by decide +kernel
theorem dL_sees_8 : decode cL_sees 8 = .ok (.bipush 16, 2) := by decide +kernel
theorem dL_sees_10 : decode cL_sees 10 = .ok (.if_icmp .ge 18, 3) := by decide +kernel
theorem dL_sees_13 : decode cL_sees 13 = .ok (.aload_n 1, 1) := by decide +kernel
theorem dL_sees_14 : decode cL_sees 14 = .ok (.iload_n 2, 1) := by decide +kernel
theorem dL_sees_15 : decode cL_sees 15 = .ok (.aload_n 0, 1) := by decide +kernel
theorem dL_sees_16 : decode cL_sees 16 = .ok (.iload_n 2, 1) := by decide +kernel
theorem dL_sees_17 : decode cL_sees 17 = .ok (.invokevirtual 206, 3) := by decide +kernel
theorem dL_sees_20 : decode cL_sees 20 = .ok (.i2l, 1) := by decide +kernel
theorem dL_sees_21 : decode cL_sees 21 = .ok (.lastore, 1) := by decide +kernel
theorem dL_sees_22 : decode cL_sees 22 = .ok (.iinc 2 1, 3) := by decide +kernel
theorem dL_sees_25 : decode cL_sees 25 = .ok (.goto (-18), 3) := by decide +kernel
theorem dL_sees_28 : decode cL_sees 28 = .ok (.iconst 1, 1) := by decide +kernel
theorem dL_sees_29 : decode cL_sees 29 = .ok (.istore_n 2, 1) := by decide +kernel
theorem dL_sees_30 : decode cL_sees 30 = .ok (.iload_n 2, 1) := by decide +kernel
theorem dL_sees_31 : decode cL_sees 31 = .ok (.aload_n 0, 1) := by decide +kernel
theorem dL_sees_32 : decode cL_sees 32 = .ok (.iconst 3, 1) := by decide +kernel
theorem dL_sees_33 : decode cL_sees 33 = .ok (.invokevirtual 206, 3) := by decide +kernel
theorem dL_sees_36 : decode cL_sees 36 = .ok (.if_icmp .gt 120, 3) := by decide +kernel
theorem dL_sees_39 : decode cL_sees 39 = .ok (.aload_n 1, 1) := by decide +kernel
theorem dL_sees_40 : decode cL_sees 40 = .ok (.bipush 20, 2) := by decide +kernel
theorem dL_sees_42 : decode cL_sees 42 = .ok (.iload_n 2, 1) := by decide +kernel
theorem dL_sees_43 : decode cL_sees 43 = .ok (.iadd, 1) := by decide +kernel
theorem dL_sees_44 : decode cL_sees 44 = .ok (.aload_n 0, 1) := by decide +kernel
theorem dL_sees_45 : decode cL_sees 45 = .ok (.iload_n 2, 1) := by decide +kernel
theorem dL_sees_46 : decode cL_sees 46 = .ok (.iconst 3, 1) := by decide +kernel
theorem dL_sees_47 : decode cL_sees 47 = .ok (.invokevirtual 152, 3) := by decide +kernel
theorem dL_sees_50 : decode cL_sees 50 = .ok (.i2l, 1) := by decide +kernel
theorem dL_sees_51 : decode cL_sees 51 = .ok (.lastore, 1) := by decide +kernel
theorem dL_sees_52 : decode cL_sees 52 = .ok (.iconst 0, 1) := by decide +kernel
theorem dL_sees_53 : decode cL_sees 53 = .ok (.istore_n 3, 1) := by decide +kernel
theorem dL_sees_54 : decode cL_sees 54 = .ok (.iload_n 3, 1) := by decide +kernel
theorem dL_sees_55 : decode cL_sees 55 = .ok (.bipush 12, 2) := by decide +kernel
theorem dL_sees_57 : decode cL_sees 57 = .ok (.if_icmp .ge 33, 3) := by decide +kernel
theorem dL_sees_60 : decode cL_sees 60 = .ok (.aload_n 1, 1) := by decide +kernel
theorem dL_sees_61 : decode cL_sees 61 = .ok (.bipush 40, 2) := by decide +kernel
theorem dL_sees_63 : decode cL_sees 63 = .ok (.iload_n 2, 1) := by decide +kernel
theorem dL_sees_64 : decode cL_sees 64 = .ok (.iadd, 1) := by decide +kernel
theorem dL_sees_65 : decode cL_sees 65 = .ok (.ldc2_w 307, 3) := by decide +kernel
theorem dL_sees_68 : decode cL_sees 68 = .ok (.aload_n 1, 1) := by decide +kernel
theorem dL_sees_69 : decode cL_sees 69 = .ok (.bipush 40, 2) := by decide +kernel
theorem dL_sees_71 : decode cL_sees 71 = .ok (.iload_n 2, 1) := by decide +kernel
theorem dL_sees_72 : decode cL_sees 72 = .ok (.iadd, 1) := by decide +kernel
theorem dL_sees_73 : decode cL_sees 73 = .ok (.laload, 1) := by decide +kernel
theorem dL_sees_74 : decode cL_sees 74 = .ok (.lmul, 1) := by decide +kernel
theorem dL_sees_75 : decode cL_sees 75 = .ok (.aload_n 0, 1) := by decide +kernel
theorem dL_sees_76 : decode cL_sees 76 = .ok (.iload_n 2, 1) := by decide +kernel
theorem dL_sees_77 : decode cL_sees 77 = .ok (.iload_n 3, 1) := by decide +kernel
theorem dL_sees_78 : decode cL_sees 78 = .ok (.invokevirtual 152, 3) := by decide +kernel
theorem dL_sees_81 : decode cL_sees 81 = .ok (.i2l, 1) := by decide +kernel
theorem dL_sees_82 : decode cL_sees 82 = .ok (.ladd, 1) := by decide +kernel
theorem dL_sees_83 : decode cL_sees 83 = .ok (.lastore, 1) := by decide +kernel
theorem dL_sees_84 : decode cL_sees 84 = .ok (.iinc 3 1, 3) := by decide +kernel
theorem dL_sees_87 : decode cL_sees 87 = .ok (.goto (-33), 3) := by decide +kernel
theorem dL_sees_90 : decode cL_sees 90 = .ok (.iconst 0, 1) := by decide +kernel
theorem dL_sees_91 : decode cL_sees 91 = .ok (.istore_n 3, 1) := by decide +kernel
theorem dL_sees_92 : decode cL_sees 92 = .ok (.iload_n 3, 1) := by decide +kernel
theorem dL_sees_93 : decode cL_sees 93 = .ok (.aload_n 0, 1) := by decide +kernel
theorem dL_sees_94 : decode cL_sees 94 = .ok (.iload_n 2, 1) := by decide +kernel
theorem dL_sees_95 : decode cL_sees 95 = .ok (.iconst 4, 1) := by decide +kernel
theorem dL_sees_96 : decode cL_sees 96 = .ok (.invokevirtual 152, 3) := by decide +kernel
theorem dL_sees_99 : decode cL_sees 99 = .ok (.if_icmp .ge 51, 3) := by decide +kernel
theorem dL_sees_102 : decode cL_sees 102 = .ok (.iconst 0, 1) := by decide +kernel
theorem dL_sees_103 : decode cL_sees 103 = .ok (.istore 4, 2) := by decide +kernel
theorem dL_sees_105 : decode cL_sees 105 = .ok (.iload 4, 2) := by decide +kernel
theorem dL_sees_107 : decode cL_sees 107 = .ok (.bipush 8, 2) := by decide +kernel
theorem dL_sees_109 : decode cL_sees 109 = .ok (.if_icmp .ge 35, 3) := by decide +kernel
theorem dL_sees_112 : decode cL_sees 112 = .ok (.aload_n 1, 1) := by decide +kernel
theorem dL_sees_113 : decode cL_sees 113 = .ok (.bipush 55, 2) := by decide +kernel
theorem dL_sees_115 : decode cL_sees 115 = .ok (.iload_n 2, 1) := by decide +kernel
theorem dL_sees_116 : decode cL_sees 116 = .ok (.iadd, 1) := by decide +kernel
theorem dL_sees_117 : decode cL_sees 117 = .ok (.ldc2_w 307, 3) := by decide +kernel
theorem dL_sees_120 : decode cL_sees 120 = .ok (.aload_n 1, 1) := by decide +kernel
theorem dL_sees_121 : decode cL_sees 121 = .ok (.bipush 55, 2) := by decide +kernel
theorem dL_sees_123 : decode cL_sees 123 = .ok (.iload_n 2, 1) := by decide +kernel
theorem dL_sees_124 : decode cL_sees 124 = .ok (.iadd, 1) := by decide +kernel
theorem dL_sees_125 : decode cL_sees 125 = .ok (.laload, 1) := by decide +kernel
theorem dL_sees_126 : decode cL_sees 126 = .ok (.lmul, 1) := by decide +kernel
theorem dL_sees_127 : decode cL_sees 127 = .ok (.aload_n 0, 1) := by decide +kernel
theorem dL_sees_128 : decode cL_sees 128 = .ok (.iload_n 2, 1) := by decide +kernel
theorem dL_sees_129 : decode cL_sees 129 = .ok (.iload_n 3, 1) := by decide +kernel
theorem dL_sees_130 : decode cL_sees 130 = .ok (.iload 4, 2) := by decide +kernel
theorem dL_sees_132 : decode cL_sees 132 = .ok (.invokevirtual 156, 3) := by decide +kernel
theorem dL_sees_135 : decode cL_sees 135 = .ok (.i2l, 1) := by decide +kernel
theorem dL_sees_136 : decode cL_sees 136 = .ok (.ladd, 1) := by decide +kernel
theorem dL_sees_137 : decode cL_sees 137 = .ok (.lastore, 1) := by decide +kernel
theorem dL_sees_138 : decode cL_sees 138 = .ok (.iinc 4 1, 3) := by decide +kernel
theorem dL_sees_141 : decode cL_sees 141 = .ok (.goto (-36), 3) := by decide +kernel
theorem dL_sees_144 : decode cL_sees 144 = .ok (.iinc 3 1, 3) := by decide +kernel
theorem dL_sees_147 : decode cL_sees 147 = .ok (.goto (-55), 3) := by decide +kernel
theorem dL_sees_150 : decode cL_sees 150 = .ok (.iinc 2 1, 3) := by decide +kernel
theorem dL_sees_153 : decode cL_sees 153 = .ok (.goto (-123), 3) := by decide +kernel
theorem dL_sees_156 : decode cL_sees 156 = .ok (.iconst 0, 1) := by decide +kernel
theorem dL_sees_157 : decode cL_sees 157 = .ok (.istore_n 2, 1) := by decide +kernel
theorem dL_sees_158 : decode cL_sees 158 = .ok (.iload_n 2, 1) := by decide +kernel
theorem dL_sees_159 : decode cL_sees 159 = .ok (.aload_n 0, 1) := by decide +kernel
theorem dL_sees_160 : decode cL_sees 160 = .ok (.iconst 5, 1) := by decide +kernel
theorem dL_sees_161 : decode cL_sees 161 = .ok (.invokevirtual 206, 3) := by decide +kernel
theorem dL_sees_164 : decode cL_sees 164 = .ok (.if_icmp .ge 22, 3) := by decide +kernel
theorem dL_sees_167 : decode cL_sees 167 = .ok (.aload_n 1, 1) := by decide +kernel
theorem dL_sees_168 : decode cL_sees 168 = .ok (.bipush 70, 2) := by decide +kernel
theorem dL_sees_170 : decode cL_sees 170 = .ok (.iload_n 2, 1) := by decide +kernel
theorem dL_sees_171 : decode cL_sees 171 = .ok (.iadd, 1) := by decide +kernel
theorem dL_sees_172 : decode cL_sees 172 = .ok (.aload_n 0, 1) := by decide +kernel
theorem dL_sees_173 : decode cL_sees 173 = .ok (.iload_n 2, 1) := by decide +kernel
theorem dL_sees_174 : decode cL_sees 174 = .ok (.iconst 0, 1) := by decide +kernel
theorem dL_sees_175 : decode cL_sees 175 = .ok (.invokevirtual 180, 3) := by decide +kernel
theorem dL_sees_178 : decode cL_sees 178 = .ok (.i2l, 1) := by decide +kernel
theorem dL_sees_179 : decode cL_sees 179 = .ok (.lastore, 1) := by decide +kernel
theorem dL_sees_180 : decode cL_sees 180 = .ok (.iinc 2 1, 3) := by decide +kernel
theorem dL_sees_183 : decode cL_sees 183 = .ok (.goto (-25), 3) := by decide +kernel
theorem dL_sees_186 : decode cL_sees 186 = .ok (.iconst 0, 1) := by decide +kernel
theorem dL_sees_187 : decode cL_sees 187 = .ok (.istore_n 2, 1) := by decide +kernel
theorem dL_sees_188 : decode cL_sees 188 = .ok (.iload_n 2, 1) := by decide +kernel
theorem dL_sees_189 : decode cL_sees 189 = .ok (.aload_n 0, 1) := by decide +kernel
theorem dL_sees_190 : decode cL_sees 190 = .ok (.bipush 8, 2) := by decide +kernel
theorem dL_sees_192 : decode cL_sees 192 = .ok (.invokevirtual 206, 3) := by decide +kernel
theorem dL_sees_195 : decode cL_sees 195 = .ok (.if_icmp .ge 34, 3) := by decide +kernel
theorem dL_sees_198 : decode cL_sees 198 = .ok (.aload_n 1, 1) := by decide +kernel
theorem dL_sees_199 : decode cL_sees 199 = .ok (.bipush 85, 2) := by decide +kernel
theorem dL_sees_201 : decode cL_sees 201 = .ok (.iload_n 2, 1) := by decide +kernel
theorem dL_sees_202 : decode cL_sees 202 = .ok (.iadd, 1) := by decide +kernel
theorem dL_sees_203 : decode cL_sees 203 = .ok (.ldc2_w 309, 3) := by decide +kernel
theorem dL_sees_206 : decode cL_sees 206 = .ok (.aload_n 0, 1) := by decide +kernel
theorem dL_sees_207 : decode cL_sees 207 = .ok (.iload_n 2, 1) := by decide +kernel
theorem dL_sees_208 : decode cL_sees 208 = .ok (.iconst 0, 1) := by decide +kernel
theorem dL_sees_209 : decode cL_sees 209 = .ok (.invokevirtual 189, 3) := by decide +kernel
theorem dL_sees_212 : decode cL_sees 212 = .ok (.i2l, 1) := by decide +kernel
theorem dL_sees_213 : decode cL_sees 213 = .ok (.lmul, 1) := by decide +kernel
theorem dL_sees_214 : decode cL_sees 214 = .ok (.aload_n 0, 1) := by decide +kernel
theorem dL_sees_215 : decode cL_sees 215 = .ok (.iload_n 2, 1) := by decide +kernel
theorem dL_sees_216 : decode cL_sees 216 = .ok (.iconst 1, 1) := by decide +kernel
theorem dL_sees_217 : decode cL_sees 217 = .ok (.invokevirtual 189, 3) := by decide +kernel
theorem dL_sees_220 : decode cL_sees 220 = .ok (.i2l, 1) := by decide +kernel
theorem dL_sees_221 : decode cL_sees 221 = .ok (.ladd, 1) := by decide +kernel
theorem dL_sees_222 : decode cL_sees 222 = .ok (.lastore, 1) := by decide +kernel
theorem dL_sees_223 : decode cL_sees 223 = .ok (.iinc 2 1, 3) := by decide +kernel
theorem dL_sees_226 : decode cL_sees 226 = .ok (.goto (-38), 3) := by decide +kernel
theorem dL_sees_229 : decode cL_sees 229 = .ok (.return_, 1) := by decide +kernel
set_option maxRecDepth 100000 in
set_option maxHeartbeats 4000000 in
theorem cL_seesc {l : Launch} {v0 : Option Nat} {v1 : Option Nat} {σ : HpT} {σ' : HpT} (h : fL_sees v0 v1 σ = some σ') : Ct l yL_sees cL_sees 5 none 8 137 [va_rf v0, va_rf v1] σ (.ok none) σ' 0 0 := by
  unfold fL_sees at h
  refine ct_start mi_L_sees.1 rfl (al_le (al_1 (rf_cat _) (al_1 (rf_cat _) al_n)) (Nat.le_of_ble_eq_true rfl)) (ag_1 (rf_cat _) (ag_1 (rf_cat _) ag_n)) (fun Δ Γ B hE hnm => ?_)
  refine g_aload_n B 1 dL_sees_0 rfl rfl ?_
  refine g_lconst (v := 0) B dL_sees_1 (by decide) ?_
  replace h := bnP_s h
  obtain ⟨s3, h2, h⟩ := h
  refine g_callSv0 (st := []) B (cJ7_fill_d0a16c h2) mi_J7_fill_d0a16 lk_RL_303 ⟨Nat.le_of_ble_eq_true rfl, Nat.le_of_ble_eq_true rfl⟩ rfl rfl (Nat.le_of_ble_eq_true rfl) dL_sees_2 (Nat.zero_le _) (Nat.zero_le _) ?_
  refine g_iconst (v := 0) B dL_sees_5 (by decide) ?_
  refine g_istore_n B dL_sees_6 rfl (Nat.le_of_ble_eq_true rfl) (s1_c (f1_k rfl (f1_1 rfl (rf_cat _) f1_n))) ?_
  replace h := bnS_s h
  obtain ⟨r5, s19, h6, h⟩ := h
  have kE7 : GW Δ Γ (0) (0) 28 [(0, va_rf v0), (1, va_rf v1)] [] s19 := by
    refine g_iconst (v := 1) B dL_sees_28 (by decide) ?_
    refine g_istore_n B dL_sees_29 rfl (Nat.le_of_ble_eq_true rfl) (s1_c (f1_k rfl (f1_1 rfl (rf_cat _) f1_n))) ?_
    replace h := bnS_s h
    obtain ⟨r21, s86, h22, h⟩ := h
    have kE23 : GW Δ Γ (0) (0) 156 [(0, va_rf v0), (1, va_rf v1)] [] s86 := by
      refine g_iconst (v := 0) B dL_sees_156 (by decide) ?_
      refine g_istore_n B dL_sees_157 rfl (Nat.le_of_ble_eq_true rfl) (s1_c (f1_k rfl (f1_1 rfl (rf_cat _) f1_n))) ?_
      replace h := bnS_s h
      obtain ⟨r88, s104, h89, h⟩ := h
      have kE90 : GW Δ Γ (0) (0) 186 [(0, va_rf v0), (1, va_rf v1)] [] s104 := by
        refine g_iconst (v := 0) B dL_sees_186 (by decide) ?_
        refine g_istore_n B dL_sees_187 rfl (Nat.le_of_ble_eq_true rfl) (s1_c (f1_k rfl (f1_1 rfl (rf_cat _) f1_n))) ?_
        replace h := bnS_s h
        obtain ⟨r106, s124, h107, h⟩ := h
        have kE108 : GW Δ Γ (0) (0) 229 [] [] s124 := by
          replace h := Option.some.inj h
          subst h
          exact g_vret B hE (Nat.zero_le _) (Nat.zero_le _) dL_sees_229
        clear h
        refine g_sub [1, 2, 0] rfl ?_
        refine lpS_w (I := fun q105 s114 => GW Δ Γ (0) (0) 188 [(0, va_rf v0), (1, va_rf v1), (2, .int q105)] [] s114) (r := r106) (σr := s124) ?_ FUEL 0 s104 h107
        intro q105 s114 x112 s9 h hI110 hR111
        unfold fL_sees_l7 at h
        refine g_iload_n B 2 dL_sees_188 rfl rfl ?_
        refine g_aload_n B 0 dL_sees_189 rfl rfl ?_
        refine g_bipush (v := 8) B dL_sees_190 (by decide) ?_
        replace h := bnP_s h
        obtain ⟨x115, h116x, h⟩ := h
        have h116 := exO_s h116x
        refine g_callVs0 (st := [.int q105]) B (cX9_countc (o := .ok x115) h116) (Nat.le_of_ble_eq_true rfl) rfl rfl mi_X9_count lk_RL_206 ⟨Nat.le_of_ble_eq_true rfl, Nat.le_of_ble_eq_true rfl⟩ rfl rfl (Nat.le_of_ble_eq_true rfl) dL_sees_192 (Nat.zero_le _) (Nat.zero_le _) ?_
        refine g_icmp_ge B 229 dL_sees_195 (by decide) (fun hc => ?_) (fun hc => ?_)
        · replace h := ifp hc h
          obtain ⟨w1, w2⟩ := inS h
          clear h
          subst w1
          subst w2
          obtain ⟨e8, e7⟩ := hR111 _ rfl
          subst e8
          subst e7
          exact g_sub [] rfl kE108
        · replace h := ifn hc h
          refine g_aload_n B 1 dL_sees_198 rfl rfl ?_
          refine g_bipush (v := 85) B dL_sees_199 (by decide) ?_
          refine g_iload_n B 2 dL_sees_201 rfl rfl ?_
          refine g_iadd B dL_sees_202 ?_
          refine g_ldc2 (v := 10) B cj_RL_309 dL_sees_203 ?_
          refine g_aload_n B 0 dL_sees_206 rfl rfl ?_
          refine g_iload_n B 2 dL_sees_207 rfl rfl ?_
          refine g_iconst (v := 0) B dL_sees_208 (by decide) ?_
          replace h := bnP_s h
          obtain ⟨x117, h118x, h⟩ := h
          have h118 := exO_s h118x
          refine g_callVs0 (st := [.long 10, .int (85 + q105), va_rf v1]) B (cX9_copyc (o := .ok x117) h118) (Nat.le_of_ble_eq_true rfl) rfl rfl mi_X9_copy lk_RL_189 ⟨Nat.le_of_ble_eq_true rfl, Nat.le_of_ble_eq_true rfl⟩ rfl rfl (Nat.le_of_ble_eq_true rfl) dL_sees_209 (Nat.zero_le _) (Nat.zero_le _) ?_
          refine g_i2l B dL_sees_212 ?_
          refine g_lmul B dL_sees_213 ?_
          refine g_aload_n B 0 dL_sees_214 rfl rfl ?_
          refine g_iload_n B 2 dL_sees_215 rfl rfl ?_
          refine g_iconst (v := 1) B dL_sees_216 (by decide) ?_
          replace h := bnP_s h
          obtain ⟨x119, h120x, h⟩ := h
          have h120 := exO_s h120x
          refine g_callVs0 (st := [.long (10 * (x117).toInt64), .int (85 + q105), va_rf v1]) B (cX9_copyc (o := .ok x119) h120) (Nat.le_of_ble_eq_true rfl) rfl rfl mi_X9_copy lk_RL_189 ⟨Nat.le_of_ble_eq_true rfl, Nat.le_of_ble_eq_true rfl⟩ rfl rfl (Nat.le_of_ble_eq_true rfl) dL_sees_217 (Nat.zero_le _) (Nat.zero_le _) ?_
          refine g_i2l B dL_sees_220 ?_
          refine g_ladd B dL_sees_221 ?_
          replace h := bnP_s h
          obtain ⟨s123, h122, h⟩ := h
          refine g_last B dL_sees_222 h122 ?_
          refine g_iinc (v := (q105 + 1)) B 2 dL_sees_223 rfl (by first | rfl | (congr 1; decide)) (Nat.le_of_ble_eq_true rfl) (s1_c (f1_k rfl (f1_1 rfl (rf_cat _) (f1_x f1_n)))) ?_
          refine g_goto B 188 dL_sees_226 (by decide) ?_
          obtain ⟨w1, w2⟩ := inS h
          clear h
          subst w1
          subst w2
          exact g_sub [1, 2, 0] rfl (hI110 _ rfl)
      clear h
      refine g_sub [1, 2, 0] rfl ?_
      refine lpS_w (I := fun q87 s96 => GW Δ Γ (0) (0) 158 [(0, va_rf v0), (1, va_rf v1), (2, .int q87)] [] s96) (r := r88) (σr := s104) ?_ FUEL 0 s86 h89
      intro q87 s96 x94 s9 h hI92 hR93
      unfold fL_sees_l6 at h
      refine g_iload_n B 2 dL_sees_158 rfl rfl ?_
      refine g_aload_n B 0 dL_sees_159 rfl rfl ?_
      refine g_iconst (v := 5) B dL_sees_160 (by decide) ?_
      replace h := bnP_s h
      obtain ⟨x97, h98x, h⟩ := h
      have h98 := exO_s h98x
      refine g_callVs0 (st := [.int q87]) B (cX9_countc (o := .ok x97) h98) (Nat.le_of_ble_eq_true rfl) rfl rfl mi_X9_count lk_RL_206 ⟨Nat.le_of_ble_eq_true rfl, Nat.le_of_ble_eq_true rfl⟩ rfl rfl (Nat.le_of_ble_eq_true rfl) dL_sees_161 (Nat.zero_le _) (Nat.zero_le _) ?_
      refine g_icmp_ge B 186 dL_sees_164 (by decide) (fun hc => ?_) (fun hc => ?_)
      · replace h := ifp hc h
        obtain ⟨w1, w2⟩ := inS h
        clear h
        subst w1
        subst w2
        obtain ⟨e8, e7⟩ := hR93 _ rfl
        subst e8
        subst e7
        exact g_sub [0, 1] rfl kE90
      · replace h := ifn hc h
        refine g_aload_n B 1 dL_sees_167 rfl rfl ?_
        refine g_bipush (v := 70) B dL_sees_168 (by decide) ?_
        refine g_iload_n B 2 dL_sees_170 rfl rfl ?_
        refine g_iadd B dL_sees_171 ?_
        refine g_aload_n B 0 dL_sees_172 rfl rfl ?_
        refine g_iload_n B 2 dL_sees_173 rfl rfl ?_
        refine g_iconst (v := 0) B dL_sees_174 (by decide) ?_
        replace h := bnP_s h
        obtain ⟨x99, h100x, h⟩ := h
        have h100 := exO_s h100x
        refine g_callVs0 (st := [.int (70 + q87), va_rf v1]) B (cX9_leafc (o := .ok x99) h100) (Nat.le_of_ble_eq_true rfl) rfl rfl mi_X9_leaf lk_RL_180 ⟨Nat.le_of_ble_eq_true rfl, Nat.le_of_ble_eq_true rfl⟩ rfl rfl (Nat.le_of_ble_eq_true rfl) dL_sees_175 (Nat.zero_le _) (Nat.zero_le _) ?_
        refine g_i2l B dL_sees_178 ?_
        replace h := bnP_s h
        obtain ⟨s103, h102, h⟩ := h
        refine g_last B dL_sees_179 h102 ?_
        refine g_iinc (v := (q87 + 1)) B 2 dL_sees_180 rfl (by first | rfl | (congr 1; decide)) (Nat.le_of_ble_eq_true rfl) (s1_c (f1_k rfl (f1_1 rfl (rf_cat _) (f1_x f1_n)))) ?_
        refine g_goto B 158 dL_sees_183 (by decide) ?_
        obtain ⟨w1, w2⟩ := inS h
        clear h
        subst w1
        subst w2
        exact g_sub [1, 2, 0] rfl (hI92 _ rfl)
    clear h
    refine g_sub [1, 2, 0] rfl ?_
    refine lpS_w (I := fun q20 s29 => GW Δ Γ (0) (0) 30 [(0, va_rf v0), (1, va_rf v1), (2, .int q20)] [] s29) (r := r21) (σr := s86) ?_ FUEL 1 s19 h22
    intro q20 s29 x27 s9 h hI25 hR26
    unfold fL_sees_l2 at h
    refine g_iload_n B 2 dL_sees_30 rfl rfl ?_
    refine g_aload_n B 0 dL_sees_31 rfl rfl ?_
    refine g_iconst (v := 3) B dL_sees_32 (by decide) ?_
    replace h := bnP_s h
    obtain ⟨x30, h31x, h⟩ := h
    have h31 := exO_s h31x
    refine g_callVs0 (st := [.int q20]) B (cX9_countc (o := .ok x30) h31) (Nat.le_of_ble_eq_true rfl) rfl rfl mi_X9_count lk_RL_206 ⟨Nat.le_of_ble_eq_true rfl, Nat.le_of_ble_eq_true rfl⟩ rfl rfl (Nat.le_of_ble_eq_true rfl) dL_sees_33 (Nat.zero_le _) (Nat.zero_le _) ?_
    refine g_icmp_gt B 156 dL_sees_36 (by decide) (fun hc => ?_) (fun hc => ?_)
    · replace h := ifp hc h
      obtain ⟨w1, w2⟩ := inS h
      clear h
      subst w1
      subst w2
      obtain ⟨e8, e7⟩ := hR26 _ rfl
      subst e8
      subst e7
      exact g_sub [0, 1] rfl kE23
    · replace h := ifn hc h
      refine g_aload_n B 1 dL_sees_39 rfl rfl ?_
      refine g_bipush (v := 20) B dL_sees_40 (by decide) ?_
      refine g_iload_n B 2 dL_sees_42 rfl rfl ?_
      refine g_iadd B dL_sees_43 ?_
      refine g_aload_n B 0 dL_sees_44 rfl rfl ?_
      refine g_iload_n B 2 dL_sees_45 rfl rfl ?_
      refine g_iconst (v := 3) B dL_sees_46 (by decide) ?_
      replace h := bnP_s h
      obtain ⟨x32, h33x, h⟩ := h
      have h33 := exO_s h33x
      refine g_callVs0 (st := [.int (20 + q20), va_rf v1]) B (cX9_actc (o := .ok x32) h33) (Nat.le_of_ble_eq_true rfl) rfl rfl mi_X9_act lk_RL_152 ⟨Nat.le_of_ble_eq_true rfl, Nat.le_of_ble_eq_true rfl⟩ rfl rfl (Nat.le_of_ble_eq_true rfl) dL_sees_47 (Nat.zero_le _) (Nat.zero_le _) ?_
      refine g_i2l B dL_sees_50 ?_
      replace h := bnP_s h
      obtain ⟨s36, h35, h⟩ := h
      refine g_last B dL_sees_51 h35 ?_
      refine g_iconst (v := 0) B dL_sees_52 (by decide) ?_
      refine g_istore_n B dL_sees_53 rfl (Nat.le_of_ble_eq_true rfl) (s1_c (f1_k rfl (f1_k rfl (f1_1 rfl rfl f1_n)))) ?_
      replace h := bnS_s h
      obtain ⟨r38, s54, h39, h⟩ := h
      have kE40 : GW Δ Γ (0) (0) 90 [(0, va_rf v0), (1, va_rf v1), (2, .int q20)] [] s54 := by
        refine g_iconst (v := 0) B dL_sees_90 (by decide) ?_
        refine g_istore_n B dL_sees_91 rfl (Nat.le_of_ble_eq_true rfl) (s1_c (f1_k rfl (f1_k rfl (f1_1 rfl rfl f1_n)))) ?_
        replace h := bnS_s h
        obtain ⟨r56, s85, h57, h⟩ := h
        have kE58 : GW Δ Γ (0) (0) 150 [(0, va_rf v0), (1, va_rf v1), (2, .int q20)] [] s85 := by
          refine g_iinc (v := (q20 + 1)) B 2 dL_sees_150 rfl (by first | rfl | (congr 1; decide)) (Nat.le_of_ble_eq_true rfl) (s1_c (f1_k rfl (f1_1 rfl (rf_cat _) (f1_x f1_n)))) ?_
          refine g_goto B 30 dL_sees_153 (by decide) ?_
          obtain ⟨w1, w2⟩ := inS h
          clear h
          subst w1
          subst w2
          exact g_sub [1, 2, 0] rfl (hI25 _ rfl)
        clear h
        refine g_sub [1, 2, 3, 0] rfl ?_
        refine lpS_w (I := fun q55 s64 => GW Δ Γ (0) (0) 92 [(0, va_rf v0), (1, va_rf v1), (2, .int q20), (3, .int q55)] [] s64) (r := r56) (σr := s85) ?_ FUEL 0 s54 h57
        intro q55 s64 x62 s9 h hI60 hR61
        unfold fL_sees_l4 at h
        refine g_iload_n B 3 dL_sees_92 rfl rfl ?_
        refine g_aload_n B 0 dL_sees_93 rfl rfl ?_
        refine g_iload_n B 2 dL_sees_94 rfl rfl ?_
        refine g_iconst (v := 4) B dL_sees_95 (by decide) ?_
        replace h := bnP_s h
        obtain ⟨x65, h66x, h⟩ := h
        have h66 := exO_s h66x
        refine g_callVs0 (st := [.int q55]) B (cX9_actc (o := .ok x65) h66) (Nat.le_of_ble_eq_true rfl) rfl rfl mi_X9_act lk_RL_152 ⟨Nat.le_of_ble_eq_true rfl, Nat.le_of_ble_eq_true rfl⟩ rfl rfl (Nat.le_of_ble_eq_true rfl) dL_sees_96 (Nat.zero_le _) (Nat.zero_le _) ?_
        refine g_icmp_ge B 150 dL_sees_99 (by decide) (fun hc => ?_) (fun hc => ?_)
        · replace h := ifp hc h
          obtain ⟨w1, w2⟩ := inS h
          clear h
          subst w1
          subst w2
          obtain ⟨e8, e7⟩ := hR61 _ rfl
          subst e8
          subst e7
          exact g_sub [0, 1, 2] rfl kE58
        · replace h := ifn hc h
          refine g_iconst (v := 0) B dL_sees_102 (by decide) ?_
          refine g_istore B dL_sees_103 (Nat.le_of_ble_eq_true rfl) (s1_c (f1_k rfl (f1_k rfl (f1_k rfl (f1_1 rfl rfl f1_n))))) ?_
          replace h := bnS_s h
          obtain ⟨r68, s84, h69, h⟩ := h
          have kE70 : GW Δ Γ (0) (0) 144 [(0, va_rf v0), (1, va_rf v1), (2, .int q20), (3, .int q55)] [] s84 := by
            refine g_iinc (v := (q55 + 1)) B 3 dL_sees_144 rfl (by first | rfl | (congr 1; decide)) (Nat.le_of_ble_eq_true rfl) (s1_c (f1_k rfl (f1_k rfl (f1_1 rfl rfl (f1_x f1_n))))) ?_
            refine g_goto B 92 dL_sees_147 (by decide) ?_
            obtain ⟨w1, w2⟩ := inS h
            clear h
            subst w1
            subst w2
            exact g_sub [1, 2, 3, 0] rfl (hI60 _ rfl)
          clear h
          refine g_sub [1, 2, 3, 4, 0] rfl ?_
          refine lpS_w (I := fun q67 s76 => GW Δ Γ (0) (0) 105 [(0, va_rf v0), (1, va_rf v1), (2, .int q20), (3, .int q55), (4, .int q67)] [] s76) (r := r68) (σr := s84) ?_ FUEL 0 s64 h69
          intro q67 s76 x74 s9 h hI72 hR73
          unfold fL_sees_l5 at h
          refine g_iload B 4 dL_sees_105 rfl ?_
          refine g_bipush (v := 8) B dL_sees_107 (by decide) ?_
          refine g_icmp_ge B 144 dL_sees_109 (by decide) (fun hc => ?_) (fun hc => ?_)
          · replace h := ifp hc h
            obtain ⟨w1, w2⟩ := inS h
            clear h
            subst w1
            subst w2
            obtain ⟨e8, e7⟩ := hR73 _ rfl
            subst e8
            subst e7
            exact g_sub [0, 1, 2, 3] rfl kE70
          · replace h := ifn hc h
            refine g_aload_n B 1 dL_sees_112 rfl rfl ?_
            refine g_bipush (v := 55) B dL_sees_113 (by decide) ?_
            refine g_iload_n B 2 dL_sees_115 rfl rfl ?_
            refine g_iadd B dL_sees_116 ?_
            refine g_ldc2 (v := 31) B cj_RL_307 dL_sees_117 ?_
            refine g_aload_n B 1 dL_sees_120 rfl rfl ?_
            refine g_bipush (v := 55) B dL_sees_121 (by decide) ?_
            refine g_iload_n B 2 dL_sees_123 rfl rfl ?_
            refine g_iadd B dL_sees_124 ?_
            replace h := bnP_s h
            obtain ⟨x77, h78, h⟩ := h
            refine g_lald B dL_sees_125 h78 ?_
            refine g_lmul B dL_sees_126 ?_
            refine g_aload_n B 0 dL_sees_127 rfl rfl ?_
            refine g_iload_n B 2 dL_sees_128 rfl rfl ?_
            refine g_iload_n B 3 dL_sees_129 rfl rfl ?_
            refine g_iload B 4 dL_sees_130 rfl ?_
            replace h := bnP_s h
            obtain ⟨x79, h80x, h⟩ := h
            have h80 := exO_s h80x
            refine g_callVs0 (st := [.long (31 * x77), .int (55 + q20), va_rf v1]) B (cX9_wordc (o := .ok x79) h80) (Nat.le_of_ble_eq_true rfl) rfl rfl mi_X9_word lk_RL_156 ⟨Nat.le_of_ble_eq_true rfl, Nat.le_of_ble_eq_true rfl⟩ rfl rfl (Nat.le_of_ble_eq_true rfl) dL_sees_132 (Nat.zero_le _) (Nat.zero_le _) ?_
            refine g_i2l B dL_sees_135 ?_
            refine g_ladd B dL_sees_136 ?_
            replace h := bnP_s h
            obtain ⟨s83, h82, h⟩ := h
            refine g_last B dL_sees_137 h82 ?_
            refine g_iinc (v := (q67 + 1)) B 4 dL_sees_138 rfl (by first | rfl | (congr 1; decide)) (Nat.le_of_ble_eq_true rfl) (s1_c (f1_k rfl (f1_k rfl (f1_k rfl (f1_1 rfl rfl (f1_x f1_n)))))) ?_
            refine g_goto B 105 dL_sees_141 (by decide) ?_
            obtain ⟨w1, w2⟩ := inS h
            clear h
            subst w1
            subst w2
            exact g_sub [1, 2, 3, 4, 0] rfl (hI72 _ rfl)
      clear h
      refine g_sub [1, 2, 3, 0] rfl ?_
      refine lpS_w (I := fun q37 s46 => GW Δ Γ (0) (0) 54 [(0, va_rf v0), (1, va_rf v1), (2, .int q20), (3, .int q37)] [] s46) (r := r38) (σr := s54) ?_ FUEL 0 s36 h39
      intro q37 s46 x44 s9 h hI42 hR43
      unfold fL_sees_l3 at h
      refine g_iload_n B 3 dL_sees_54 rfl rfl ?_
      refine g_bipush (v := 12) B dL_sees_55 (by decide) ?_
      refine g_icmp_ge B 90 dL_sees_57 (by decide) (fun hc => ?_) (fun hc => ?_)
      · replace h := ifp hc h
        obtain ⟨w1, w2⟩ := inS h
        clear h
        subst w1
        subst w2
        obtain ⟨e8, e7⟩ := hR43 _ rfl
        subst e8
        subst e7
        exact g_sub [0, 1, 2] rfl kE40
      · replace h := ifn hc h
        refine g_aload_n B 1 dL_sees_60 rfl rfl ?_
        refine g_bipush (v := 40) B dL_sees_61 (by decide) ?_
        refine g_iload_n B 2 dL_sees_63 rfl rfl ?_
        refine g_iadd B dL_sees_64 ?_
        refine g_ldc2 (v := 31) B cj_RL_307 dL_sees_65 ?_
        refine g_aload_n B 1 dL_sees_68 rfl rfl ?_
        refine g_bipush (v := 40) B dL_sees_69 (by decide) ?_
        refine g_iload_n B 2 dL_sees_71 rfl rfl ?_
        refine g_iadd B dL_sees_72 ?_
        replace h := bnP_s h
        obtain ⟨x47, h48, h⟩ := h
        refine g_lald B dL_sees_73 h48 ?_
        refine g_lmul B dL_sees_74 ?_
        refine g_aload_n B 0 dL_sees_75 rfl rfl ?_
        refine g_iload_n B 2 dL_sees_76 rfl rfl ?_
        refine g_iload_n B 3 dL_sees_77 rfl rfl ?_
        replace h := bnP_s h
        obtain ⟨x49, h50x, h⟩ := h
        have h50 := exO_s h50x
        refine g_callVs0 (st := [.long (31 * x47), .int (40 + q20), va_rf v1]) B (cX9_actc (o := .ok x49) h50) (Nat.le_of_ble_eq_true rfl) rfl rfl mi_X9_act lk_RL_152 ⟨Nat.le_of_ble_eq_true rfl, Nat.le_of_ble_eq_true rfl⟩ rfl rfl (Nat.le_of_ble_eq_true rfl) dL_sees_78 (Nat.zero_le _) (Nat.zero_le _) ?_
        refine g_i2l B dL_sees_81 ?_
        refine g_ladd B dL_sees_82 ?_
        replace h := bnP_s h
        obtain ⟨s53, h52, h⟩ := h
        refine g_last B dL_sees_83 h52 ?_
        refine g_iinc (v := (q37 + 1)) B 3 dL_sees_84 rfl (by first | rfl | (congr 1; decide)) (Nat.le_of_ble_eq_true rfl) (s1_c (f1_k rfl (f1_k rfl (f1_1 rfl rfl (f1_x f1_n))))) ?_
        refine g_goto B 54 dL_sees_87 (by decide) ?_
        obtain ⟨w1, w2⟩ := inS h
        clear h
        subst w1
        subst w2
        exact g_sub [1, 2, 3, 0] rfl (hI42 _ rfl)
  clear h
  refine g_sub [1, 2, 0] rfl ?_
  refine lpS_w (I := fun q4 s13 => GW Δ Γ (0) (0) 7 [(0, va_rf v0), (1, va_rf v1), (2, .int q4)] [] s13) (r := r5) (σr := s19) ?_ FUEL 0 s3 h6
  intro q4 s13 x11 s9 h hI9 hR10
  unfold fL_sees_l1 at h
  refine g_iload_n B 2 dL_sees_7 rfl rfl ?_
  refine g_bipush (v := 16) B dL_sees_8 (by decide) ?_
  refine g_icmp_ge B 28 dL_sees_10 (by decide) (fun hc => ?_) (fun hc => ?_)
  · replace h := ifp hc h
    obtain ⟨w1, w2⟩ := inS h
    clear h
    subst w1
    subst w2
    obtain ⟨e8, e7⟩ := hR10 _ rfl
    subst e8
    subst e7
    exact g_sub [0, 1] rfl kE7
  · replace h := ifn hc h
    refine g_aload_n B 1 dL_sees_13 rfl rfl ?_
    refine g_iload_n B 2 dL_sees_14 rfl rfl ?_
    refine g_aload_n B 0 dL_sees_15 rfl rfl ?_
    refine g_iload_n B 2 dL_sees_16 rfl rfl ?_
    replace h := bnP_s h
    obtain ⟨x14, h15x, h⟩ := h
    have h15 := exO_s h15x
    refine g_callVs0 (st := [.int q4, va_rf v1]) B (cX9_countc (o := .ok x14) h15) (Nat.le_of_ble_eq_true rfl) rfl rfl mi_X9_count lk_RL_206 ⟨Nat.le_of_ble_eq_true rfl, Nat.le_of_ble_eq_true rfl⟩ rfl rfl (Nat.le_of_ble_eq_true rfl) dL_sees_17 (Nat.zero_le _) (Nat.zero_le _) ?_
    refine g_i2l B dL_sees_20 ?_
    replace h := bnP_s h
    obtain ⟨s18, h17, h⟩ := h
    refine g_last B dL_sees_21 h17 ?_
    refine g_iinc (v := (q4 + 1)) B 2 dL_sees_22 rfl (by first | rfl | (congr 1; decide)) (Nat.le_of_ble_eq_true rfl) (s1_c (f1_k rfl (f1_1 rfl (rf_cat _) (f1_x f1_n)))) ?_
    refine g_goto B 7 dL_sees_25 (by decide) ?_
    obtain ⟨w1, w2⟩ := inS h
    clear h
    subst w1
    subst w2
    exact g_sub [1, 2, 0] rfl (hI9 _ rfl)
