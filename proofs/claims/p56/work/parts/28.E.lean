def fJx9a822_getLongUnaligned_f02c6 (v0 : Option Nat) (v1 : Option Nat) (v2 : Int64) (σ : HpT) : Option (Int64) := bnP (isK σ v0 16) (fun _ => (if (lg_cmp (v2 &&& 7) 0) = 0 then bnP (gL σ v1 v2) (fun x1 => some x1) else (if (lg_cmp (v2 &&& 3) 0) = 0 then none else (if (lg_cmp (v2 &&& 1) 0) = 0 then none else none))))
def fJ8_vectorizedMismatch_456ae_l1 (c0 : Option Nat) (c1 : Int64) (c3 : Option Nat) (c4 : Int64) (c6 : Int32) (c7 : Int32) (c8 : Int32) (s10 : HpT) (q1 : Int32) : Option ((Int32) ⊕ ((Int32) ⊕ (Int32))) := (if (c6 >>> (c8 &&& 31)) ≤ q1 then some (.inr (.inl q1)) else bnP (fJx9a822_getLongUnaligned_f02c6 (some (BIG + 205)) c0 (c1 + ((q1).toInt64 <<< ((3).toInt64 &&& 63))) s10) (fun x11 => bnP (fJx9a822_getLongUnaligned_f02c6 (some (BIG + 205)) c3 (c4 + ((q1).toInt64 <<< ((3).toInt64 &&& 63))) s10) (fun x13 => (if (lg_cmp x11 x13) = 0 then some (.inl (q1 + 1)) else none))))
def fJ8_vectorizedMismatch_456ae (v0 : Option Nat) (v1 : Int64) (v3 : Option Nat) (v4 : Int64) (v6 : Int32) (v7 : Int32) (σ : HpT) : Option (Int32) := bnP (lpP (fJ8_vectorizedMismatch_456ae_l1 v0 v1 v3 v4 v6 v7 (3 - v7) σ) FUEL 0) (fun r2 => match r2 with | .inl y15 => (if 2 ≤ v7 then some ((v6 - (y15 <<< ((3 - v7) &&& 31))) ^^^ (-1)) else (if (v6 - (y15 <<< ((3 - v7) &&& 31))) < (1 <<< ((2 - v7) &&& 31)) then some ((v6 - (y15 <<< ((3 - v7) &&& 31))) ^^^ (-1)) else none)) | .inr v16 => some v16)
def fJ8_mismatch_974f6 (v0 : Option Nat) (v1 : Option Nat) (v2 : Int32) (σ : HpT) : Option (Int32) := (if v2 = 0 then some (-1) else bnP (aJ σ v0 0) (fun x1 => bnP (aJ σ v1 0) (fun x3 => (if (lg_cmp x1 x3) = 0 then bnP (fJ8_vectorizedMismatch_456ae v0 ((16).toInt64) v1 ((16).toInt64) v2 3 σ) (fun x5 => (if x5 < 0 then some (-1) else some x5)) else some 0))))
def fJ7_equals_331f6 (v0 : Option Nat) (v1 : Option Nat) (σ : HpT) : Option (Bool) := bnP (diffR σ v0 v1) (fun u1 => (if v0 = none then some false else (if v1 = none then some false else bnP (aL σ v0 21) (fun x3 => bnP (aL σ v1 21) (fun x5 => (if x5 = x3 then bnP (fJ8_mismatch_974f6 v0 v1 x3 σ) (fun x7 => (if 0 ≤ x7 then some false else some true)) else some false))))))
theorem mi_J7_equals_331f6 : MI yJ7_equals_331f6 cJ7_equals_331f6 3 (some .boolean) 2 := ⟨by decide +kernel, (mw (i := 1781) (by decide +kernel) rfl), (mw (i := 57) (by decide +kernel) rfl), by decide +kernel, by decide +kernel⟩
theorem mi_J8_mismatch_974f6 : MI yJ8_mismatch_974f6 cJ8_mismatch_974f6 4 (some .int) 3 := ⟨by decide +kernel, (mw (i := 1784) (by decide +kernel) rfl), (mw (i := 55) (by decide +kernel) rfl), by decide +kernel, by decide +kernel⟩
theorem mi_J8_vectorizedMismatch_456ae : MI yJ8_vectorizedMismatch_456ae cJ8_vectorizedMismatch_456ae 19 (some .int) 6 := ⟨by decide +kernel, (mw (i := 1791) (by decide +kernel) rfl), (mw (i := 55) (by decide +kernel) rfl), by decide +kernel, by decide +kernel⟩
theorem mi_Jx9a822_getLongUnaligned_f02c6 : MIF yJx9a822_getLongUnaligned_f02c6 cJx9a822_getLongUnaligned_f02c6 4 (some .long) 2 := ⟨by decide +kernel, (mw (i := 1797) (by decide +kernel) rfl), (mw (i := 72) (by decide +kernel) rfl), by decide +kernel, by decide +kernel⟩
theorem cj_RJx9a822_349 : Cond.constantLong RJx9a822 349 3 ∈ ALLw := (mw (i := 1803) (by decide +kernel) rfl)
theorem cj_RJx9a822_696 : Cond.constantLong RJx9a822 696 7 ∈ ALLw := (mw (i := 1798) (by decide +kernel) rfl)
theorem gl_RJx9a822_27 : GLW RJx9a822 27 := ⟨(mw (i := 1799) (by decide +kernel) rfl), (mw (i := 1800) (by decide +kernel) rfl), (mw (i := 1801) (by decide +kernel) rfl), (mw (i := 1802) (by decide +kernel) rfl)⟩
theorem lk_RJ7_245 : LSt RJ7 245 yJ8_mismatch_974f6 := ⟨(mw (i := 1782) (by decide +kernel) rfl), (mw (i := 1783) (by decide +kernel) rfl)⟩
theorem lk_RJ8_30 : LV RJ8 30 yJx9a822_getLongUnaligned_f02c6 := ⟨(mw (i := 1794) (by decide +kernel) rfl), (mw (i := 1795) (by decide +kernel) rfl), (mw (i := 1796) (by decide +kernel) rfl)⟩
theorem lk_RJ8_122 : LSt RJ8 122 yJ8_vectorizedMismatch_456ae := ⟨(mw (i := 1789) (by decide +kernel) rfl), (mw (i := 1790) (by decide +kernel) rfl)⟩
theorem sv_RJ8_170 : Cond.fieldLink RJ8 170 "jdk/internal/misc/Unsafe" "ARRAY_LONG_BASE_OFFSET" "I" ∈ ALLw := mw (i := 1785) (by decide +kernel) rfl
theorem sv_RJ8_20 : Cond.fieldLink RJ8 20 "jdk/internal/util/ArraysSupport" "LOG2_ARRAY_LONG_INDEX_SCALE" "I" ∈ ALLw := mw (i := 1787) (by decide +kernel) rfl
theorem sv_RJ8_26 : Cond.fieldLink RJ8 26 "jdk/internal/util/ArraysSupport" "U" "Ljdk/internal/misc/Unsafe;" ∈ ALLw := mw (i := 1792) (by decide +kernel) rfl
theorem sv_RJ8_51 : Cond.fieldLink RJ8 51 "jdk/internal/util/ArraysSupport" "LOG2_ARRAY_INT_INDEX_SCALE" "I" ∈ ALLw := mw (i := 1863) (by decide +kernel) rfl
theorem dJx9a822_getLongUnaligned_f02c6_0 : decode cJx9a822_getLongUnaligned_f02c6 0 = .ok (.lload_n 2, 1) := by decide +kernel
theorem dJx9a822_getLongUnaligned_f02c6_1 : decode cJx9a822_getLongUnaligned_f02c6 1 = .ok (.ldc2_w 696, 3) := by decide +kernel
theorem dJx9a822_getLongUnaligned_f02c6_4 : decode cJx9a822_getLongUnaligned_f02c6 4 = .ok (.land, 1) := by decide +kernel
theorem dJx9a822_getLongUnaligned_f02c6_5 : decode cJx9a822_getLongUnaligned_f02c6 5 = .ok (.lconst 0, 1) := by decide +kernel
theorem dJx9a822_getLongUnaligned_f02c6_6 : decode cJx9a822_getLongUnaligned_f02c6 6 = .ok (.lcmp, 1) := by decide +kernel
theorem dJx9a822_getLongUnaligned_f02c6_7 : decode cJx9a822_getLongUnaligned_f02c6 7 = .ok (.ifCond .ne 10, 3) := by decide +kernel
theorem dJx9a822_getLongUnaligned_f02c6_10 : decode cJx9a822_getLongUnaligned_f02c6 10 = .ok (.aload_n 0, 1) := by decide +kernel
theorem dJx9a822_getLongUnaligned_f02c6_11 : decode cJx9a822_getLongUnaligned_f02c6 11 = .ok (.aload_n 1, 1) := by decide +kernel
theorem dJx9a822_getLongUnaligned_f02c6_12 : decode cJx9a822_getLongUnaligned_f02c6 12 = .ok (.lload_n 2, 1) := by decide +kernel
theorem dJx9a822_getLongUnaligned_f02c6_13 : decode cJx9a822_getLongUnaligned_f02c6 13 = .ok (.invokevirtual 27, 3) := by decide +kernel
theorem dJx9a822_getLongUnaligned_f02c6_16 : decode cJx9a822_getLongUnaligned_f02c6 16 = .ok (.lreturn, 1) := by decide +kernel
theorem dJx9a822_getLongUnaligned_f02c6_17 : decode cJx9a822_getLongUnaligned_f02c6 17 = .ok (.lload_n 2, 1) := by decide +kernel
theorem dJx9a822_getLongUnaligned_f02c6_18 : decode cJx9a822_getLongUnaligned_f02c6 18 = .ok (.ldc2_w 349, 3) := by decide +kernel
theorem dJx9a822_getLongUnaligned_f02c6_21 : decode cJx9a822_getLongUnaligned_f02c6 21 = .ok (.land, 1) := by decide +kernel
theorem dJx9a822_getLongUnaligned_f02c6_22 : decode cJx9a822_getLongUnaligned_f02c6 22 = .ok (.lconst 0, 1) := by decide +kernel
theorem dJx9a822_getLongUnaligned_f02c6_23 : decode cJx9a822_getLongUnaligned_f02c6 23 = .ok (.lcmp, 1) := by decide +kernel
theorem dJx9a822_getLongUnaligned_f02c6_24 : decode cJx9a822_getLongUnaligned_f02c6 24 = .ok (.ifCond .ne 23, 3) := by decide +kernel
theorem dJx9a822_getLongUnaligned_f02c6_27 : decode cJx9a822_getLongUnaligned_f02c6 27 = .ok (.aload_n 0, 1) := by decide +kernel
theorem dJx9a822_getLongUnaligned_f02c6_28 : decode cJx9a822_getLongUnaligned_f02c6 28 = .ok (.aload_n 1, 1) := by decide +kernel
theorem dJx9a822_getLongUnaligned_f02c6_29 : decode cJx9a822_getLongUnaligned_f02c6 29 = .ok (.lload_n 2, 1) := by decide +kernel
theorem dJx9a822_getLongUnaligned_f02c6_47 : decode cJx9a822_getLongUnaligned_f02c6 47 = .ok (.lload_n 2, 1) := by decide +kernel
theorem dJx9a822_getLongUnaligned_f02c6_48 : decode cJx9a822_getLongUnaligned_f02c6 48 = .ok (.lconst 1, 1) := by decide +kernel
theorem dJx9a822_getLongUnaligned_f02c6_49 : decode cJx9a822_getLongUnaligned_f02c6 49 = .ok (.land, 1) := by decide +kernel
theorem dJx9a822_getLongUnaligned_f02c6_50 : decode cJx9a822_getLongUnaligned_f02c6 50 = .ok (.lconst 0, 1) := by decide +kernel
theorem dJx9a822_getLongUnaligned_f02c6_51 : decode cJx9a822_getLongUnaligned_f02c6 51 = .ok (.lcmp, 1) := by decide +kernel
theorem dJx9a822_getLongUnaligned_f02c6_52 : decode cJx9a822_getLongUnaligned_f02c6 52 = .ok (.ifCond .ne 43, 3) := by decide +kernel
theorem dJx9a822_getLongUnaligned_f02c6_55 : decode cJx9a822_getLongUnaligned_f02c6 55 = .ok (.aload_n 0, 1) := by decide +kernel
theorem dJx9a822_getLongUnaligned_f02c6_56 : decode cJx9a822_getLongUnaligned_f02c6 56 = .ok (.aload_n 1, 1) := by decide +kernel
theorem dJx9a822_getLongUnaligned_f02c6_57 : decode cJx9a822_getLongUnaligned_f02c6 57 = .ok (.lload_n 2, 1) := by decide +kernel
theorem dJx9a822_getLongUnaligned_f02c6_95 : decode cJx9a822_getLongUnaligned_f02c6 95 = .ok (.aload_n 0, 1) := by decide +kernel
theorem dJx9a822_getLongUnaligned_f02c6_96 : decode cJx9a822_getLongUnaligned_f02c6 96 = .ok (.aload_n 1, 1) := by decide +kernel
theorem dJx9a822_getLongUnaligned_f02c6_97 : decode cJx9a822_getLongUnaligned_f02c6 97 = .ok (.lload_n 2, 1) := by decide +kernel
theorem dJ8_vectorizedMismatch_456ae_0 : decode cJ8_vectorizedMismatch_456ae 0 = .ok (.getstatic 20, 3) := by decide +kernel
theorem dJ8_vectorizedMismatch_456ae_3 : decode cJ8_vectorizedMismatch_456ae 3 = .ok (.iload 7, 2) := by decide +kernel
theorem dJ8_vectorizedMismatch_456ae_5 : decode cJ8_vectorizedMismatch_456ae 5 = .ok (.isub, 1) := by decide +kernel
theorem dJ8_vectorizedMismatch_456ae_6 : decode cJ8_vectorizedMismatch_456ae 6 = .ok (.istore 8, 2) := by decide +kernel
theorem dJ8_vectorizedMismatch_456ae_8 : decode cJ8_vectorizedMismatch_456ae 8 = .ok (.iconst 0, 1) := by decide +kernel
theorem dJ8_vectorizedMismatch_456ae_9 : decode cJ8_vectorizedMismatch_456ae 9 = .ok (.istore 9, 2) := by decide +kernel
theorem dJ8_vectorizedMismatch_456ae_11 : decode cJ8_vectorizedMismatch_456ae 11 = .ok (.iload 9, 2) := by decide +kernel
theorem dJ8_vectorizedMismatch_456ae_13 : decode cJ8_vectorizedMismatch_456ae 13 = .ok (.iload 6, 2) := by decide +kernel
theorem dJ8_vectorizedMismatch_456ae_15 : decode cJ8_vectorizedMismatch_456ae 15 = .ok (.iload 8, 2) := by decide +kernel
theorem dJ8_vectorizedMismatch_456ae_17 : decode cJ8_vectorizedMismatch_456ae 17 = .ok (.ishr, 1) := by decide +kernel
theorem dJ8_vectorizedMismatch_456ae_18 : decode cJ8_vectorizedMismatch_456ae 18 = .ok (.if_icmp .ge 104, 3) := by decide +kernel
theorem dJ8_vectorizedMismatch_456ae_21 : decode cJ8_vectorizedMismatch_456ae 21 = .ok (.iload 9, 2) := by decide +kernel
theorem dJ8_vectorizedMismatch_456ae_23 : decode cJ8_vectorizedMismatch_456ae 23 = .ok (.i2l, 1) := by decide +kernel
theorem dJ8_vectorizedMismatch_456ae_24 : decode cJ8_vectorizedMismatch_456ae 24 = .ok (.getstatic 20, 3) := by decide +kernel
theorem dJ8_vectorizedMismatch_456ae_27 : decode cJ8_vectorizedMismatch_456ae 27 = .ok (.lshl, 1) := by decide +kernel
theorem dJ8_vectorizedMismatch_456ae_28 : decode cJ8_vectorizedMismatch_456ae 28 = .ok (.lstore 10, 2) := by decide +kernel
theorem dJ8_vectorizedMismatch_456ae_30 : decode cJ8_vectorizedMismatch_456ae 30 = .ok (.getstatic 26, 3) := by decide +kernel
theorem dJ8_vectorizedMismatch_456ae_33 : decode cJ8_vectorizedMismatch_456ae 33 = .ok (.aload_n 0, 1) := by decide +kernel
theorem dJ8_vectorizedMismatch_456ae_34 : decode cJ8_vectorizedMismatch_456ae 34 = .ok (.lload_n 1, 1) := by decide +kernel
theorem dJ8_vectorizedMismatch_456ae_35 : decode cJ8_vectorizedMismatch_456ae 35 = .ok (.lload 10, 2) := by decide +kernel
theorem dJ8_vectorizedMismatch_456ae_37 : decode cJ8_vectorizedMismatch_456ae 37 = .ok (.ladd, 1) := by decide +kernel
theorem dJ8_vectorizedMismatch_456ae_38 : decode cJ8_vectorizedMismatch_456ae 38 = .ok (.invokevirtual 30, 3) := by decide +kernel
theorem dJ8_vectorizedMismatch_456ae_41 : decode cJ8_vectorizedMismatch_456ae 41 = .ok (.lstore 12, 2) := by decide +kernel
theorem dJ8_vectorizedMismatch_456ae_43 : decode cJ8_vectorizedMismatch_456ae 43 = .ok (.getstatic 26, 3) := by decide +kernel
theorem dJ8_vectorizedMismatch_456ae_46 : decode cJ8_vectorizedMismatch_456ae 46 = .ok (.aload_n 3, 1) := by decide +kernel
theorem dJ8_vectorizedMismatch_456ae_47 : decode cJ8_vectorizedMismatch_456ae 47 = .ok (.lload 4, 2) := by decide +kernel
theorem dJ8_vectorizedMismatch_456ae_49 : decode cJ8_vectorizedMismatch_456ae 49 = .ok (.lload 10, 2) := by decide +kernel
theorem dJ8_vectorizedMismatch_456ae_51 : decode cJ8_vectorizedMismatch_456ae 51 = .ok (.ladd, 1) := by decide +kernel
theorem dJ8_vectorizedMismatch_456ae_52 : decode cJ8_vectorizedMismatch_456ae 52 = .ok (.invokevirtual 30, 3) := by decide +kernel
theorem dJ8_vectorizedMismatch_456ae_55 : decode cJ8_vectorizedMismatch_456ae 55 = .ok (.lstore 14, 2) := by decide +kernel
theorem dJ8_vectorizedMismatch_456ae_57 : decode cJ8_vectorizedMismatch_456ae 57 = .ok (.lload 12, 2) := by decide +kernel
theorem dJ8_vectorizedMismatch_456ae_59 : decode cJ8_vectorizedMismatch_456ae 59 = .ok (.lload 14, 2) := by decide +kernel
theorem dJ8_vectorizedMismatch_456ae_61 : decode cJ8_vectorizedMismatch_456ae 61 = .ok (.lcmp, 1) := by decide +kernel
theorem dJ8_vectorizedMismatch_456ae_62 : decode cJ8_vectorizedMismatch_456ae 62 = .ok (.ifCond .eq 54, 3) := by decide +kernel
theorem dJ8_vectorizedMismatch_456ae_65 : decode cJ8_vectorizedMismatch_456ae 65 = .ok (.lload 12, 2) := by decide +kernel
theorem dJ8_vectorizedMismatch_456ae_67 : decode cJ8_vectorizedMismatch_456ae 67 = .ok (.lload 14, 2) := by decide +kernel
theorem dJ8_vectorizedMismatch_456ae_116 : decode cJ8_vectorizedMismatch_456ae 116 = .ok (.iinc 9 1, 3) := by decide +kernel
theorem dJ8_vectorizedMismatch_456ae_119 : decode cJ8_vectorizedMismatch_456ae 119 = .ok (.goto (-108), 3) := by decide +kernel
theorem dJ8_vectorizedMismatch_456ae_122 : decode cJ8_vectorizedMismatch_456ae 122 = .ok (.iload 6, 2) := by decide +kernel
theorem dJ8_vectorizedMismatch_456ae_124 : decode cJ8_vectorizedMismatch_456ae 124 = .ok (.iload 9, 2) := by decide +kernel
theorem dJ8_vectorizedMismatch_456ae_126 : decode cJ8_vectorizedMismatch_456ae 126 = .ok (.iload 8, 2) := by decide +kernel
theorem dJ8_vectorizedMismatch_456ae_128 : decode cJ8_vectorizedMismatch_456ae 128 = .ok (.ishl, 1) := by decide +kernel
theorem dJ8_vectorizedMismatch_456ae_129 : decode cJ8_vectorizedMismatch_456ae 129 = .ok (.isub, 1) := by decide +kernel
theorem dJ8_vectorizedMismatch_456ae_130 : decode cJ8_vectorizedMismatch_456ae 130 = .ok (.istore 10, 2) := by decide +kernel
theorem dJ8_vectorizedMismatch_456ae_132 : decode cJ8_vectorizedMismatch_456ae 132 = .ok (.iload 7, 2) := by decide +kernel
theorem dJ8_vectorizedMismatch_456ae_134 : decode cJ8_vectorizedMismatch_456ae 134 = .ok (.getstatic 51, 3) := by decide +kernel
theorem dJ8_vectorizedMismatch_456ae_137 : decode cJ8_vectorizedMismatch_456ae 137 = .ok (.if_icmp .ge 126, 3) := by decide +kernel
theorem dJ8_vectorizedMismatch_456ae_140 : decode cJ8_vectorizedMismatch_456ae 140 = .ok (.iconst 1, 1) := by decide +kernel
theorem dJ8_vectorizedMismatch_456ae_141 : decode cJ8_vectorizedMismatch_456ae 141 = .ok (.getstatic 51, 3) := by decide +kernel
theorem dJ8_vectorizedMismatch_456ae_144 : decode cJ8_vectorizedMismatch_456ae 144 = .ok (.iload 7, 2) := by decide +kernel
theorem dJ8_vectorizedMismatch_456ae_146 : decode cJ8_vectorizedMismatch_456ae 146 = .ok (.isub, 1) := by decide +kernel
theorem dJ8_vectorizedMismatch_456ae_147 : decode cJ8_vectorizedMismatch_456ae 147 = .ok (.ishl, 1) := by decide +kernel
theorem dJ8_vectorizedMismatch_456ae_148 : decode cJ8_vectorizedMismatch_456ae 148 = .ok (.istore 11, 2) := by decide +kernel
theorem dJ8_vectorizedMismatch_456ae_150 : decode cJ8_vectorizedMismatch_456ae 150 = .ok (.iload 10, 2) := by decide +kernel
theorem dJ8_vectorizedMismatch_456ae_152 : decode cJ8_vectorizedMismatch_456ae 152 = .ok (.iload 11, 2) := by decide +kernel
theorem dJ8_vectorizedMismatch_456ae_154 : decode cJ8_vectorizedMismatch_456ae 154 = .ok (.if_icmp .lt 104, 3) := by decide +kernel
theorem dJ8_vectorizedMismatch_456ae_157 : decode cJ8_vectorizedMismatch_456ae 157 = .ok (.iload 9, 2) := by decide +kernel
theorem dJ8_vectorizedMismatch_456ae_159 : decode cJ8_vectorizedMismatch_456ae 159 = .ok (.i2l, 1) := by decide +kernel
theorem dJ8_vectorizedMismatch_456ae_160 : decode cJ8_vectorizedMismatch_456ae 160 = .ok (.getstatic 20, 3) := by decide +kernel
theorem dJ8_vectorizedMismatch_456ae_163 : decode cJ8_vectorizedMismatch_456ae 163 = .ok (.lshl, 1) := by decide +kernel
theorem dJ8_vectorizedMismatch_456ae_164 : decode cJ8_vectorizedMismatch_456ae 164 = .ok (.lstore 12, 2) := by decide +kernel
theorem dJ8_vectorizedMismatch_456ae_166 : decode cJ8_vectorizedMismatch_456ae 166 = .ok (.getstatic 26, 3) := by decide +kernel
theorem dJ8_vectorizedMismatch_456ae_169 : decode cJ8_vectorizedMismatch_456ae 169 = .ok (.aload_n 0, 1) := by decide +kernel
theorem dJ8_vectorizedMismatch_456ae_170 : decode cJ8_vectorizedMismatch_456ae 170 = .ok (.lload_n 1, 1) := by decide +kernel
theorem dJ8_vectorizedMismatch_456ae_171 : decode cJ8_vectorizedMismatch_456ae 171 = .ok (.lload 12, 2) := by decide +kernel
theorem dJ8_vectorizedMismatch_456ae_173 : decode cJ8_vectorizedMismatch_456ae 173 = .ok (.ladd, 1) := by decide +kernel
theorem dJ8_vectorizedMismatch_456ae_258 : decode cJ8_vectorizedMismatch_456ae 258 = .ok (.iload 10, 2) := by decide +kernel
theorem dJ8_vectorizedMismatch_456ae_260 : decode cJ8_vectorizedMismatch_456ae 260 = .ok (.iconst (-1), 1) := by decide +kernel
theorem dJ8_vectorizedMismatch_456ae_261 : decode cJ8_vectorizedMismatch_456ae 261 = .ok (.ixor, 1) := by decide +kernel
theorem dJ8_vectorizedMismatch_456ae_262 : decode cJ8_vectorizedMismatch_456ae 262 = .ok (.ireturn, 1) := by decide +kernel
theorem dJ8_vectorizedMismatch_456ae_263 : decode cJ8_vectorizedMismatch_456ae 263 = .ok (.iload 10, 2) := by decide +kernel
theorem dJ8_vectorizedMismatch_456ae_265 : decode cJ8_vectorizedMismatch_456ae 265 = .ok (.iconst (-1), 1) := by decide +kernel
theorem dJ8_vectorizedMismatch_456ae_266 : decode cJ8_vectorizedMismatch_456ae 266 = .ok (.ixor, 1) := by decide +kernel
theorem dJ8_vectorizedMismatch_456ae_267 : decode cJ8_vectorizedMismatch_456ae 267 = .ok (.ireturn, 1) := by decide +kernel
theorem dJ8_mismatch_974f6_0 : decode cJ8_mismatch_974f6 0 = .ok (.iload_n 2, 1) := by decide +kernel
theorem dJ8_mismatch_974f6_1 : decode cJ8_mismatch_974f6 1 = .ok (.ifCond .ne 5, 3) := by decide +kernel
theorem dJ8_mismatch_974f6_4 : decode cJ8_mismatch_974f6 4 = .ok (.iconst (-1), 1) := by decide +kernel
theorem dJ8_mismatch_974f6_5 : decode cJ8_mismatch_974f6 5 = .ok (.ireturn, 1) := by decide +kernel
theorem dJ8_mismatch_974f6_6 : decode cJ8_mismatch_974f6 6 = .ok (.aload_n 0, 1) := by decide +kernel
theorem dJ8_mismatch_974f6_7 : decode cJ8_mismatch_974f6 7 = .ok (.iconst 0, 1) := by decide +kernel
theorem dJ8_mismatch_974f6_8 : decode cJ8_mismatch_974f6 8 = .ok (.laload, 1) := by decide +kernel
theorem dJ8_mismatch_974f6_9 : decode cJ8_mismatch_974f6 9 = .ok (.aload_n 1, 1) := by decide +kernel
theorem dJ8_mismatch_974f6_10 : decode cJ8_mismatch_974f6 10 = .ok (.iconst 0, 1) := by decide +kernel
theorem dJ8_mismatch_974f6_11 : decode cJ8_mismatch_974f6 11 = .ok (.laload, 1) := by decide +kernel
theorem dJ8_mismatch_974f6_12 : decode cJ8_mismatch_974f6 12 = .ok (.lcmp, 1) := by decide +kernel
theorem dJ8_mismatch_974f6_13 : decode cJ8_mismatch_974f6 13 = .ok (.ifCond .eq 5, 3) := by decide +kernel
theorem dJ8_mismatch_974f6_16 : decode cJ8_mismatch_974f6 16 = .ok (.iconst 0, 1) := by decide +kernel
theorem dJ8_mismatch_974f6_17 : decode cJ8_mismatch_974f6 17 = .ok (.ireturn, 1) := by decide +kernel
theorem dJ8_mismatch_974f6_18 : decode cJ8_mismatch_974f6 18 = .ok (.aload_n 0, 1) := by decide +kernel
theorem dJ8_mismatch_974f6_19 : decode cJ8_mismatch_974f6 19 = .ok (.getstatic 170, 3) := by decide +kernel
theorem dJ8_mismatch_974f6_22 : decode cJ8_mismatch_974f6 22 = .ok (.i2l, 1) := by decide +kernel
theorem dJ8_mismatch_974f6_23 : decode cJ8_mismatch_974f6 23 = .ok (.aload_n 1, 1) := by decide +kernel
theorem dJ8_mismatch_974f6_24 : decode cJ8_mismatch_974f6 24 = .ok (.getstatic 170, 3) := by decide +kernel
theorem dJ8_mismatch_974f6_27 : decode cJ8_mismatch_974f6 27 = .ok (.i2l, 1) := by decide +kernel
theorem dJ8_mismatch_974f6_28 : decode cJ8_mismatch_974f6 28 = .ok (.iload_n 2, 1) := by decide +kernel
theorem dJ8_mismatch_974f6_29 : decode cJ8_mismatch_974f6 29 = .ok (.getstatic 20, 3) := by decide +kernel
theorem dJ8_mismatch_974f6_32 : decode cJ8_mismatch_974f6 32 = .ok (.invokestatic 122, 3) := by decide +kernel
theorem dJ8_mismatch_974f6_35 : decode cJ8_mismatch_974f6 35 = .ok (.istore_n 3, 1) := by decide +kernel
theorem dJ8_mismatch_974f6_36 : decode cJ8_mismatch_974f6 36 = .ok (.iload_n 3, 1) := by decide +kernel
theorem dJ8_mismatch_974f6_37 : decode cJ8_mismatch_974f6 37 = .ok (.ifCond .lt 7, 3) := by decide +kernel
theorem dJ8_mismatch_974f6_40 : decode cJ8_mismatch_974f6 40 = .ok (.iload_n 3, 1) := by decide +kernel
theorem dJ8_mismatch_974f6_41 : decode cJ8_mismatch_974f6 41 = .ok (.goto 4, 3) := by decide +kernel
theorem dJ8_mismatch_974f6_44 : decode cJ8_mismatch_974f6 44 = .ok (.iconst (-1), 1) := by decide +kernel
theorem dJ8_mismatch_974f6_45 : decode cJ8_mismatch_974f6 45 = .ok (.ireturn, 1) := by decide +kernel
theorem dJ7_equals_331f6_0 : decode cJ7_equals_331f6 0 = .ok (.aload_n 0, 1) := by decide +kernel
theorem dJ7_equals_331f6_1 : decode cJ7_equals_331f6 1 = .ok (.aload_n 1, 1) := by decide +kernel
theorem dJ7_equals_331f6_2 : decode cJ7_equals_331f6 2 = .ok (.if_acmp .ne 5, 3) := by decide +kernel
theorem dJ7_equals_331f6_7 : decode cJ7_equals_331f6 7 = .ok (.aload_n 0, 1) := by decide +kernel
theorem dJ7_equals_331f6_8 : decode cJ7_equals_331f6 8 = .ok (.ifnull 7, 3) := by decide +kernel
theorem dJ7_equals_331f6_11 : decode cJ7_equals_331f6 11 = .ok (.aload_n 1, 1) := by decide +kernel
theorem dJ7_equals_331f6_12 : decode cJ7_equals_331f6 12 = .ok (.ifnonnull 5, 3) := by decide +kernel
theorem dJ7_equals_331f6_15 : decode cJ7_equals_331f6 15 = .ok (.iconst 0, 1) := by decide +kernel
theorem dJ7_equals_331f6_16 : decode cJ7_equals_331f6 16 = .ok (.ireturn, 1) := by decide +kernel
theorem dJ7_equals_331f6_17 : decode cJ7_equals_331f6 17 = .ok (.aload_n 0, 1) := by decide +kernel
theorem dJ7_equals_331f6_18 : decode cJ7_equals_331f6 18 = .ok (.arraylength, 1) := by decide +kernel
theorem dJ7_equals_331f6_19 : decode cJ7_equals_331f6 19 = .ok (.istore_n 2, 1) := by decide +kernel
theorem dJ7_equals_331f6_20 : decode cJ7_equals_331f6 20 = .ok (.aload_n 1, 1) := by decide +kernel
theorem dJ7_equals_331f6_21 : decode cJ7_equals_331f6 21 = .ok (.arraylength, 1) := by decide +kernel
theorem dJ7_equals_331f6_22 : decode cJ7_equals_331f6 22 = .ok (.iload_n 2, 1) := by decide +kernel
theorem dJ7_equals_331f6_23 : decode cJ7_equals_331f6 23 = .ok (.if_icmp .eq 5, 3) := by decide +kernel
theorem dJ7_equals_331f6_26 : decode cJ7_equals_331f6 26 = .ok (.iconst 0, 1) := by decide +kernel
theorem dJ7_equals_331f6_27 : decode cJ7_equals_331f6 27 = .ok (.ireturn, 1) := by decide +kernel
theorem dJ7_equals_331f6_28 : decode cJ7_equals_331f6 28 = .ok (.aload_n 0, 1) := by decide +kernel
theorem dJ7_equals_331f6_29 : decode cJ7_equals_331f6 29 = .ok (.aload_n 1, 1) := by decide +kernel
theorem dJ7_equals_331f6_30 : decode cJ7_equals_331f6 30 = .ok (.iload_n 2, 1) := by decide +kernel
theorem dJ7_equals_331f6_31 : decode cJ7_equals_331f6 31 = .ok (.invokestatic 245, 3) := by decide +kernel
theorem dJ7_equals_331f6_34 : decode cJ7_equals_331f6 34 = .ok (.ifCond .ge 7, 3) := by decide +kernel
theorem dJ7_equals_331f6_37 : decode cJ7_equals_331f6 37 = .ok (.iconst 1, 1) := by decide +kernel
theorem dJ7_equals_331f6_38 : decode cJ7_equals_331f6 38 = .ok (.goto 4, 3) := by decide +kernel
theorem dJ7_equals_331f6_41 : decode cJ7_equals_331f6 41 = .ok (.iconst 0, 1) := by decide +kernel
theorem dJ7_equals_331f6_42 : decode cJ7_equals_331f6 42 = .ok (.ireturn, 1) := by decide +kernel
set_option maxRecDepth 100000 in
set_option maxHeartbeats 4000000 in
theorem cJx9a822_getLongUnaligned_f02c6c {l : Launch} {v0 : Option Nat} {v1 : Option Nat} {v2 : Int64} {σ : HpT} {r : Int64} (h : fJx9a822_getLongUnaligned_f02c6 v0 v1 v2 σ = some r) : IsK σ v0 16 ∧ Ct l yJx9a822_getLongUnaligned_f02c6 cJx9a822_getLongUnaligned_f02c6 4 (some .long) 1 40 [va_rf v0, va_rf v1, .long v2] σ (.ok (some (.long r))) σ 0 0 := by
  unfold fJx9a822_getLongUnaligned_f02c6 at h
  replace h := bnP_s h
  obtain ⟨u, hk, h⟩ := h
  replace hk := isK_s hk
  refine ⟨hk, ?_⟩
  refine ct_startF mi_Jx9a822_getLongUnaligned_f02c6.1 rfl (al_le (al_1 (rf_cat _) (al_1 (rf_cat _) (al_2 rfl al_n))) (Nat.le_of_ble_eq_true rfl)) (ag_1 (rf_cat _) (ag_1 (rf_cat _) (ag_2 rfl ag_n))) (fun Δ Γ B hE hnm => ?_)
  refine g_lload_n B 2 dJx9a822_getLongUnaligned_f02c6_0 rfl rfl ?_
  refine g_ldc2 (v := 7) B cj_RJx9a822_696 dJx9a822_getLongUnaligned_f02c6_1 ?_
  refine g_land B dJx9a822_getLongUnaligned_f02c6_4 ?_
  refine g_lconst (v := 0) B dJx9a822_getLongUnaligned_f02c6_5 (by decide) ?_
  refine g_lcmp B dJx9a822_getLongUnaligned_f02c6_6 ?_
  refine g_if_ne B 17 dJx9a822_getLongUnaligned_f02c6_7 (by decide) (fun hc => ?_) (fun hc => ?_)
  · replace h := ifn hc h
    refine g_lload_n B 2 dJx9a822_getLongUnaligned_f02c6_17 rfl rfl ?_
    refine g_ldc2 (v := 3) B cj_RJx9a822_349 dJx9a822_getLongUnaligned_f02c6_18 ?_
    refine g_land B dJx9a822_getLongUnaligned_f02c6_21 ?_
    refine g_lconst (v := 0) B dJx9a822_getLongUnaligned_f02c6_22 (by decide) ?_
    refine g_lcmp B dJx9a822_getLongUnaligned_f02c6_23 ?_
    refine g_if_ne B 47 dJx9a822_getLongUnaligned_f02c6_24 (by decide) (fun hc => ?_) (fun hc => ?_)
    · replace h := ifn hc h
      refine g_lload_n B 2 dJx9a822_getLongUnaligned_f02c6_47 rfl rfl ?_
      refine g_lconst (v := 1) B dJx9a822_getLongUnaligned_f02c6_48 (by decide) ?_
      refine g_land B dJx9a822_getLongUnaligned_f02c6_49 ?_
      refine g_lconst (v := 0) B dJx9a822_getLongUnaligned_f02c6_50 (by decide) ?_
      refine g_lcmp B dJx9a822_getLongUnaligned_f02c6_51 ?_
      refine g_if_ne B 95 dJx9a822_getLongUnaligned_f02c6_52 (by decide) (fun hc => ?_) (fun hc => ?_)
      · replace h := ifn hc h
        refine g_aload_n B 0 dJx9a822_getLongUnaligned_f02c6_95 rfl rfl ?_
        refine g_aload_n B 1 dJx9a822_getLongUnaligned_f02c6_96 rfl rfl ?_
        refine g_lload_n B 2 dJx9a822_getLongUnaligned_f02c6_97 rfl rfl ?_
        cases h
      · replace h := ifp hc h
        refine g_aload_n B 0 dJx9a822_getLongUnaligned_f02c6_55 rfl rfl ?_
        refine g_aload_n B 1 dJx9a822_getLongUnaligned_f02c6_56 rfl rfl ?_
        refine g_lload_n B 2 dJx9a822_getLongUnaligned_f02c6_57 rfl rfl ?_
        cases h
    · replace h := ifp hc h
      refine g_aload_n B 0 dJx9a822_getLongUnaligned_f02c6_27 rfl rfl ?_
      refine g_aload_n B 1 dJx9a822_getLongUnaligned_f02c6_28 rfl rfl ?_
      refine g_lload_n B 2 dJx9a822_getLongUnaligned_f02c6_29 rfl rfl ?_
      cases h
  · replace h := ifp hc h
    refine g_aload_n B 0 dJx9a822_getLongUnaligned_f02c6_10 rfl rfl ?_
    refine g_aload_n B 1 dJx9a822_getLongUnaligned_f02c6_11 rfl rfl ?_
    refine g_lload_n B 2 dJx9a822_getLongUnaligned_f02c6_12 rfl rfl ?_
    replace h := bnP_s h
    obtain ⟨x1, h2, h⟩ := h
    refine g_getLong9 B hk gl_RJx9a822_27 (by decide) (Nat.le_of_ble_eq_true rfl) dJx9a822_getLongUnaligned_f02c6_13 h2 ?_
    replace h := Option.some.inj h
    subst h
    exact g_lret B hE (Nat.zero_le _) (Nat.zero_le _) dJx9a822_getLongUnaligned_f02c6_16
set_option maxRecDepth 100000 in
set_option maxHeartbeats 4000000 in
theorem cJ8_vectorizedMismatch_456aec {l : Launch} {v0 : Option Nat} {v1 : Int64} {v3 : Option Nat} {v4 : Int64} {v6 : Int32} {v7 : Int32} {σ : HpT} {r : Int32} (h : fJ8_vectorizedMismatch_456ae v0 v1 v3 v4 v6 v7 σ = some r) : Ct l yJ8_vectorizedMismatch_456ae cJ8_vectorizedMismatch_456ae 19 (some .int) 2 63 [va_rf v0, .long v1, va_rf v3, .long v4, .int v6, .int v7] σ (.ok (some (.int r))) σ 0 0 := by
  unfold fJ8_vectorizedMismatch_456ae at h
  refine ct_start mi_J8_vectorizedMismatch_456ae.1 rfl (al_le (al_1 (rf_cat _) (al_2 rfl (al_1 (rf_cat _) (al_2 rfl (al_1 rfl (al_1 rfl al_n)))))) (Nat.le_of_ble_eq_true rfl)) (ag_1 (rf_cat _) (ag_2 rfl (ag_1 (rf_cat _) (ag_2 rfl (ag_1 rfl (ag_1 rfl ag_n)))))) (fun Δ Γ B hE hnm => ?_)
  refine g_gst3 B sv_RJ8_20 dJ8_vectorizedMismatch_456ae_0 ?_
  refine g_iload B 5 dJ8_vectorizedMismatch_456ae_3 rfl ?_
  refine g_isub B dJ8_vectorizedMismatch_456ae_5 ?_
  refine g_istore B dJ8_vectorizedMismatch_456ae_6 (Nat.le_of_ble_eq_true rfl) (s1_c (f1_k rfl (f1_k rfl (f1_k rfl (f1_k rfl (f1_k rfl (f1_1 rfl rfl f1_n))))))) ?_
  refine g_iconst (v := 0) B dJ8_vectorizedMismatch_456ae_8 (by decide) ?_
  refine g_istore B dJ8_vectorizedMismatch_456ae_9 (Nat.le_of_ble_eq_true rfl) (s1_c (f1_1 rfl rfl (f1_k rfl (f1_k rfl (f1_k rfl (f1_k rfl (f1_k rfl (f1_k rfl f1_n)))))))) ?_
  replace h := bnP_s h
  obtain ⟨r2, h3, h⟩ := h
  have kE4 : ∀ y14, r2 = .inl y14 → GW Δ Γ (0) (0) 122 [(0, va_rf v0), (1, .long v1), (3, va_rf v3), (4, .long v4), (6, .int v6), (7, .int v7), (8, .int (3 - v7)), (9, .int y14)] [] σ := by
    intro y14 er
    subst er
    dsimp only at h
    refine g_iload B 4 dJ8_vectorizedMismatch_456ae_122 rfl ?_
    refine g_iload B 7 dJ8_vectorizedMismatch_456ae_124 rfl ?_
    refine g_iload B 6 dJ8_vectorizedMismatch_456ae_126 rfl ?_
    refine g_ishl B dJ8_vectorizedMismatch_456ae_128 ?_
    refine g_isub B dJ8_vectorizedMismatch_456ae_129 ?_
    refine g_istore B dJ8_vectorizedMismatch_456ae_130 (Nat.le_of_ble_eq_true rfl) (s1_c (f1_k rfl (f1_k rfl (f1_k rfl (f1_k rfl (f1_k rfl (f1_k rfl (f1_k rfl (f1_1 rfl rfl f1_n))))))))) ?_
    refine g_iload B 6 dJ8_vectorizedMismatch_456ae_132 rfl ?_
    refine g_gst2 B sv_RJ8_51 dJ8_vectorizedMismatch_456ae_134 ?_
    refine g_icmp_ge B 263 dJ8_vectorizedMismatch_456ae_137 (by decide) (fun hc => ?_) (fun hc => ?_)
    · replace h := ifp hc h
      refine g_iload B 0 dJ8_vectorizedMismatch_456ae_263 rfl ?_
      refine g_iconst (v := (-1)) B dJ8_vectorizedMismatch_456ae_265 (by decide) ?_
      refine g_ixor B dJ8_vectorizedMismatch_456ae_266 ?_
      replace h := Option.some.inj h
      subst h
      exact g_iret B hE (Nat.zero_le _) (Nat.zero_le _) dJ8_vectorizedMismatch_456ae_267
    · replace h := ifn hc h
      refine g_iconst (v := 1) B dJ8_vectorizedMismatch_456ae_140 (by decide) ?_
      refine g_gst2 B sv_RJ8_51 dJ8_vectorizedMismatch_456ae_141 ?_
      refine g_iload B 6 dJ8_vectorizedMismatch_456ae_144 rfl ?_
      refine g_isub B dJ8_vectorizedMismatch_456ae_146 ?_
      refine g_ishl B dJ8_vectorizedMismatch_456ae_147 ?_
      refine g_istore B dJ8_vectorizedMismatch_456ae_148 (Nat.le_of_ble_eq_true rfl) (s1_c (f1_1 rfl rfl (f1_k rfl (f1_k rfl (f1_k rfl (f1_k rfl (f1_k rfl (f1_k rfl (f1_k rfl (f1_k rfl f1_n)))))))))) ?_
      refine g_iload B 1 dJ8_vectorizedMismatch_456ae_150 rfl ?_
      refine g_iload B 0 dJ8_vectorizedMismatch_456ae_152 rfl ?_
      refine g_icmp_lt B 258 dJ8_vectorizedMismatch_456ae_154 (by decide) (fun hc => ?_) (fun hc => ?_)
      · replace h := ifp hc h
        refine g_iload B 1 dJ8_vectorizedMismatch_456ae_258 rfl ?_
        refine g_iconst (v := (-1)) B dJ8_vectorizedMismatch_456ae_260 (by decide) ?_
        refine g_ixor B dJ8_vectorizedMismatch_456ae_261 ?_
        replace h := Option.some.inj h
        subst h
        exact g_iret B hE (Nat.zero_le _) (Nat.zero_le _) dJ8_vectorizedMismatch_456ae_262
      · replace h := ifn hc h
        refine g_iload B 9 dJ8_vectorizedMismatch_456ae_157 rfl ?_
        refine g_i2l B dJ8_vectorizedMismatch_456ae_159 ?_
        refine g_gst3 B sv_RJ8_20 dJ8_vectorizedMismatch_456ae_160 ?_
        refine g_lshl B dJ8_vectorizedMismatch_456ae_163 ?_
        refine g_lstore B dJ8_vectorizedMismatch_456ae_164 (Nat.le_of_ble_eq_true rfl) (s2_c (f2_1 rfl rfl (f2_k rfl (f2_k rfl (f2_k rfl (f2_k rfl (f2_k rfl (f2_k rfl (f2_k rfl (f2_k rfl (f2_k rfl f2_n))))))))))) ?_
        refine g_gstU B sv_RJ8_26 dJ8_vectorizedMismatch_456ae_166 ?_
        refine g_aload_n B 3 dJ8_vectorizedMismatch_456ae_169 rfl rfl ?_
        refine g_lload_n B 4 dJ8_vectorizedMismatch_456ae_170 rfl rfl ?_
        refine g_lload B 0 dJ8_vectorizedMismatch_456ae_171 rfl ?_
        refine g_ladd B dJ8_vectorizedMismatch_456ae_173 ?_
        cases h
  have kR5 : ∀ vv, r2 = .inr vv → En Δ Γ (.ok (some (.int vv))) σ 0 0 (some .int) ∧ 0 ≤ 0 ∧ 0 ≤ 0 := by
    intro vv er
    subst er
    dsimp only at h
    replace h := Option.some.inj h
    subst h
    exact ⟨hE, Nat.zero_le _, Nat.zero_le _⟩
  clear h
  refine g_sub [2, 3, 4, 5, 6, 7, 1, 0] rfl ?_
  refine lpP_w (I := fun q1 => GW Δ Γ (0) (0) 11 [(0, va_rf v0), (1, .long v1), (3, va_rf v3), (4, .long v4), (6, .int v6), (7, .int v7), (8, .int (3 - v7)), (9, .int q1)] [] σ) (r := r2) ?_ FUEL 0 h3
  intro q1 x8 h hI6 hR7
  unfold fJ8_vectorizedMismatch_456ae_l1 at h
  refine g_iload B 7 dJ8_vectorizedMismatch_456ae_11 rfl ?_
  refine g_iload B 4 dJ8_vectorizedMismatch_456ae_13 rfl ?_
  refine g_iload B 6 dJ8_vectorizedMismatch_456ae_15 rfl ?_
  refine g_ishr B dJ8_vectorizedMismatch_456ae_17 ?_
  refine g_icmp_ge B 122 dJ8_vectorizedMismatch_456ae_18 (by decide) (fun hc => ?_) (fun hc => ?_)
  · replace h := ifp hc h
    replace h := Option.some.inj h
    subst h
    have e8 := hR7 _ rfl
    subst e8
    exact g_sub [0, 1, 2, 3, 4, 5, 6, 7] rfl (kE4 _ rfl)
  · replace h := ifn hc h
    refine g_iload B 7 dJ8_vectorizedMismatch_456ae_21 rfl ?_
    refine g_i2l B dJ8_vectorizedMismatch_456ae_23 ?_
    refine g_gst3 B sv_RJ8_20 dJ8_vectorizedMismatch_456ae_24 ?_
    refine g_lshl B dJ8_vectorizedMismatch_456ae_27 ?_
    refine g_lstore B dJ8_vectorizedMismatch_456ae_28 (Nat.le_of_ble_eq_true rfl) (s2_c (f2_k rfl (f2_k rfl (f2_k rfl (f2_k rfl (f2_k rfl (f2_k rfl (f2_k rfl (f2_1 rfl rfl f2_n))))))))) ?_
    refine g_gstU B sv_RJ8_26 dJ8_vectorizedMismatch_456ae_30 ?_
    refine g_aload_n B 1 dJ8_vectorizedMismatch_456ae_33 rfl rfl ?_
    refine g_lload_n B 2 dJ8_vectorizedMismatch_456ae_34 rfl rfl ?_
    refine g_lload B 0 dJ8_vectorizedMismatch_456ae_35 rfl ?_
    refine g_ladd B dJ8_vectorizedMismatch_456ae_37 ?_
    replace h := bnP_s h
    obtain ⟨x10, h11, h⟩ := h
    refine g_callUs0F (st := []) B (cJx9a822_getLongUnaligned_f02c6c h11) rfl mi_Jx9a822_getLongUnaligned_f02c6 lk_RJ8_30 ⟨Nat.le_of_ble_eq_true rfl, Nat.le_of_ble_eq_true rfl⟩ rfl rfl (Nat.le_of_ble_eq_true rfl) dJ8_vectorizedMismatch_456ae_38 (Nat.zero_le _) (Nat.zero_le _) ?_
    refine g_lstore B dJ8_vectorizedMismatch_456ae_41 (Nat.le_of_ble_eq_true rfl) (s2_c (f2_k rfl (f2_k rfl (f2_k rfl (f2_k rfl (f2_k rfl (f2_k rfl (f2_k rfl (f2_k rfl (f2_k rfl f2_n)))))))))) ?_
    refine g_gstU B sv_RJ8_26 dJ8_vectorizedMismatch_456ae_43 ?_
    refine g_aload_n B 4 dJ8_vectorizedMismatch_456ae_46 rfl rfl ?_
    refine g_lload B 5 dJ8_vectorizedMismatch_456ae_47 rfl ?_
    refine g_lload B 1 dJ8_vectorizedMismatch_456ae_49 rfl ?_
    refine g_ladd B dJ8_vectorizedMismatch_456ae_51 ?_
    replace h := bnP_s h
    obtain ⟨x12, h13, h⟩ := h
    refine g_callUs0F (st := []) B (cJx9a822_getLongUnaligned_f02c6c h13) rfl mi_Jx9a822_getLongUnaligned_f02c6 lk_RJ8_30 ⟨Nat.le_of_ble_eq_true rfl, Nat.le_of_ble_eq_true rfl⟩ rfl rfl (Nat.le_of_ble_eq_true rfl) dJ8_vectorizedMismatch_456ae_52 (Nat.zero_le _) (Nat.zero_le _) ?_
    refine g_lstore B dJ8_vectorizedMismatch_456ae_55 (Nat.le_of_ble_eq_true rfl) (s2_c (f2_k rfl (f2_k rfl (f2_k rfl (f2_k rfl (f2_k rfl (f2_k rfl (f2_k rfl (f2_k rfl (f2_k rfl (f2_k rfl f2_n))))))))))) ?_
    refine g_lload B 1 dJ8_vectorizedMismatch_456ae_57 rfl ?_
    refine g_lload B 0 dJ8_vectorizedMismatch_456ae_59 rfl ?_
    refine g_lcmp B dJ8_vectorizedMismatch_456ae_61 ?_
    refine g_if_eq B 116 dJ8_vectorizedMismatch_456ae_62 (by decide) (fun hc => ?_) (fun hc => ?_)
    · replace h := ifp hc h
      refine g_iinc (v := (q1 + 1)) B 10 dJ8_vectorizedMismatch_456ae_116 rfl (by first | rfl | (congr 1; decide)) (Nat.le_of_ble_eq_true rfl) (s1_c (f1_k rfl (f1_k rfl (f1_k rfl (f1_k rfl (f1_k rfl (f1_k rfl (f1_k rfl (f1_k rfl (f1_k rfl (f1_1 rfl rfl (f1_x f1_n)))))))))))) ?_
      refine g_goto B 11 dJ8_vectorizedMismatch_456ae_119 (by decide) ?_
      replace h := Option.some.inj h
      subst h
      exact g_sub [4, 5, 6, 7, 8, 9, 10, 0] rfl (hI6 _ rfl)
    · replace h := ifn hc h
      refine g_lload B 1 dJ8_vectorizedMismatch_456ae_65 rfl ?_
      refine g_lload B 0 dJ8_vectorizedMismatch_456ae_67 rfl ?_
      cases h
set_option maxRecDepth 100000 in
set_option maxHeartbeats 4000000 in
theorem cJ8_mismatch_974f6c {l : Launch} {v0 : Option Nat} {v1 : Option Nat} {v2 : Int32} {σ : HpT} {r : Int32} (h : fJ8_mismatch_974f6 v0 v1 v2 σ = some r) : Ct l yJ8_mismatch_974f6 cJ8_mismatch_974f6 4 (some .int) 3 101 [va_rf v0, va_rf v1, .int v2] σ (.ok (some (.int r))) σ 0 0 := by
  unfold fJ8_mismatch_974f6 at h
  refine ct_start mi_J8_mismatch_974f6.1 rfl (al_le (al_1 (rf_cat _) (al_1 (rf_cat _) (al_1 rfl al_n))) (Nat.le_of_ble_eq_true rfl)) (ag_1 (rf_cat _) (ag_1 (rf_cat _) (ag_1 rfl ag_n))) (fun Δ Γ B hE hnm => ?_)
  refine g_iload_n B 2 dJ8_mismatch_974f6_0 rfl rfl ?_
  refine g_if_ne B 6 dJ8_mismatch_974f6_1 (by decide) (fun hc => ?_) (fun hc => ?_)
  · replace h := ifn hc h
    refine g_aload_n B 0 dJ8_mismatch_974f6_6 rfl rfl ?_
    refine g_iconst (v := 0) B dJ8_mismatch_974f6_7 (by decide) ?_
    replace h := bnP_s h
    obtain ⟨x1, h2, h⟩ := h
    refine g_lald B dJ8_mismatch_974f6_8 h2 ?_
    refine g_aload_n B 1 dJ8_mismatch_974f6_9 rfl rfl ?_
    refine g_iconst (v := 0) B dJ8_mismatch_974f6_10 (by decide) ?_
    replace h := bnP_s h
    obtain ⟨x3, h4, h⟩ := h
    refine g_lald B dJ8_mismatch_974f6_11 h4 ?_
    refine g_lcmp B dJ8_mismatch_974f6_12 ?_
    refine g_if_eq B 18 dJ8_mismatch_974f6_13 (by decide) (fun hc => ?_) (fun hc => ?_)
    · replace h := ifp hc h
      refine g_aload_n B 0 dJ8_mismatch_974f6_18 rfl rfl ?_
      refine g_gst16 B sv_RJ8_170 dJ8_mismatch_974f6_19 ?_
      refine g_i2l B dJ8_mismatch_974f6_22 ?_
      refine g_aload_n B 1 dJ8_mismatch_974f6_23 rfl rfl ?_
      refine g_gst16 B sv_RJ8_170 dJ8_mismatch_974f6_24 ?_
      refine g_i2l B dJ8_mismatch_974f6_27 ?_
      refine g_iload_n B 2 dJ8_mismatch_974f6_28 rfl rfl ?_
      refine g_gst3 B sv_RJ8_20 dJ8_mismatch_974f6_29 ?_
      replace h := bnP_s h
      obtain ⟨x5, h6, h⟩ := h
      refine g_callSs0 (st := []) B (cJ8_vectorizedMismatch_456aec h6) mi_J8_vectorizedMismatch_456ae lk_RJ8_122 ⟨Nat.le_of_ble_eq_true rfl, Nat.le_of_ble_eq_true rfl⟩ rfl rfl (Nat.le_of_ble_eq_true rfl) dJ8_mismatch_974f6_32 (Nat.zero_le _) (Nat.zero_le _) ?_
      refine g_istore_n B dJ8_mismatch_974f6_35 rfl (Nat.le_of_ble_eq_true rfl) (s1_c (f1_k rfl (f1_k rfl (f1_1 rfl rfl f1_n)))) ?_
      refine g_iload_n B 0 dJ8_mismatch_974f6_36 rfl rfl ?_
      refine g_if_lt B 44 dJ8_mismatch_974f6_37 (by decide) (fun hc => ?_) (fun hc => ?_)
      · replace h := ifp hc h
        refine g_iconst (v := (-1)) B dJ8_mismatch_974f6_44 (by decide) ?_
        replace h := Option.some.inj h
        subst h
        exact g_iret B hE (Nat.zero_le _) (Nat.zero_le _) dJ8_mismatch_974f6_45
      · replace h := ifn hc h
        refine g_iload_n B 0 dJ8_mismatch_974f6_40 rfl rfl ?_
        refine g_goto B 45 dJ8_mismatch_974f6_41 (by decide) ?_
        replace h := Option.some.inj h
        subst h
        exact g_iret B hE (Nat.zero_le _) (Nat.zero_le _) dJ8_mismatch_974f6_45
    · replace h := ifn hc h
      refine g_iconst (v := 0) B dJ8_mismatch_974f6_16 (by decide) ?_
      replace h := Option.some.inj h
      subst h
      exact g_iret B hE (Nat.zero_le _) (Nat.zero_le _) dJ8_mismatch_974f6_17
  · replace h := ifp hc h
    refine g_iconst (v := (-1)) B dJ8_mismatch_974f6_4 (by decide) ?_
    replace h := Option.some.inj h
    subst h
    exact g_iret B hE (Nat.zero_le _) (Nat.zero_le _) dJ8_mismatch_974f6_5
set_option maxRecDepth 100000 in
set_option maxHeartbeats 4000000 in
theorem cJ7_equals_331f6c {l : Launch} {v0 : Option Nat} {v1 : Option Nat} {σ : HpT} {r : Bool} (h : fJ7_equals_331f6 v0 v1 σ = some r) : Ct l yJ7_equals_331f6 cJ7_equals_331f6 3 (some .boolean) 4 124 [va_rf v0, va_rf v1] σ (.ok (some (.int (bI r)))) σ 0 0 := by
  unfold fJ7_equals_331f6 at h
  refine ct_start mi_J7_equals_331f6.1 rfl (al_le (al_1 (rf_cat _) (al_1 (rf_cat _) al_n)) (Nat.le_of_ble_eq_true rfl)) (ag_1 (rf_cat _) (ag_1 (rf_cat _) ag_n)) (fun Δ Γ B hE hnm => ?_)
  refine g_aload_n B 0 dJ7_equals_331f6_0 rfl rfl ?_
  refine g_aload_n B 1 dJ7_equals_331f6_1 rfl rfl ?_
  replace h := bnP_s h
  obtain ⟨u1, h2, h⟩ := h
  refine g_acmpN B 7 dJ7_equals_331f6_2 (by decide) h2 ?_
  refine g_aload_n B 0 dJ7_equals_331f6_7 rfl rfl ?_
  refine g_ifnull B 15 dJ7_equals_331f6_8 (by decide) (fun hc => ?_) (fun hc => ?_)
  · replace h := ifp hc h
    refine g_iconst (v := 0) B dJ7_equals_331f6_15 (by decide) ?_
    replace h := Option.some.inj h
    subst h
    exact g_zret B hE rfl (Nat.zero_le _) (Nat.zero_le _) dJ7_equals_331f6_16
  · replace h := ifn hc h
    refine g_aload_n B 1 dJ7_equals_331f6_11 rfl rfl ?_
    refine g_ifnonnull B 17 dJ7_equals_331f6_12 (by decide) (fun hc => ?_) (fun hc => ?_)
    · replace h := ifn hc h
      refine g_aload_n B 0 dJ7_equals_331f6_17 rfl rfl ?_
      replace h := bnP_s h
      obtain ⟨x3, h4, h⟩ := h
      refine g_alen B (κ := 21) (by decide) dJ7_equals_331f6_18 h4 ?_
      refine g_istore_n B dJ7_equals_331f6_19 rfl (Nat.le_of_ble_eq_true rfl) (s1_c (f1_k rfl (f1_1 rfl (rf_cat _) f1_n))) ?_
      refine g_aload_n B 2 dJ7_equals_331f6_20 rfl rfl ?_
      replace h := bnP_s h
      obtain ⟨x5, h6, h⟩ := h
      refine g_alen B (κ := 21) (by decide) dJ7_equals_331f6_21 h6 ?_
      refine g_iload_n B 0 dJ7_equals_331f6_22 rfl rfl ?_
      refine g_icmp_eq B 28 dJ7_equals_331f6_23 (by decide) (fun hc => ?_) (fun hc => ?_)
      · replace h := ifp hc h
        refine g_aload_n B 1 dJ7_equals_331f6_28 rfl rfl ?_
        refine g_aload_n B 2 dJ7_equals_331f6_29 rfl rfl ?_
        refine g_iload_n B 0 dJ7_equals_331f6_30 rfl rfl ?_
        replace h := bnP_s h
        obtain ⟨x7, h8, h⟩ := h
        refine g_callSs0 (st := []) B (cJ8_mismatch_974f6c h8) mi_J8_mismatch_974f6 lk_RJ7_245 ⟨Nat.le_of_ble_eq_true rfl, Nat.le_of_ble_eq_true rfl⟩ rfl rfl (Nat.le_of_ble_eq_true rfl) dJ7_equals_331f6_31 (Nat.zero_le _) (Nat.zero_le _) ?_
        refine g_if_ge B 41 dJ7_equals_331f6_34 (by decide) (fun hc => ?_) (fun hc => ?_)
        · replace h := ifp hc h
          refine g_iconst (v := 0) B dJ7_equals_331f6_41 (by decide) ?_
          replace h := Option.some.inj h
          subst h
          exact g_zret B hE rfl (Nat.zero_le _) (Nat.zero_le _) dJ7_equals_331f6_42
        · replace h := ifn hc h
          refine g_iconst (v := 1) B dJ7_equals_331f6_37 (by decide) ?_
          refine g_goto B 42 dJ7_equals_331f6_38 (by decide) ?_
          replace h := Option.some.inj h
          subst h
          exact g_zret B hE rfl (Nat.zero_le _) (Nat.zero_le _) dJ7_equals_331f6_42
      · replace h := ifn hc h
        refine g_iconst (v := 0) B dJ7_equals_331f6_26 (by decide) ?_
        replace h := Option.some.inj h
        subst h
        exact g_zret B hE rfl (Nat.zero_le _) (Nat.zero_le _) dJ7_equals_331f6_27
    · replace h := ifp hc h
      refine g_iconst (v := 0) B dJ7_equals_331f6_15 (by decide) ?_
      replace h := Option.some.inj h
      subst h
      exact g_zret B hE rfl (Nat.zero_le _) (Nat.zero_le _) dJ7_equals_331f6_16
