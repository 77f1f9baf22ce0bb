theorem cj_RL_268 : Cond.constantLong RL 268 3 ∈ ALLw := (mw (i := 1885) (by decide +kernel) rfl)
theorem lk_RL_209 : LV RL 209 yX9_gap := ⟨(mw (i := 1062) (by decide +kernel) rfl), (mw (i := 1063) (by decide +kernel) rfl), (mw (i := 1064) (by decide +kernel) rfl)⟩
theorem lk_RL_212 : LI RL 212 yX9_init := ⟨(mw (i := 77) (by decide +kernel) rfl), (mw (i := 78) (by decide +kernel) rfl), rfl⟩
theorem lk_RL_213 : LNI RL "NotaryBookLaw" 213 yX11_init := ⟨(mn (i := 1246) (by decide +kernel) rfl), (mw (i := 1247) (by decide +kernel) rfl), rfl⟩
theorem lk_RL_214 : LSt RL 214 yL_text := ⟨(mw (i := 1358) (by decide +kernel) rfl), (mw (i := 1359) (by decide +kernel) rfl)⟩
theorem lk_RL_217 : LSt RL 217 yL_told := ⟨(mw (i := 1303) (by decide +kernel) rfl), (mw (i := 1304) (by decide +kernel) rfl)⟩
theorem lk_RL_221 : LV RL 221 yX9_load := ⟨(mw (i := 461) (by decide +kernel) rfl), (mw (i := 462) (by decide +kernel) rfl), (mw (i := 463) (by decide +kernel) rfl)⟩
theorem lk_RL_224 : LSt RL 224 yL_sees := ⟨(mw (i := 1771) (by decide +kernel) rfl), (mw (i := 1772) (by decide +kernel) rfl)⟩
theorem lk_RL_228 : LV RL 228 yX9_save := ⟨(mw (i := 1231) (by decide +kernel) rfl), (mw (i := 1232) (by decide +kernel) rfl), (mw (i := 1233) (by decide +kernel) rfl)⟩
theorem lk_RL_231 : LSt RL 231 yL_areKnown := ⟨(mw (i := 1763) (by decide +kernel) rfl), (mw (i := 1764) (by decide +kernel) rfl)⟩
theorem lk_RL_235 : LV RL 235 yX9_whyNotStrike := ⟨(mw (i := 1100) (by decide +kernel) rfl), (mw (i := 1101) (by decide +kernel) rfl), (mw (i := 1102) (by decide +kernel) rfl)⟩
theorem lk_RL_238 : LV RL 238 yX9_standingIf := ⟨(mw (i := 1130) (by decide +kernel) rfl), (mw (i := 1131) (by decide +kernel) rfl), (mw (i := 1132) (by decide +kernel) rfl)⟩
theorem lk_RL_242 : LV RL 242 yX9_strike := ⟨(mw (i := 1139) (by decide +kernel) rfl), (mw (i := 1140) (by decide +kernel) rfl), (mw (i := 1141) (by decide +kernel) rfl)⟩
theorem lk_RL_245 : LV RL 245 yX9_strikeClause := ⟨(mw (i := 1170) (by decide +kernel) rfl), (mw (i := 1171) (by decide +kernel) rfl), (mw (i := 1172) (by decide +kernel) rfl)⟩
theorem lk_RL_250 : LV RL 250 yX9_interline := ⟨(mw (i := 1176) (by decide +kernel) rfl), (mw (i := 1177) (by decide +kernel) rfl), (mw (i := 1178) (by decide +kernel) rfl)⟩
theorem lk_RL_253 : LV RL 253 yX9_whyNotSeal := ⟨(mw (i := 1090) (by decide +kernel) rfl), (mw (i := 1091) (by decide +kernel) rfl), (mw (i := 1092) (by decide +kernel) rfl)⟩
theorem lk_RL_256 : LV RL 256 yX9_seal := ⟨(mw (i := 1188) (by decide +kernel) rfl), (mw (i := 1189) (by decide +kernel) rfl), (mw (i := 1190) (by decide +kernel) rfl)⟩
theorem lk_RL_259 : LV RL 259 yX9_copyWords := ⟨(mw (i := 1125) (by decide +kernel) rfl), (mw (i := 1126) (by decide +kernel) rfl), (mw (i := 1127) (by decide +kernel) rfl)⟩
theorem lk_RL_262 : LV RL 262 yX9_whyNotCopy := ⟨(mw (i := 1095) (by decide +kernel) rfl), (mw (i := 1096) (by decide +kernel) rfl), (mw (i := 1097) (by decide +kernel) rfl)⟩
theorem lk_RL_265 : LV RL 265 yX9_addCopy := ⟨(mw (i := 1201) (by decide +kernel) rfl), (mw (i := 1202) (by decide +kernel) rfl), (mw (i := 1203) (by decide +kernel) rfl)⟩
theorem lk_RL_270 : LV RL 270 yX9_unknownIf := ⟨(mw (i := 1105) (by decide +kernel) rfl), (mw (i := 1106) (by decide +kernel) rfl), (mw (i := 1107) (by decide +kernel) rfl)⟩
theorem lk_RL_273 : LV RL 273 yX9_lose := ⟨(mw (i := 1207) (by decide +kernel) rfl), (mw (i := 1208) (by decide +kernel) rfl), (mw (i := 1209) (by decide +kernel) rfl)⟩
theorem lk_RL_276 : LV RL 276 yX9_recover := ⟨(mw (i := 1218) (by decide +kernel) rfl), (mw (i := 1219) (by decide +kernel) rfl), (mw (i := 1220) (by decide +kernel) rfl)⟩
theorem lk_RL_279 : LV RL 279 yX9_shakenOut := ⟨(mw (i := 1113) (by decide +kernel) rfl), (mw (i := 1114) (by decide +kernel) rfl), (mw (i := 1115) (by decide +kernel) rfl)⟩
theorem lk_RL_282 : LV RL 282 yX9_shake := ⟨(mw (i := 1223) (by decide +kernel) rfl), (mw (i := 1224) (by decide +kernel) rfl), (mw (i := 1225) (by decide +kernel) rfl)⟩
theorem lk_RL_285 : LV RL 285 yX9_cancel := ⟨(mw (i := 1194) (by decide +kernel) rfl), (mw (i := 1195) (by decide +kernel) rfl), (mw (i := 1196) (by decide +kernel) rfl)⟩
theorem lk_RL_288 : LV RL 288 yX9_restore := ⟨(mw (i := 1239) (by decide +kernel) rfl), (mw (i := 1240) (by decide +kernel) rfl), (mw (i := 1241) (by decide +kernel) rfl)⟩
theorem lk_RL_291 : LV RL 291 yX9_undoable := ⟨(mw (i := 1227) (by decide +kernel) rfl), (mw (i := 1228) (by decide +kernel) rfl), (mw (i := 1229) (by decide +kernel) rfl)⟩
theorem lk_RL_294 : LSt RL 294 yJ7_equals_331f6 := ⟨(mw (i := 1779) (by decide +kernel) rfl), (mw (i := 1780) (by decide +kernel) rfl)⟩
theorem nw_RL_14 : NW RL 14 9 := ⟨RX9, TX9, 15, tyX9, rfl, rfl, lay_9, tyX9_ok, (mw (i := 75) (by decide +kernel) rfl), (mw (i := 76) (by decide +kernel) rfl), (mw (i := 37) (by decide +kernel) rfl), by decide, dv_9⟩
theorem nw_RL_44 : NW RL 44 13 := ⟨RX11, TX11, 7, tyX11, rfl, rfl, lay_13, tyX11_ok, (mw (i := 1244) (by decide +kernel) rfl), (mw (i := 1245) (by decide +kernel) rfl), (mw (i := 51) (by decide +kernel) rfl), by decide, dv_13⟩
theorem dL_law_0 : decode cL_law 0 = .ok (.new 14, 3) := by decide +kernel
theorem dL_law_3 : decode cL_law 3 = .ok (.dup, 1) := by decide +kernel
theorem dL_law_4 : decode cL_law 4 = .ok (.invokespecial 212, 3) := by decide +kernel
theorem dL_law_7 : decode cL_law 7 = .ok (.astore_n 1, 1) := by decide +kernel
theorem dL_law_8 : decode cL_law 8 = .ok (.bipush 7, 2) := by decide +kernel
theorem dL_law_10 : decode cL_law 10 = .ok (.newarray .int, 2) := by decide +kernel
theorem dL_law_12 : decode cL_law 12 = .ok (.astore_n 2, 1) := by decide +kernel
theorem dL_law_13 : decode cL_law 13 = .ok (.new 44, 3) := by decide +kernel
theorem dL_law_16 : decode cL_law 16 = .ok (.dup, 1) := by decide +kernel
theorem dL_law_17 : decode cL_law 17 = .ok (.invokespecial 213, 3) := by decide +kernel
theorem dL_law_20 : decode cL_law 20 = .ok (.astore_n 3, 1) := by decide +kernel
theorem dL_law_21 : decode cL_law 21 = .ok (.aload_n 3, 1) := by decide +kernel
theorem dL_law_22 : decode cL_law 22 = .ok (.aload_n 0, 1) := by decide +kernel
theorem dL_law_23 : decode cL_law 23 = .ok (.invokestatic 214, 3) := by decide +kernel
theorem dL_law_26 : decode cL_law 26 = .ok (.astore 4, 2) := by decide +kernel
theorem dL_law_28 : decode cL_law 28 = .ok (.aload_n 1, 1) := by decide +kernel
theorem dL_law_29 : decode cL_law 29 = .ok (.aload_n 1, 1) := by decide +kernel
theorem dL_law_30 : decode cL_law 30 = .ok (.aload_n 2, 1) := by decide +kernel
theorem dL_law_31 : decode cL_law 31 = .ok (.aload 4, 2) := by decide +kernel
theorem dL_law_33 : decode cL_law 33 = .ok (.invokestatic 217, 3) := by decide +kernel
theorem dL_law_36 : decode cL_law 36 = .ok (.invokevirtual 221, 3) := by decide +kernel
theorem dL_law_39 : decode cL_law 39 = .ok (.iconst 2, 1) := by decide +kernel
theorem dL_law_40 : decode cL_law 40 = .ok (.if_icmp .eq 5, 3) := by decide +kernel
theorem dL_law_45 : decode cL_law 45 = .ok (.bipush 100, 2) := by decide +kernel
theorem dL_law_47 : decode cL_law 47 = .ok (.newarray .long, 2) := by decide +kernel
theorem dL_law_49 : decode cL_law 49 = .ok (.astore 5, 2) := by decide +kernel
theorem dL_law_51 : decode cL_law 51 = .ok (.bipush 100, 2) := by decide +kernel
theorem dL_law_53 : decode cL_law 53 = .ok (.newarray .long, 2) := by decide +kernel
theorem dL_law_55 : decode cL_law 55 = .ok (.astore 6, 2) := by decide +kernel
theorem dL_law_57 : decode cL_law 57 = .ok (.iconst 0, 1) := by decide +kernel
theorem dL_law_58 : decode cL_law 58 = .ok (.istore 7, 2) := by decide +kernel
theorem dL_law_60 : decode cL_law 60 = .ok (.iload 7, 2) := by decide +kernel
theorem dL_law_62 : decode cL_law 62 = .ok (.bipush 18, 2) := by decide +kernel
theorem dL_law_64 : decode cL_law 64 = .ok (.if_icmp .ge 790, 3) := by decide +kernel
theorem dL_law_67 : decode cL_law 67 = .ok (.aload_n 0, 1) := by decide +kernel
theorem dL_law_68 : decode cL_law 68 = .ok (.bipush 10, 2) := by decide +kernel
theorem dL_law_70 : decode cL_law 70 = .ok (.iload 7, 2) := by decide +kernel
theorem dL_law_72 : decode cL_law 72 = .ok (.iadd, 1) := by decide +kernel
theorem dL_law_73 : decode cL_law 73 = .ok (.invokestatic 39, 3) := by decide +kernel
theorem dL_law_76 : decode cL_law 76 = .ok (.istore 8, 2) := by decide +kernel
theorem dL_law_78 : decode cL_law 78 = .ok (.iload 8, 2) := by decide +kernel
theorem dL_law_80 : decode cL_law 80 = .ok (.iconst 1, 1) := by decide +kernel
theorem dL_law_81 : decode cL_law 81 = .ok (.iand, 1) := by decide +kernel
theorem dL_law_82 : decode cL_law 82 = .ok (.istore 9, 2) := by decide +kernel
theorem dL_law_84 : decode cL_law 84 = .ok (.aload_n 1, 1) := by decide +kernel
theorem dL_law_85 : decode cL_law 85 = .ok (.bipush 14, 2) := by decide +kernel
theorem dL_law_87 : decode cL_law 87 = .ok (.invokevirtual 206, 3) := by decide +kernel
theorem dL_law_90 : decode cL_law 90 = .ok (.istore 10, 2) := by decide +kernel
theorem dL_law_92 : decode cL_law 92 = .ok (.iload 10, 2) := by decide +kernel
theorem dL_law_94 : decode cL_law 94 = .ok (.ifCond .ne 7, 3) := by decide +kernel
theorem dL_law_97 : decode cL_law 97 = .ok (.iconst 0, 1) := by decide +kernel
theorem dL_law_98 : decode cL_law 98 = .ok (.goto 18, 3) := by decide +kernel
theorem dL_law_101 : decode cL_law 101 = .ok (.iload 8, 2) := by decide +kernel
theorem dL_law_103 : decode cL_law 103 = .ok (.iconst 5, 1) := by decide +kernel
theorem dL_law_104 : decode cL_law 104 = .ok (.iushr, 1) := by decide +kernel
theorem dL_law_105 : decode cL_law 105 = .ok (.bipush 7, 2) := by decide +kernel
theorem dL_law_107 : decode cL_law 107 = .ok (.iand, 1) := by decide +kernel
theorem dL_law_108 : decode cL_law 108 = .ok (.aload_n 1, 1) := by decide +kernel
theorem dL_law_109 : decode cL_law 109 = .ok (.iload 10, 2) := by decide +kernel
theorem dL_law_111 : decode cL_law 111 = .ok (.iconst 4, 1) := by decide +kernel
theorem dL_law_112 : decode cL_law 112 = .ok (.invokevirtual 152, 3) := by decide +kernel
theorem dL_law_115 : decode cL_law 115 = .ok (.irem, 1) := by decide +kernel
theorem dL_law_116 : decode cL_law 116 = .ok (.istore 11, 2) := by decide +kernel
theorem dL_law_118 : decode cL_law 118 = .ok (.iload 8, 2) := by decide +kernel
theorem dL_law_120 : decode cL_law 120 = .ok (.bipush 8, 2) := by decide +kernel
theorem dL_law_122 : decode cL_law 122 = .ok (.iushr, 1) := by decide +kernel
theorem dL_law_123 : decode cL_law 123 = .ok (.bipush 7, 2) := by decide +kernel
theorem dL_law_125 : decode cL_law 125 = .ok (.iand, 1) := by decide +kernel
theorem dL_law_126 : decode cL_law 126 = .ok (.aload_n 1, 1) := by decide +kernel
theorem dL_law_127 : decode cL_law 127 = .ok (.iconst 5, 1) := by decide +kernel
theorem dL_law_128 : decode cL_law 128 = .ok (.invokevirtual 206, 3) := by decide +kernel
theorem dL_law_131 : decode cL_law 131 = .ok (.irem, 1) := by decide +kernel
theorem dL_law_132 : decode cL_law 132 = .ok (.istore 12, 2) := by decide +kernel
theorem dL_law_134 : decode cL_law 134 = .ok (.iconst 1, 1) := by decide +kernel
theorem dL_law_135 : decode cL_law 135 = .ok (.iload 8, 2) := by decide +kernel
theorem dL_law_137 : decode cL_law 137 = .ok (.bipush 11, 2) := by decide +kernel
theorem dL_law_139 : decode cL_law 139 = .ok (.iushr, 1) := by decide +kernel
theorem dL_law_140 : decode cL_law 140 = .ok (.bipush 7, 2) := by decide +kernel
theorem dL_law_142 : decode cL_law 142 = .ok (.iand, 1) := by decide +kernel
theorem dL_law_143 : decode cL_law 143 = .ok (.aload_n 1, 1) := by decide +kernel
theorem dL_law_144 : decode cL_law 144 = .ok (.iconst 3, 1) := by decide +kernel
theorem dL_law_145 : decode cL_law 145 = .ok (.invokevirtual 206, 3) := by decide +kernel
theorem dL_law_148 : decode cL_law 148 = .ok (.irem, 1) := by decide +kernel
theorem dL_law_149 : decode cL_law 149 = .ok (.iadd, 1) := by decide +kernel
theorem dL_law_150 : decode cL_law 150 = .ok (.istore 13, 2) := by decide +kernel
theorem dL_law_152 : decode cL_law 152 = .ok (.iload 8, 2) := by decide +kernel
theorem dL_law_154 : decode cL_law 154 = .ok (.bipush 14, 2) := by decide +kernel
theorem dL_law_156 : decode cL_law 156 = .ok (.iushr, 1) := by decide +kernel
theorem dL_law_157 : decode cL_law 157 = .ok (.iconst 3, 1) := by decide +kernel
theorem dL_law_158 : decode cL_law 158 = .ok (.iand, 1) := by decide +kernel
theorem dL_law_159 : decode cL_law 159 = .ok (.iconst 3, 1) := by decide +kernel
theorem dL_law_160 : decode cL_law 160 = .ok (.irem, 1) := by decide +kernel
theorem dL_law_161 : decode cL_law 161 = .ok (.istore 14, 2) := by decide +kernel
theorem dL_law_163 : decode cL_law 163 = .ok (.aload_n 1, 1) := by decide +kernel
theorem dL_law_164 : decode cL_law 164 = .ok (.aload 5, 2) := by decide +kernel
theorem dL_law_166 : decode cL_law 166 = .ok (.invokestatic 224, 3) := by decide +kernel
theorem dL_law_169 : decode cL_law 169 = .ok (.aload_n 1, 1) := by decide +kernel
theorem dL_law_170 : decode cL_law 170 = .ok (.iload 9, 2) := by decide +kernel
theorem dL_law_172 : decode cL_law 172 = .ok (.invokevirtual 228, 3) := by decide +kernel
theorem dL_law_175 : decode cL_law 175 = .ok (.i2l, 1) := by decide +kernel
theorem dL_law_176 : decode cL_law 176 = .ok (.aload 5, 2) := by decide +kernel
theorem dL_law_178 : decode cL_law 178 = .ok (.iconst 3, 1) := by decide +kernel
theorem dL_law_179 : decode cL_law 179 = .ok (.laload, 1) := by decide +kernel
theorem dL_law_180 : decode cL_law 180 = .ok (.lcmp, 1) := by decide +kernel
theorem dL_law_181 : decode cL_law 181 = .ok (.ifCond .ne 17, 3) := by decide +kernel
theorem dL_law_184 : decode cL_law 184 = .ok (.aload_n 1, 1) := by decide +kernel
theorem dL_law_185 : decode cL_law 185 = .ok (.invokevirtual 209, 3) := by decide +kernel
theorem dL_law_188 : decode cL_law 188 = .ok (.ifCond .ne 10, 3) := by decide +kernel
theorem dL_law_191 : decode cL_law 191 = .ok (.aload_n 1, 1) := by decide +kernel
theorem dL_law_192 : decode cL_law 192 = .ok (.invokestatic 231, 3) := by decide +kernel
theorem dL_law_195 : decode cL_law 195 = .ok (.ifCond .ne 5, 3) := by decide +kernel
theorem dL_law_200 : decode cL_law 200 = .ok (.iload 8, 2) := by decide +kernel
theorem dL_law_202 : decode cL_law 202 = .ok (.iconst 1, 1) := by decide +kernel
theorem dL_law_203 : decode cL_law 203 = .ok (.iushr, 1) := by decide +kernel
theorem dL_law_204 : decode cL_law 204 = .ok (.bipush 15, 2) := by decide +kernel
theorem dL_law_206 : decode cL_law 206 = .ok (.iand, 1) := by decide +kernel
theorem dL_law_207 : decode cL_law 207 = .ok (.istore 15, 2) := by decide +kernel
theorem dL_law_209 : decode cL_law 209 = .ok (.iload 15, 2) := by decide +kernel
theorem dL_law_211 : decode cL_law 211 = .ok (.iconst 3, 1) := by decide +kernel
theorem dL_law_212 : decode cL_law 212 = .ok (.if_icmp .ge 69, 3) := by decide +kernel
theorem dL_law_215 : decode cL_law 215 = .ok (.aload_n 1, 1) := by decide +kernel
theorem dL_law_216 : decode cL_law 216 = .ok (.iload 11, 2) := by decide +kernel
theorem dL_law_218 : decode cL_law 218 = .ok (.invokevirtual 235, 3) := by decide +kernel
theorem dL_law_221 : decode cL_law 221 = .ok (.ifCond .ne 559, 3) := by decide +kernel
theorem dL_law_224 : decode cL_law 224 = .ok (.aload_n 1, 1) := by decide +kernel
theorem dL_law_225 : decode cL_law 225 = .ok (.iload 11, 2) := by decide +kernel
theorem dL_law_227 : decode cL_law 227 = .ok (.iconst 0, 1) := by decide +kernel
theorem dL_law_228 : decode cL_law 228 = .ok (.invokevirtual 238, 3) := by decide +kernel
theorem dL_law_231 : decode cL_law 231 = .ok (.istore 16, 2) := by decide +kernel
theorem dL_law_233 : decode cL_law 233 = .ok (.aload_n 1, 1) := by decide +kernel
theorem dL_law_234 : decode cL_law 234 = .ok (.iload 11, 2) := by decide +kernel
theorem dL_law_236 : decode cL_law 236 = .ok (.invokevirtual 242, 3) := by decide +kernel
theorem dL_law_239 : decode cL_law 239 = .ok (.iload 16, 2) := by decide +kernel
theorem dL_law_241 : decode cL_law 241 = .ok (.if_icmp .ne 35, 3) := by decide +kernel
theorem dL_law_244 : decode cL_law 244 = .ok (.aload_n 1, 1) := by decide +kernel
theorem dL_law_245 : decode cL_law 245 = .ok (.iload 11, 2) := by decide +kernel
theorem dL_law_247 : decode cL_law 247 = .ok (.invokevirtual 235, 3) := by decide +kernel
theorem dL_law_250 : decode cL_law 250 = .ok (.iconst 3, 1) := by decide +kernel
theorem dL_law_251 : decode cL_law 251 = .ok (.if_icmp .ne 25, 3) := by decide +kernel
theorem dL_law_254 : decode cL_law 254 = .ok (.aload_n 1, 1) := by decide +kernel
theorem dL_law_255 : decode cL_law 255 = .ok (.iload 10, 2) := by decide +kernel
theorem dL_law_257 : decode cL_law 257 = .ok (.iconst 3, 1) := by decide +kernel
theorem dL_law_258 : decode cL_law 258 = .ok (.invokevirtual 152, 3) := by decide +kernel
theorem dL_law_261 : decode cL_law 261 = .ok (.i2l, 1) := by decide +kernel
theorem dL_law_262 : decode cL_law 262 = .ok (.aload 5, 2) := by decide +kernel
theorem dL_law_264 : decode cL_law 264 = .ok (.bipush 20, 2) := by decide +kernel
theorem dL_law_266 : decode cL_law 266 = .ok (.iload 10, 2) := by decide +kernel
