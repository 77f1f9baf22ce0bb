theorem mi_X10_addsAct : MI yX10_addsAct cX10_addsAct 4 (some .int) 1 := ⟨by decide +kernel, (mw (i := 2189) (by decide +kernel) rfl), (mw (i := 176) (by decide +kernel) rfl), by decide +kernel, by decide +kernel⟩
theorem mi_X10_addsWord : MI yX10_addsWord cX10_addsWord 5 none 1 := ⟨by decide +kernel, (mw (i := 2205) (by decide +kernel) rfl), (mw (i := 176) (by decide +kernel) rfl), by decide +kernel, by decide +kernel⟩
theorem mi_X10_clauseOf : MI yX10_clauseOf cX10_clauseOf 2 (some .int) 1 := ⟨by decide +kernel, (mw (i := 2282) (by decide +kernel) rfl), (mw (i := 176) (by decide +kernel) rfl), by decide +kernel, by decide +kernel⟩
theorem mi_X10_comesLeaf : MI yX10_comesLeaf cX10_comesLeaf 3 none 1 := ⟨by decide +kernel, (mw (i := 2216) (by decide +kernel) rfl), (mw (i := 176) (by decide +kernel) rfl), by decide +kernel, by decide +kernel⟩
theorem mi_X10_interlines : MI yX10_interlines cX10_interlines 6 none 3 := ⟨by decide +kernel, (mw (i := 2298) (by decide +kernel) rfl), (mw (i := 176) (by decide +kernel) rfl), by decide +kernel, by decide +kernel⟩
theorem mi_X10_kindHere : MI yX10_kindHere cX10_kindHere 1 (some .int) 0 := ⟨by decide +kernel, (mw (i := 2182) (by decide +kernel) rfl), (mw (i := 176) (by decide +kernel) rfl), by decide +kernel, by decide +kernel⟩
theorem mi_X10_lastOf : MI yX10_lastOf cX10_lastOf 2 (some .int) 1 := ⟨by decide +kernel, (mw (i := 2315) (by decide +kernel) rfl), (mw (i := 176) (by decide +kernel) rfl), by decide +kernel, by decide +kernel⟩
theorem mi_X10_marks : MI yX10_marks cX10_marks 2 none 1 := ⟨by decide +kernel, (mw (i := 2273) (by decide +kernel) rfl), (mw (i := 176) (by decide +kernel) rfl), by decide +kernel, by decide +kernel⟩
theorem mi_X10_ofWord : MI yX10_ofWord cX10_ofWord 3 (some .int) 2 := ⟨by decide +kernel, (mw (i := 2261) (by decide +kernel) rfl), (mw (i := 176) (by decide +kernel) rfl), by decide +kernel, by decide +kernel⟩
theorem mi_X10_openAct : MI yX10_openAct cX10_openAct 1 (some .int) 0 := ⟨by decide +kernel, (mw (i := 2174) (by decide +kernel) rfl), (mw (i := 176) (by decide +kernel) rfl), by decide +kernel, by decide +kernel⟩
theorem mi_X10_openWord : MI yX10_openWord cX10_openWord 2 (some .int) 1 := ⟨by decide +kernel, (mw (i := 2253) (by decide +kernel) rfl), (mw (i := 176) (by decide +kernel) rfl), by decide +kernel, by decide +kernel⟩
theorem mi_X10_putsWord : MI yX10_putsWord cX10_putsWord 4 none 3 := ⟨by decide +kernel, (mw (i := 2269) (by decide +kernel) rfl), (mw (i := 176) (by decide +kernel) rfl), by decide +kernel, by decide +kernel⟩
theorem mi_X10_readsAct : MI yX10_readsAct cX10_readsAct 2 none 0 := ⟨by decide +kernel, (mw (i := 2170) (by decide +kernel) rfl), (mw (i := 176) (by decide +kernel) rfl), by decide +kernel, by decide +kernel⟩
theorem mi_X10_readsBody : MI yX10_readsBody cX10_readsBody 2 none 1 := ⟨by decide +kernel, (mw (i := 2197) (by decide +kernel) rfl), (mw (i := 176) (by decide +kernel) rfl), by decide +kernel, by decide +kernel⟩
theorem mi_X10_readsInsert : MI yX10_readsInsert cX10_readsInsert 2 none 0 := ⟨by decide +kernel, (mw (i := 2294) (by decide +kernel) rfl), (mw (i := 176) (by decide +kernel) rfl), by decide +kernel, by decide +kernel⟩
theorem mi_X10_readsItem : MI yX10_readsItem cX10_readsItem 2 none 1 := ⟨by decide +kernel, (mw (i := 2201) (by decide +kernel) rfl), (mw (i := 176) (by decide +kernel) rfl), by decide +kernel, by decide +kernel⟩
theorem mi_X10_readsOut : MI yX10_readsOut cX10_readsOut 3 none 0 := ⟨by decide +kernel, (mw (i := 2278) (by decide +kernel) rfl), (mw (i := 176) (by decide +kernel) rfl), by decide +kernel, by decide +kernel⟩
theorem mi_X10_readsStrike : MI yX10_readsStrike cX10_readsStrike 2 none 0 := ⟨by decide +kernel, (mw (i := 2241) (by decide +kernel) rfl), (mw (i := 176) (by decide +kernel) rfl), by decide +kernel, by decide +kernel⟩
theorem mi_X10_seals : MI yX10_seals cX10_seals 5 (some .int) 1 := ⟨by decide +kernel, (mw (i := 2319) (by decide +kernel) rfl), (mw (i := 176) (by decide +kernel) rfl), by decide +kernel, by decide +kernel⟩
theorem mi_X10_standing : MI yX10_standing cX10_standing 4 (some .int) 1 := ⟨by decide +kernel, (mw (i := 2311) (by decide +kernel) rfl), (mw (i := 176) (by decide +kernel) rfl), by decide +kernel, by decide +kernel⟩
theorem mi_X10_stands : MI yX10_stands cX10_stands 2 (some .boolean) 1 := ⟨by decide +kernel, (mw (i := 2257) (by decide +kernel) rfl), (mw (i := 176) (by decide +kernel) rfl), by decide +kernel, by decide +kernel⟩
theorem mi_X10_strikes : MI yX10_strikes cX10_strikes 2 none 1 := ⟨by decide +kernel, (mw (i := 2265) (by decide +kernel) rfl), (mw (i := 176) (by decide +kernel) rfl), by decide +kernel, by decide +kernel⟩
theorem mi_X10_strikesClause : MI yX10_strikesClause cX10_strikesClause 5 (some .int) 1 := ⟨by decide +kernel, (mw (i := 2286) (by decide +kernel) rfl), (mw (i := 176) (by decide +kernel) rfl), by decide +kernel, by decide +kernel⟩
theorem mi_X10_whySeal : MI yX10_whySeal cX10_whySeal 4 (some .int) 2 := ⟨by decide +kernel, (mw (i := 2307) (by decide +kernel) rfl), (mw (i := 176) (by decide +kernel) rfl), by decide +kernel, by decide +kernel⟩
theorem mi_X10_whyStrike : MI yX10_whyStrike cX10_whyStrike 3 (some .int) 1 := ⟨by decide +kernel, (mw (i := 2249) (by decide +kernel) rfl), (mw (i := 176) (by decide +kernel) rfl), by decide +kernel, by decide +kernel⟩
theorem mi_X10_wordHere : MI yX10_wordHere cX10_wordHere 2 (some .int) 0 := ⟨by decide +kernel, (mw (i := 2245) (by decide +kernel) rfl), (mw (i := 176) (by decide +kernel) rfl), by decide +kernel, by decide +kernel⟩
theorem lk_RX10_148 : LV RX10 148 yX10_addsWord := ⟨(mw (i := 2202) (by decide +kernel) rfl), (mw (i := 2204) (by decide +kernel) rfl), (mw (i := 59) (by decide +kernel) rfl)⟩
theorem lk_RX10_151 : LV RX10 151 yX10_opensClause := ⟨(mw (i := 2225) (by decide +kernel) rfl), (mw (i := 2227) (by decide +kernel) rfl), (mw (i := 64) (by decide +kernel) rfl)⟩
theorem lk_RX10_154 : LV RX10 154 yX10_closesClause := ⟨(mw (i := 2229) (by decide +kernel) rfl), (mw (i := 2231) (by decide +kernel) rfl), (mw (i := 65) (by decide +kernel) rfl)⟩
theorem lk_RX10_157 : LV RX10 157 yX10_readsItem := ⟨(mw (i := 2198) (by decide +kernel) rfl), (mw (i := 2200) (by decide +kernel) rfl), (mw (i := 58) (by decide +kernel) rfl)⟩
theorem lk_RX10_160 : LV RX10 160 yX10_partOf := ⟨(mw (i := 2206) (by decide +kernel) rfl), (mw (i := 2208) (by decide +kernel) rfl), (mw (i := 60) (by decide +kernel) rfl)⟩
theorem lk_RX10_163 : LV RX10 163 yX10_comesLeaf := ⟨(mw (i := 2213) (by decide +kernel) rfl), (mw (i := 2215) (by decide +kernel) rfl), (mw (i := 61) (by decide +kernel) rfl)⟩
theorem lk_RX10_166 : LV RX10 166 yX10_mateOf := ⟨(mw (i := 2217) (by decide +kernel) rfl), (mw (i := 2219) (by decide +kernel) rfl), (mw (i := 62) (by decide +kernel) rfl)⟩
theorem lk_RX10_171 : LV RX10 171 yX10_isWord := ⟨(mw (i := 2140) (by decide +kernel) rfl), (mw (i := 2142) (by decide +kernel) rfl), (mw (i := 45) (by decide +kernel) rfl)⟩
theorem lk_RX10_179 : LV RX10 179 yX10_openAct := ⟨(mw (i := 2171) (by decide +kernel) rfl), (mw (i := 2173) (by decide +kernel) rfl), (mw (i := 52) (by decide +kernel) rfl)⟩
theorem lk_RX10_182 : LV RX10 182 yX10_kindHere := ⟨(mw (i := 2179) (by decide +kernel) rfl), (mw (i := 2181) (by decide +kernel) rfl), (mw (i := 54) (by decide +kernel) rfl)⟩
theorem lk_RX10_185 : LV RX10 185 yX10_addsAct := ⟨(mw (i := 2186) (by decide +kernel) rfl), (mw (i := 2188) (by decide +kernel) rfl), (mw (i := 55) (by decide +kernel) rfl)⟩
theorem lk_RX10_188 : LV RX10 188 yX10_readsBody := ⟨(mw (i := 2194) (by decide +kernel) rfl), (mw (i := 2196) (by decide +kernel) rfl), (mw (i := 57) (by decide +kernel) rfl)⟩
theorem lk_RX10_191 : LV RX10 191 yX10_wordHere := ⟨(mw (i := 2242) (by decide +kernel) rfl), (mw (i := 2244) (by decide +kernel) rfl), (mw (i := 68) (by decide +kernel) rfl)⟩
theorem lk_RX10_194 : LV RX10 194 yX10_whyStrike := ⟨(mw (i := 2246) (by decide +kernel) rfl), (mw (i := 2248) (by decide +kernel) rfl), (mw (i := 69) (by decide +kernel) rfl)⟩
theorem lk_RX10_197 : LV RX10 197 yX10_strikes := ⟨(mw (i := 2262) (by decide +kernel) rfl), (mw (i := 2264) (by decide +kernel) rfl), (mw (i := 73) (by decide +kernel) rfl)⟩
theorem lk_RX10_200 : LV RX10 200 yX10_openWord := ⟨(mw (i := 2250) (by decide +kernel) rfl), (mw (i := 2252) (by decide +kernel) rfl), (mw (i := 70) (by decide +kernel) rfl)⟩
theorem lk_RX10_203 : LV RX10 203 yX10_clauseOf := ⟨(mw (i := 2279) (by decide +kernel) rfl), (mw (i := 2281) (by decide +kernel) rfl), (mw (i := 77) (by decide +kernel) rfl)⟩
theorem lk_RX10_206 : LV RX10 206 yX10_strikesClause := ⟨(mw (i := 2283) (by decide +kernel) rfl), (mw (i := 2285) (by decide +kernel) rfl), (mw (i := 78) (by decide +kernel) rfl)⟩
theorem lk_RX10_209 : LV RX10 209 yX10_ofWord := ⟨(mw (i := 2258) (by decide +kernel) rfl), (mw (i := 2260) (by decide +kernel) rfl), (mw (i := 72) (by decide +kernel) rfl)⟩
theorem lk_RX10_212 : LV RX10 212 yX10_interlines := ⟨(mw (i := 2295) (by decide +kernel) rfl), (mw (i := 2297) (by decide +kernel) rfl), (mw (i := 80) (by decide +kernel) rfl)⟩
theorem lk_RX10_327 : LV RX10 327 yX10_lastOf := ⟨(mw (i := 2312) (by decide +kernel) rfl), (mw (i := 2314) (by decide +kernel) rfl), (mw (i := 84) (by decide +kernel) rfl)⟩
theorem lk_RX10_330 : LV RX10 330 yX10_stands := ⟨(mw (i := 2254) (by decide +kernel) rfl), (mw (i := 2256) (by decide +kernel) rfl), (mw (i := 71) (by decide +kernel) rfl)⟩
theorem lk_RX10_333 : LSt RX10 333 yX10_one := ⟨(mw (i := 2287) (by decide +kernel) rfl), (mw (i := 2288) (by decide +kernel) rfl)⟩
theorem lk_RX10_337 : LV RX10 337 yX10_putsWord := ⟨(mw (i := 2266) (by decide +kernel) rfl), (mw (i := 2268) (by decide +kernel) rfl), (mw (i := 74) (by decide +kernel) rfl)⟩
theorem lk_RX10_340 : LV RX10 340 yX10_marks := ⟨(mw (i := 2270) (by decide +kernel) rfl), (mw (i := 2272) (by decide +kernel) rfl), (mw (i := 75) (by decide +kernel) rfl)⟩
theorem lk_RX10_343 : LV RX10 343 yX10_standing := ⟨(mw (i := 2308) (by decide +kernel) rfl), (mw (i := 2310) (by decide +kernel) rfl), (mw (i := 83) (by decide +kernel) rfl)⟩
theorem dX10_comesLeaf_0 : decode cX10_comesLeaf 0 = .ok (.aload_n 0, 1) := by decide +kernel
theorem dX10_comesLeaf_1 : decode cX10_comesLeaf 1 = .ok (.iload_n 1, 1) := by decide +kernel
theorem dX10_comesLeaf_2 : decode cX10_comesLeaf 2 = .ok (.invokevirtual 166, 3) := by decide +kernel
theorem dX10_comesLeaf_5 : decode cX10_comesLeaf 5 = .ok (.istore_n 2, 1) := by decide +kernel
theorem dX10_comesLeaf_6 : decode cX10_comesLeaf 6 = .ok (.aload_n 0, 1) := by decide +kernel
theorem dX10_comesLeaf_7 : decode cX10_comesLeaf 7 = .ok (.getfield 9, 3) := by decide +kernel
theorem dX10_comesLeaf_10 : decode cX10_comesLeaf 10 = .ok (.bipush 99, 2) := by decide +kernel
theorem dX10_comesLeaf_12 : decode cX10_comesLeaf 12 = .ok (.iload_n 1, 1) := by decide +kernel
theorem dX10_comesLeaf_13 : decode cX10_comesLeaf 13 = .ok (.iadd, 1) := by decide +kernel
theorem dX10_comesLeaf_14 : decode cX10_comesLeaf 14 = .ok (.iload_n 2, 1) := by decide +kernel
theorem dX10_comesLeaf_15 : decode cX10_comesLeaf 15 = .ok (.iconst (-1), 1) := by decide +kernel
theorem dX10_comesLeaf_16 : decode cX10_comesLeaf 16 = .ok (.if_icmp .eq 20, 3) := by decide +kernel
theorem dX10_comesLeaf_19 : decode cX10_comesLeaf 19 = .ok (.aload_n 0, 1) := by decide +kernel
theorem dX10_comesLeaf_20 : decode cX10_comesLeaf 20 = .ok (.getfield 9, 3) := by decide +kernel
theorem dX10_comesLeaf_23 : decode cX10_comesLeaf 23 = .ok (.bipush 99, 2) := by decide +kernel
theorem dX10_comesLeaf_25 : decode cX10_comesLeaf 25 = .ok (.iload_n 2, 1) := by decide +kernel
theorem dX10_comesLeaf_26 : decode cX10_comesLeaf 26 = .ok (.iadd, 1) := by decide +kernel
theorem dX10_comesLeaf_27 : decode cX10_comesLeaf 27 = .ok (.iaload, 1) := by decide +kernel
theorem dX10_comesLeaf_28 : decode cX10_comesLeaf 28 = .ok (.iconst 2, 1) := by decide +kernel
theorem dX10_comesLeaf_29 : decode cX10_comesLeaf 29 = .ok (.if_icmp .ne 7, 3) := by decide +kernel
theorem dX10_comesLeaf_32 : decode cX10_comesLeaf 32 = .ok (.iconst 1, 1) := by decide +kernel
theorem dX10_comesLeaf_33 : decode cX10_comesLeaf 33 = .ok (.goto 4, 3) := by decide +kernel
theorem dX10_comesLeaf_36 : decode cX10_comesLeaf 36 = .ok (.iconst 0, 1) := by decide +kernel
theorem dX10_comesLeaf_37 : decode cX10_comesLeaf 37 = .ok (.iastore, 1) := by decide +kernel
theorem dX10_comesLeaf_38 : decode cX10_comesLeaf 38 = .ok (.return_, 1) := by decide +kernel
theorem dX10_addsWord_0 : decode cX10_addsWord 0 = .ok (.aload_n 0, 1) := by decide +kernel
theorem dX10_addsWord_1 : decode cX10_addsWord 1 = .ok (.getfield 9, 3) := by decide +kernel
theorem dX10_addsWord_4 : decode cX10_addsWord 4 = .ok (.iconst 4, 1) := by decide +kernel
theorem dX10_addsWord_5 : decode cX10_addsWord 5 = .ok (.iaload, 1) := by decide +kernel
theorem dX10_addsWord_6 : decode cX10_addsWord 6 = .ok (.istore_n 2, 1) := by decide +kernel
theorem dX10_addsWord_7 : decode cX10_addsWord 7 = .ok (.bipush 127, 2) := by decide +kernel
theorem dX10_addsWord_9 : decode cX10_addsWord 9 = .ok (.bipush 13, 2) := by decide +kernel
theorem dX10_addsWord_11 : decode cX10_addsWord 11 = .ok (.iload_n 2, 1) := by decide +kernel
theorem dX10_addsWord_12 : decode cX10_addsWord 12 = .ok (.imul, 1) := by decide +kernel
theorem dX10_addsWord_13 : decode cX10_addsWord 13 = .ok (.iadd, 1) := by decide +kernel
theorem dX10_addsWord_14 : decode cX10_addsWord 14 = .ok (.istore_n 3, 1) := by decide +kernel
theorem dX10_addsWord_15 : decode cX10_addsWord 15 = .ok (.iconst 0, 1) := by decide +kernel
theorem dX10_addsWord_16 : decode cX10_addsWord 16 = .ok (.istore 4, 2) := by decide +kernel
theorem dX10_addsWord_18 : decode cX10_addsWord 18 = .ok (.iload 4, 2) := by decide +kernel
theorem dX10_addsWord_20 : decode cX10_addsWord 20 = .ok (.bipush 13, 2) := by decide +kernel
theorem dX10_addsWord_22 : decode cX10_addsWord 22 = .ok (.if_icmp .ge 19, 3) := by decide +kernel
theorem dX10_addsWord_25 : decode cX10_addsWord 25 = .ok (.aload_n 0, 1) := by decide +kernel
theorem dX10_addsWord_26 : decode cX10_addsWord 26 = .ok (.getfield 9, 3) := by decide +kernel
theorem dX10_addsWord_29 : decode cX10_addsWord 29 = .ok (.iload_n 3, 1) := by decide +kernel
theorem dX10_addsWord_30 : decode cX10_addsWord 30 = .ok (.iload 4, 2) := by decide +kernel
theorem dX10_addsWord_32 : decode cX10_addsWord 32 = .ok (.iadd, 1) := by decide +kernel
theorem dX10_addsWord_33 : decode cX10_addsWord 33 = .ok (.iconst 0, 1) := by decide +kernel
theorem dX10_addsWord_34 : decode cX10_addsWord 34 = .ok (.iastore, 1) := by decide +kernel
theorem dX10_addsWord_35 : decode cX10_addsWord 35 = .ok (.iinc 4 1, 3) := by decide +kernel
theorem dX10_addsWord_38 : decode cX10_addsWord 38 = .ok (.goto (-20), 3) := by decide +kernel
theorem dX10_addsWord_41 : decode cX10_addsWord 41 = .ok (.aload_n 0, 1) := by decide +kernel
theorem dX10_addsWord_42 : decode cX10_addsWord 42 = .ok (.getfield 9, 3) := by decide +kernel
theorem dX10_addsWord_45 : decode cX10_addsWord 45 = .ok (.iload_n 3, 1) := by decide +kernel
theorem dX10_addsWord_46 : decode cX10_addsWord 46 = .ok (.iconst 0, 1) := by decide +kernel
theorem dX10_addsWord_47 : decode cX10_addsWord 47 = .ok (.iadd, 1) := by decide +kernel
theorem dX10_addsWord_48 : decode cX10_addsWord 48 = .ok (.aload_n 0, 1) := by decide +kernel
theorem dX10_addsWord_49 : decode cX10_addsWord 49 = .ok (.aload_n 0, 1) := by decide +kernel
theorem dX10_addsWord_50 : decode cX10_addsWord 50 = .ok (.getfield 79, 3) := by decide +kernel
theorem dX10_addsWord_53 : decode cX10_addsWord 53 = .ok (.aload_n 0, 1) := by decide +kernel
theorem dX10_addsWord_54 : decode cX10_addsWord 54 = .ok (.getfield 76, 3) := by decide +kernel
theorem dX10_addsWord_57 : decode cX10_addsWord 57 = .ok (.aload_n 0, 1) := by decide +kernel
theorem dX10_addsWord_58 : decode cX10_addsWord 58 = .ok (.getfield 79, 3) := by decide +kernel
theorem dX10_addsWord_61 : decode cX10_addsWord 61 = .ok (.isub, 1) := by decide +kernel
theorem dX10_addsWord_62 : decode cX10_addsWord 62 = .ok (.iconst 0, 1) := by decide +kernel
theorem dX10_addsWord_63 : decode cX10_addsWord 63 = .ok (.invokevirtual 160, 3) := by decide +kernel
theorem dX10_addsWord_66 : decode cX10_addsWord 66 = .ok (.iastore, 1) := by decide +kernel
theorem dX10_addsWord_67 : decode cX10_addsWord 67 = .ok (.aload_n 0, 1) := by decide +kernel
theorem dX10_addsWord_68 : decode cX10_addsWord 68 = .ok (.getfield 9, 3) := by decide +kernel
theorem dX10_addsWord_71 : decode cX10_addsWord 71 = .ok (.iload_n 3, 1) := by decide +kernel
theorem dX10_addsWord_72 : decode cX10_addsWord 72 = .ok (.iconst 1, 1) := by decide +kernel
theorem dX10_addsWord_73 : decode cX10_addsWord 73 = .ok (.iadd, 1) := by decide +kernel
theorem dX10_addsWord_74 : decode cX10_addsWord 74 = .ok (.aload_n 0, 1) := by decide +kernel
theorem dX10_addsWord_75 : decode cX10_addsWord 75 = .ok (.aload_n 0, 1) := by decide +kernel
theorem dX10_addsWord_76 : decode cX10_addsWord 76 = .ok (.getfield 79, 3) := by decide +kernel
theorem dX10_addsWord_79 : decode cX10_addsWord 79 = .ok (.aload_n 0, 1) := by decide +kernel
theorem dX10_addsWord_80 : decode cX10_addsWord 80 = .ok (.getfield 76, 3) := by decide +kernel
theorem dX10_addsWord_83 : decode cX10_addsWord 83 = .ok (.aload_n 0, 1) := by decide +kernel
theorem dX10_addsWord_84 : decode cX10_addsWord 84 = .ok (.getfield 79, 3) := by decide +kernel
theorem dX10_addsWord_87 : decode cX10_addsWord 87 = .ok (.isub, 1) := by decide +kernel
theorem dX10_addsWord_88 : decode cX10_addsWord 88 = .ok (.iconst 1, 1) := by decide +kernel
theorem dX10_addsWord_89 : decode cX10_addsWord 89 = .ok (.invokevirtual 160, 3) := by decide +kernel
theorem dX10_addsWord_92 : decode cX10_addsWord 92 = .ok (.iastore, 1) := by decide +kernel
theorem dX10_addsWord_93 : decode cX10_addsWord 93 = .ok (.aload_n 0, 1) := by decide +kernel
theorem dX10_addsWord_94 : decode cX10_addsWord 94 = .ok (.getfield 9, 3) := by decide +kernel
theorem dX10_addsWord_97 : decode cX10_addsWord 97 = .ok (.iload_n 3, 1) := by decide +kernel
theorem dX10_addsWord_98 : decode cX10_addsWord 98 = .ok (.iconst 3, 1) := by decide +kernel
theorem dX10_addsWord_99 : decode cX10_addsWord 99 = .ok (.iadd, 1) := by decide +kernel
theorem dX10_addsWord_100 : decode cX10_addsWord 100 = .ok (.aload_n 0, 1) := by decide +kernel
theorem dX10_addsWord_101 : decode cX10_addsWord 101 = .ok (.getfield 135, 3) := by decide +kernel
theorem dX10_addsWord_104 : decode cX10_addsWord 104 = .ok (.iastore, 1) := by decide +kernel
theorem dX10_addsWord_105 : decode cX10_addsWord 105 = .ok (.aload_n 0, 1) := by decide +kernel
theorem dX10_addsWord_106 : decode cX10_addsWord 106 = .ok (.getfield 9, 3) := by decide +kernel
theorem dX10_addsWord_109 : decode cX10_addsWord 109 = .ok (.iconst 4, 1) := by decide +kernel
theorem dX10_addsWord_110 : decode cX10_addsWord 110 = .ok (.dup2, 1) := by decide +kernel
theorem dX10_addsWord_111 : decode cX10_addsWord 111 = .ok (.iaload, 1) := by decide +kernel
theorem dX10_addsWord_112 : decode cX10_addsWord 112 = .ok (.iconst 1, 1) := by decide +kernel
theorem dX10_addsWord_113 : decode cX10_addsWord 113 = .ok (.iadd, 1) := by decide +kernel
theorem dX10_addsWord_114 : decode cX10_addsWord 114 = .ok (.iastore, 1) := by decide +kernel
theorem dX10_addsWord_115 : decode cX10_addsWord 115 = .ok (.aload_n 0, 1) := by decide +kernel
theorem dX10_addsWord_116 : decode cX10_addsWord 116 = .ok (.iload_n 1, 1) := by decide +kernel
theorem dX10_addsWord_117 : decode cX10_addsWord 117 = .ok (.bipush 6, 2) := by decide +kernel
theorem dX10_addsWord_119 : decode cX10_addsWord 119 = .ok (.aload_n 0, 1) := by decide +kernel
theorem dX10_addsWord_120 : decode cX10_addsWord 120 = .ok (.iload_n 1, 1) := by decide +kernel
theorem dX10_addsWord_121 : decode cX10_addsWord 121 = .ok (.bipush 6, 2) := by decide +kernel
theorem dX10_addsWord_123 : decode cX10_addsWord 123 = .ok (.invokevirtual 138, 3) := by decide +kernel
theorem dX10_addsWord_126 : decode cX10_addsWord 126 = .ok (.iconst 1, 1) := by decide +kernel
theorem dX10_addsWord_127 : decode cX10_addsWord 127 = .ok (.iadd, 1) := by decide +kernel
theorem dX10_addsWord_128 : decode cX10_addsWord 128 = .ok (.invokevirtual 141, 3) := by decide +kernel
theorem dX10_addsWord_131 : decode cX10_addsWord 131 = .ok (.iload_n 2, 1) := by decide +kernel
theorem dX10_addsWord_132 : decode cX10_addsWord 132 = .ok (.aload_n 0, 1) := by decide +kernel
theorem dX10_addsWord_133 : decode cX10_addsWord 133 = .ok (.getfield 9, 3) := by decide +kernel
theorem dX10_addsWord_136 : decode cX10_addsWord 136 = .ok (.iconst 0, 1) := by decide +kernel
theorem dX10_addsWord_137 : decode cX10_addsWord 137 = .ok (.iaload, 1) := by decide +kernel
theorem dX10_addsWord_138 : decode cX10_addsWord 138 = .ok (.idiv, 1) := by decide +kernel
theorem dX10_addsWord_139 : decode cX10_addsWord 139 = .ok (.istore 4, 2) := by decide +kernel
theorem dX10_addsWord_141 : decode cX10_addsWord 141 = .ok (.iload_n 2, 1) := by decide +kernel
theorem dX10_addsWord_142 : decode cX10_addsWord 142 = .ok (.aload_n 0, 1) := by decide +kernel
theorem dX10_addsWord_143 : decode cX10_addsWord 143 = .ok (.getfield 9, 3) := by decide +kernel
theorem dX10_addsWord_146 : decode cX10_addsWord 146 = .ok (.iconst 0, 1) := by decide +kernel
theorem dX10_addsWord_147 : decode cX10_addsWord 147 = .ok (.iaload, 1) := by decide +kernel
theorem dX10_addsWord_148 : decode cX10_addsWord 148 = .ok (.irem, 1) := by decide +kernel
theorem dX10_addsWord_149 : decode cX10_addsWord 149 = .ok (.ifCond .ne 12, 3) := by decide +kernel
theorem dX10_addsWord_152 : decode cX10_addsWord 152 = .ok (.aload_n 0, 1) := by decide +kernel
theorem dX10_addsWord_153 : decode cX10_addsWord 153 = .ok (.iload 4, 2) := by decide +kernel
theorem dX10_addsWord_155 : decode cX10_addsWord 155 = .ok (.invokevirtual 163, 3) := by decide +kernel
theorem dX10_addsWord_158 : decode cX10_addsWord 158 = .ok (.goto 28, 3) := by decide +kernel
theorem dX10_addsWord_161 : decode cX10_addsWord 161 = .ok (.aload_n 0, 1) := by decide +kernel
theorem dX10_addsWord_162 : decode cX10_addsWord 162 = .ok (.getfield 9, 3) := by decide +kernel
theorem dX10_addsWord_165 : decode cX10_addsWord 165 = .ok (.bipush 99, 2) := by decide +kernel
theorem dX10_addsWord_167 : decode cX10_addsWord 167 = .ok (.iload 4, 2) := by decide +kernel
theorem dX10_addsWord_169 : decode cX10_addsWord 169 = .ok (.iadd, 1) := by decide +kernel
theorem dX10_addsWord_170 : decode cX10_addsWord 170 = .ok (.iaload, 1) := by decide +kernel
theorem dX10_addsWord_171 : decode cX10_addsWord 171 = .ok (.iconst 2, 1) := by decide +kernel
theorem dX10_addsWord_172 : decode cX10_addsWord 172 = .ok (.if_icmp .ne 14, 3) := by decide +kernel
theorem dX10_addsWord_175 : decode cX10_addsWord 175 = .ok (.aload_n 0, 1) := by decide +kernel
theorem dX10_addsWord_176 : decode cX10_addsWord 176 = .ok (.getfield 9, 3) := by decide +kernel
theorem dX10_addsWord_179 : decode cX10_addsWord 179 = .ok (.bipush 99, 2) := by decide +kernel
theorem dX10_addsWord_181 : decode cX10_addsWord 181 = .ok (.iload 4, 2) := by decide +kernel
theorem dX10_addsWord_183 : decode cX10_addsWord 183 = .ok (.iadd, 1) := by decide +kernel
theorem dX10_addsWord_184 : decode cX10_addsWord 184 = .ok (.iconst 0, 1) := by decide +kernel
theorem dX10_addsWord_185 : decode cX10_addsWord 185 = .ok (.iastore, 1) := by decide +kernel
theorem dX10_addsWord_186 : decode cX10_addsWord 186 = .ok (.return_, 1) := by decide +kernel
theorem dX10_readsItem_0 : decode cX10_readsItem 0 = .ok (.aload_n 0, 1) := by decide +kernel
theorem dX10_readsItem_1 : decode cX10_readsItem 1 = .ok (.iconst 2, 1) := by decide +kernel
theorem dX10_readsItem_2 : decode cX10_readsItem 2 = .ok (.invokevirtual 102, 3) := by decide +kernel
theorem dX10_readsItem_5 : decode cX10_readsItem 5 = .ok (.ifCond .eq 41, 3) := by decide +kernel
theorem dX10_readsItem_8 : decode cX10_readsItem 8 = .ok (.aload_n 0, 1) := by decide +kernel
theorem dX10_readsItem_9 : decode cX10_readsItem 9 = .ok (.getfield 9, 3) := by decide +kernel
theorem dX10_readsItem_12 : decode cX10_readsItem 12 = .ok (.iconst 4, 1) := by decide +kernel
theorem dX10_readsItem_13 : decode cX10_readsItem 13 = .ok (.iaload, 1) := by decide +kernel
theorem dX10_readsItem_14 : decode cX10_readsItem 14 = .ok (.bipush 12, 2) := by decide +kernel
theorem dX10_readsItem_16 : decode cX10_readsItem 16 = .ok (.aload_n 0, 1) := by decide +kernel
theorem dX10_readsItem_17 : decode cX10_readsItem 17 = .ok (.getfield 9, 3) := by decide +kernel
theorem dX10_readsItem_20 : decode cX10_readsItem 20 = .ok (.iconst 0, 1) := by decide +kernel
theorem dX10_readsItem_21 : decode cX10_readsItem 21 = .ok (.iaload, 1) := by decide +kernel
theorem dX10_readsItem_22 : decode cX10_readsItem 22 = .ok (.imul, 1) := by decide +kernel
theorem dX10_readsItem_23 : decode cX10_readsItem 23 = .ok (.if_icmp .ne 8, 3) := by decide +kernel
theorem dX10_readsItem_26 : decode cX10_readsItem 26 = .ok (.aload_n 0, 1) := by decide +kernel
theorem dX10_readsItem_27 : decode cX10_readsItem 27 = .ok (.iconst 4, 1) := by decide +kernel
theorem dX10_readsItem_28 : decode cX10_readsItem 28 = .ok (.invokevirtual 115, 3) := by decide +kernel
theorem dX10_readsItem_31 : decode cX10_readsItem 31 = .ok (.aload_n 0, 1) := by decide +kernel
theorem dX10_readsItem_32 : decode cX10_readsItem 32 = .ok (.getfield 73, 3) := by decide +kernel
theorem dX10_readsItem_35 : decode cX10_readsItem 35 = .ok (.ifCond .ne 48, 3) := by decide +kernel
theorem dX10_readsItem_38 : decode cX10_readsItem 38 = .ok (.aload_n 0, 1) := by decide +kernel
theorem dX10_readsItem_39 : decode cX10_readsItem 39 = .ok (.iload_n 1, 1) := by decide +kernel
theorem dX10_readsItem_40 : decode cX10_readsItem 40 = .ok (.invokevirtual 148, 3) := by decide +kernel
theorem dX10_readsItem_43 : decode cX10_readsItem 43 = .ok (.goto 40, 3) := by decide +kernel
theorem dX10_readsItem_46 : decode cX10_readsItem 46 = .ok (.aload_n 0, 1) := by decide +kernel
theorem dX10_readsItem_47 : decode cX10_readsItem 47 = .ok (.iconst 5, 1) := by decide +kernel
theorem dX10_readsItem_48 : decode cX10_readsItem 48 = .ok (.invokevirtual 102, 3) := by decide +kernel
theorem dX10_readsItem_51 : decode cX10_readsItem 51 = .ok (.ifCond .eq 11, 3) := by decide +kernel
theorem dX10_readsItem_54 : decode cX10_readsItem 54 = .ok (.aload_n 0, 1) := by decide +kernel
theorem dX10_readsItem_55 : decode cX10_readsItem 55 = .ok (.iload_n 1, 1) := by decide +kernel
theorem dX10_readsItem_56 : decode cX10_readsItem 56 = .ok (.invokevirtual 151, 3) := by decide +kernel
theorem dX10_readsItem_59 : decode cX10_readsItem 59 = .ok (.goto 24, 3) := by decide +kernel
theorem dX10_readsItem_62 : decode cX10_readsItem 62 = .ok (.aload_n 0, 1) := by decide +kernel
theorem dX10_readsItem_63 : decode cX10_readsItem 63 = .ok (.bipush 6, 2) := by decide +kernel
theorem dX10_readsItem_65 : decode cX10_readsItem 65 = .ok (.invokevirtual 102, 3) := by decide +kernel
theorem dX10_readsItem_68 : decode cX10_readsItem 68 = .ok (.ifCond .eq 10, 3) := by decide +kernel
theorem dX10_readsItem_71 : decode cX10_readsItem 71 = .ok (.aload_n 0, 1) := by decide +kernel
theorem dX10_readsItem_72 : decode cX10_readsItem 72 = .ok (.invokevirtual 154, 3) := by decide +kernel
theorem dX10_readsItem_75 : decode cX10_readsItem 75 = .ok (.goto 8, 3) := by decide +kernel
theorem dX10_readsItem_78 : decode cX10_readsItem 78 = .ok (.aload_n 0, 1) := by decide +kernel
theorem dX10_readsItem_79 : decode cX10_readsItem 79 = .ok (.iconst 1, 1) := by decide +kernel
theorem dX10_readsItem_80 : decode cX10_readsItem 80 = .ok (.invokevirtual 115, 3) := by decide +kernel
theorem dX10_readsItem_83 : decode cX10_readsItem 83 = .ok (.aload_n 0, 1) := by decide +kernel
theorem dX10_readsItem_84 : decode cX10_readsItem 84 = .ok (.invokevirtual 122, 3) := by decide +kernel
theorem dX10_readsItem_87 : decode cX10_readsItem 87 = .ok (.return_, 1) := by decide +kernel
theorem dX10_readsBody_0 : decode cX10_readsBody 0 = .ok (.aload_n 0, 1) := by decide +kernel
theorem dX10_readsBody_1 : decode cX10_readsBody 1 = .ok (.iconst 0, 1) := by decide +kernel
theorem dX10_readsBody_2 : decode cX10_readsBody 2 = .ok (.putfield 135, 3) := by decide +kernel
theorem dX10_readsBody_5 : decode cX10_readsBody 5 = .ok (.aload_n 0, 1) := by decide +kernel
theorem dX10_readsBody_6 : decode cX10_readsBody 6 = .ok (.iconst 0, 1) := by decide +kernel
theorem dX10_readsBody_7 : decode cX10_readsBody 7 = .ok (.putfield 132, 3) := by decide +kernel
theorem dX10_readsBody_10 : decode cX10_readsBody 10 = .ok (.aload_n 0, 1) := by decide +kernel
theorem dX10_readsBody_11 : decode cX10_readsBody 11 = .ok (.getfield 73, 3) := by decide +kernel
theorem dX10_readsBody_14 : decode cX10_readsBody 14 = .ok (.ifCond .ne 53, 3) := by decide +kernel
theorem dX10_readsBody_17 : decode cX10_readsBody 17 = .ok (.aload_n 0, 1) := by decide +kernel
theorem dX10_readsBody_18 : decode cX10_readsBody 18 = .ok (.getfield 132, 3) := by decide +kernel
theorem dX10_readsBody_21 : decode cX10_readsBody 21 = .ok (.ifCond .gt 38, 3) := by decide +kernel
theorem dX10_readsBody_24 : decode cX10_readsBody 24 = .ok (.aload_n 0, 1) := by decide +kernel
theorem dX10_readsBody_25 : decode cX10_readsBody 25 = .ok (.iload_n 1, 1) := by decide +kernel
theorem dX10_readsBody_26 : decode cX10_readsBody 26 = .ok (.bipush 6, 2) := by decide +kernel
theorem dX10_readsBody_28 : decode cX10_readsBody 28 = .ok (.invokevirtual 138, 3) := by decide +kernel
theorem dX10_readsBody_31 : decode cX10_readsBody 31 = .ok (.ifCond .eq 28, 3) := by decide +kernel
theorem dX10_readsBody_34 : decode cX10_readsBody 34 = .ok (.aload_n 0, 1) := by decide +kernel
theorem dX10_readsBody_35 : decode cX10_readsBody 35 = .ok (.iconst 2, 1) := by decide +kernel
theorem dX10_readsBody_36 : decode cX10_readsBody 36 = .ok (.invokevirtual 102, 3) := by decide +kernel
theorem dX10_readsBody_39 : decode cX10_readsBody 39 = .ok (.ifCond .ne 20, 3) := by decide +kernel
theorem dX10_readsBody_42 : decode cX10_readsBody 42 = .ok (.aload_n 0, 1) := by decide +kernel
theorem dX10_readsBody_43 : decode cX10_readsBody 43 = .ok (.iconst 5, 1) := by decide +kernel
theorem dX10_readsBody_44 : decode cX10_readsBody 44 = .ok (.invokevirtual 102, 3) := by decide +kernel
theorem dX10_readsBody_47 : decode cX10_readsBody 47 = .ok (.ifCond .ne 12, 3) := by decide +kernel
theorem dX10_readsBody_50 : decode cX10_readsBody 50 = .ok (.aload_n 0, 1) := by decide +kernel
theorem dX10_readsBody_51 : decode cX10_readsBody 51 = .ok (.bipush 6, 2) := by decide +kernel
theorem dX10_readsBody_53 : decode cX10_readsBody 53 = .ok (.invokevirtual 102, 3) := by decide +kernel
theorem dX10_readsBody_56 : decode cX10_readsBody 56 = .ok (.ifCond .eq 11, 3) := by decide +kernel
theorem dX10_readsBody_59 : decode cX10_readsBody 59 = .ok (.aload_n 0, 1) := by decide +kernel
theorem dX10_readsBody_60 : decode cX10_readsBody 60 = .ok (.iload_n 1, 1) := by decide +kernel
theorem dX10_readsBody_61 : decode cX10_readsBody 61 = .ok (.invokevirtual 157, 3) := by decide +kernel
theorem dX10_readsBody_64 : decode cX10_readsBody 64 = .ok (.goto (-54), 3) := by decide +kernel
theorem dX10_readsBody_67 : decode cX10_readsBody 67 = .ok (.return_, 1) := by decide +kernel
theorem dX10_addsAct_0 : decode cX10_addsAct 0 = .ok (.aload_n 0, 1) := by decide +kernel
theorem dX10_addsAct_1 : decode cX10_addsAct 1 = .ok (.getfield 9, 3) := by decide +kernel
theorem dX10_addsAct_4 : decode cX10_addsAct 4 = .ok (.iconst 3, 1) := by decide +kernel
theorem dX10_addsAct_5 : decode cX10_addsAct 5 = .ok (.iaload, 1) := by decide +kernel
theorem dX10_addsAct_6 : decode cX10_addsAct 6 = .ok (.istore_n 2, 1) := by decide +kernel
theorem dX10_addsAct_7 : decode cX10_addsAct 7 = .ok (.iconst 0, 1) := by decide +kernel
theorem dX10_addsAct_8 : decode cX10_addsAct 8 = .ok (.istore_n 3, 1) := by decide +kernel
theorem dX10_addsAct_9 : decode cX10_addsAct 9 = .ok (.iload_n 3, 1) := by decide +kernel
theorem dX10_addsAct_10 : decode cX10_addsAct 10 = .ok (.bipush 9, 2) := by decide +kernel
theorem dX10_addsAct_12 : decode cX10_addsAct 12 = .ok (.if_icmp .ge 16, 3) := by decide +kernel
theorem dX10_addsAct_15 : decode cX10_addsAct 15 = .ok (.aload_n 0, 1) := by decide +kernel
theorem dX10_addsAct_16 : decode cX10_addsAct 16 = .ok (.iload_n 2, 1) := by decide +kernel
theorem dX10_addsAct_17 : decode cX10_addsAct 17 = .ok (.iload_n 3, 1) := by decide +kernel
theorem dX10_addsAct_18 : decode cX10_addsAct 18 = .ok (.iconst 0, 1) := by decide +kernel
theorem dX10_addsAct_19 : decode cX10_addsAct 19 = .ok (.invokevirtual 141, 3) := by decide +kernel
theorem dX10_addsAct_22 : decode cX10_addsAct 22 = .ok (.iinc 3 1, 3) := by decide +kernel
theorem dX10_addsAct_25 : decode cX10_addsAct 25 = .ok (.goto (-16), 3) := by decide +kernel
theorem dX10_addsAct_28 : decode cX10_addsAct 28 = .ok (.aload_n 0, 1) := by decide +kernel
theorem dX10_addsAct_29 : decode cX10_addsAct 29 = .ok (.iload_n 2, 1) := by decide +kernel
theorem dX10_addsAct_30 : decode cX10_addsAct 30 = .ok (.iconst 0, 1) := by decide +kernel
theorem dX10_addsAct_31 : decode cX10_addsAct 31 = .ok (.iload_n 1, 1) := by decide +kernel
theorem dX10_addsAct_32 : decode cX10_addsAct 32 = .ok (.invokevirtual 141, 3) := by decide +kernel
theorem dX10_addsAct_35 : decode cX10_addsAct 35 = .ok (.aload_n 0, 1) := by decide +kernel
theorem dX10_addsAct_36 : decode cX10_addsAct 36 = .ok (.iload_n 2, 1) := by decide +kernel
theorem dX10_addsAct_37 : decode cX10_addsAct 37 = .ok (.iconst 5, 1) := by decide +kernel
theorem dX10_addsAct_38 : decode cX10_addsAct 38 = .ok (.aload_n 0, 1) := by decide +kernel
theorem dX10_addsAct_39 : decode cX10_addsAct 39 = .ok (.getfield 9, 3) := by decide +kernel
theorem dX10_addsAct_42 : decode cX10_addsAct 42 = .ok (.iconst 4, 1) := by decide +kernel
theorem dX10_addsAct_43 : decode cX10_addsAct 43 = .ok (.iaload, 1) := by decide +kernel
theorem dX10_addsAct_44 : decode cX10_addsAct 44 = .ok (.invokevirtual 141, 3) := by decide +kernel
theorem dX10_addsAct_47 : decode cX10_addsAct 47 = .ok (.aload_n 0, 1) := by decide +kernel
theorem dX10_addsAct_48 : decode cX10_addsAct 48 = .ok (.iload_n 2, 1) := by decide +kernel
theorem dX10_addsAct_49 : decode cX10_addsAct 49 = .ok (.bipush 7, 2) := by decide +kernel
theorem dX10_addsAct_51 : decode cX10_addsAct 51 = .ok (.aload_n 0, 1) := by decide +kernel
theorem dX10_addsAct_52 : decode cX10_addsAct 52 = .ok (.getfield 9, 3) := by decide +kernel
theorem dX10_addsAct_55 : decode cX10_addsAct 55 = .ok (.iconst 5, 1) := by decide +kernel
theorem dX10_addsAct_56 : decode cX10_addsAct 56 = .ok (.iaload, 1) := by decide +kernel
theorem dX10_addsAct_57 : decode cX10_addsAct 57 = .ok (.invokevirtual 141, 3) := by decide +kernel
theorem dX10_addsAct_60 : decode cX10_addsAct 60 = .ok (.aload_n 0, 1) := by decide +kernel
theorem dX10_addsAct_61 : decode cX10_addsAct 61 = .ok (.getfield 9, 3) := by decide +kernel
theorem dX10_addsAct_64 : decode cX10_addsAct 64 = .ok (.iconst 3, 1) := by decide +kernel
theorem dX10_addsAct_65 : decode cX10_addsAct 65 = .ok (.dup2, 1) := by decide +kernel
theorem dX10_addsAct_66 : decode cX10_addsAct 66 = .ok (.iaload, 1) := by decide +kernel
theorem dX10_addsAct_67 : decode cX10_addsAct 67 = .ok (.iconst 1, 1) := by decide +kernel
theorem dX10_addsAct_68 : decode cX10_addsAct 68 = .ok (.iadd, 1) := by decide +kernel
theorem dX10_addsAct_69 : decode cX10_addsAct 69 = .ok (.iastore, 1) := by decide +kernel
theorem dX10_addsAct_70 : decode cX10_addsAct 70 = .ok (.iload_n 2, 1) := by decide +kernel
theorem dX10_addsAct_71 : decode cX10_addsAct 71 = .ok (.ireturn, 1) := by decide +kernel
theorem dX10_kindHere_0 : decode cX10_kindHere 0 = .ok (.aload_n 0, 1) := by decide +kernel
theorem dX10_kindHere_1 : decode cX10_kindHere 1 = .ok (.ldc 169, 2) := by decide +kernel
theorem dX10_kindHere_3 : decode cX10_kindHere 3 = .ok (.invokevirtual 171, 3) := by decide +kernel
theorem dX10_kindHere_6 : decode cX10_kindHere 6 = .ok (.ifCond .eq 7, 3) := by decide +kernel
theorem dX10_kindHere_9 : decode cX10_kindHere 9 = .ok (.iconst 0, 1) := by decide +kernel
theorem dX10_kindHere_10 : decode cX10_kindHere 10 = .ok (.goto 30, 3) := by decide +kernel
theorem dX10_kindHere_13 : decode cX10_kindHere 13 = .ok (.aload_n 0, 1) := by decide +kernel
theorem dX10_kindHere_14 : decode cX10_kindHere 14 = .ok (.ldc 175, 2) := by decide +kernel
theorem dX10_kindHere_16 : decode cX10_kindHere 16 = .ok (.invokevirtual 171, 3) := by decide +kernel
theorem dX10_kindHere_19 : decode cX10_kindHere 19 = .ok (.ifCond .eq 7, 3) := by decide +kernel
theorem dX10_kindHere_22 : decode cX10_kindHere 22 = .ok (.iconst 1, 1) := by decide +kernel
theorem dX10_kindHere_23 : decode cX10_kindHere 23 = .ok (.goto 17, 3) := by decide +kernel
theorem dX10_kindHere_26 : decode cX10_kindHere 26 = .ok (.aload_n 0, 1) := by decide +kernel
theorem dX10_kindHere_27 : decode cX10_kindHere 27 = .ok (.ldc 177, 2) := by decide +kernel
theorem dX10_kindHere_29 : decode cX10_kindHere 29 = .ok (.invokevirtual 171, 3) := by decide +kernel
theorem dX10_kindHere_32 : decode cX10_kindHere 32 = .ok (.ifCond .eq 7, 3) := by decide +kernel
theorem dX10_kindHere_35 : decode cX10_kindHere 35 = .ok (.iconst 2, 1) := by decide +kernel
theorem dX10_kindHere_36 : decode cX10_kindHere 36 = .ok (.goto 4, 3) := by decide +kernel
theorem dX10_kindHere_39 : decode cX10_kindHere 39 = .ok (.iconst (-1), 1) := by decide +kernel
theorem dX10_kindHere_40 : decode cX10_kindHere 40 = .ok (.ireturn, 1) := by decide +kernel
theorem dX10_openAct_0 : decode cX10_openAct 0 = .ok (.aload_n 0, 1) := by decide +kernel
theorem dX10_openAct_1 : decode cX10_openAct 1 = .ok (.getfield 9, 3) := by decide +kernel
theorem dX10_openAct_4 : decode cX10_openAct 4 = .ok (.iconst 3, 1) := by decide +kernel
theorem dX10_openAct_5 : decode cX10_openAct 5 = .ok (.iaload, 1) := by decide +kernel
theorem dX10_openAct_6 : decode cX10_openAct 6 = .ok (.ifCond .le 30, 3) := by decide +kernel
theorem dX10_openAct_9 : decode cX10_openAct 9 = .ok (.aload_n 0, 1) := by decide +kernel
theorem dX10_openAct_10 : decode cX10_openAct 10 = .ok (.aload_n 0, 1) := by decide +kernel
theorem dX10_openAct_11 : decode cX10_openAct 11 = .ok (.getfield 9, 3) := by decide +kernel
theorem dX10_openAct_14 : decode cX10_openAct 14 = .ok (.iconst 3, 1) := by decide +kernel
theorem dX10_openAct_15 : decode cX10_openAct 15 = .ok (.iaload, 1) := by decide +kernel
theorem dX10_openAct_16 : decode cX10_openAct 16 = .ok (.iconst 1, 1) := by decide +kernel
theorem dX10_openAct_17 : decode cX10_openAct 17 = .ok (.isub, 1) := by decide +kernel
theorem dX10_openAct_18 : decode cX10_openAct 18 = .ok (.iconst 1, 1) := by decide +kernel
theorem dX10_openAct_19 : decode cX10_openAct 19 = .ok (.invokevirtual 138, 3) := by decide +kernel
theorem dX10_openAct_22 : decode cX10_openAct 22 = .ok (.ifCond .ne 14, 3) := by decide +kernel
theorem dX10_openAct_25 : decode cX10_openAct 25 = .ok (.aload_n 0, 1) := by decide +kernel
theorem dX10_openAct_26 : decode cX10_openAct 26 = .ok (.getfield 9, 3) := by decide +kernel
theorem dX10_openAct_29 : decode cX10_openAct 29 = .ok (.iconst 3, 1) := by decide +kernel
theorem dX10_openAct_30 : decode cX10_openAct 30 = .ok (.iaload, 1) := by decide +kernel
theorem dX10_openAct_31 : decode cX10_openAct 31 = .ok (.iconst 1, 1) := by decide +kernel
theorem dX10_openAct_32 : decode cX10_openAct 32 = .ok (.isub, 1) := by decide +kernel
theorem dX10_openAct_33 : decode cX10_openAct 33 = .ok (.goto 4, 3) := by decide +kernel
theorem dX10_openAct_36 : decode cX10_openAct 36 = .ok (.iconst (-1), 1) := by decide +kernel
theorem dX10_openAct_37 : decode cX10_openAct 37 = .ok (.ireturn, 1) := by decide +kernel
theorem dX10_readsAct_0 : decode cX10_readsAct 0 = .ok (.aload_n 0, 1) := by decide +kernel
theorem dX10_readsAct_1 : decode cX10_readsAct 1 = .ok (.invokevirtual 179, 3) := by decide +kernel
theorem dX10_readsAct_4 : decode cX10_readsAct 4 = .ok (.iconst (-1), 1) := by decide +kernel
theorem dX10_readsAct_5 : decode cX10_readsAct 5 = .ok (.if_icmp .eq 8, 3) := by decide +kernel
theorem dX10_readsAct_8 : decode cX10_readsAct 8 = .ok (.aload_n 0, 1) := by decide +kernel
theorem dX10_readsAct_9 : decode cX10_readsAct 9 = .ok (.iconst 3, 1) := by decide +kernel
theorem dX10_readsAct_10 : decode cX10_readsAct 10 = .ok (.invokevirtual 115, 3) := by decide +kernel
theorem dX10_readsAct_13 : decode cX10_readsAct 13 = .ok (.aload_n 0, 1) := by decide +kernel
theorem dX10_readsAct_14 : decode cX10_readsAct 14 = .ok (.getfield 9, 3) := by decide +kernel
theorem dX10_readsAct_17 : decode cX10_readsAct 17 = .ok (.iconst 3, 1) := by decide +kernel
theorem dX10_readsAct_18 : decode cX10_readsAct 18 = .ok (.iaload, 1) := by decide +kernel
theorem dX10_readsAct_19 : decode cX10_readsAct 19 = .ok (.bipush 10, 2) := by decide +kernel
theorem dX10_readsAct_21 : decode cX10_readsAct 21 = .ok (.if_icmp .ne 8, 3) := by decide +kernel
theorem dX10_readsAct_24 : decode cX10_readsAct 24 = .ok (.aload_n 0, 1) := by decide +kernel
theorem dX10_readsAct_25 : decode cX10_readsAct 25 = .ok (.iconst 4, 1) := by decide +kernel
theorem dX10_readsAct_26 : decode cX10_readsAct 26 = .ok (.invokevirtual 115, 3) := by decide +kernel
theorem dX10_readsAct_29 : decode cX10_readsAct 29 = .ok (.aload_n 0, 1) := by decide +kernel
theorem dX10_readsAct_30 : decode cX10_readsAct 30 = .ok (.invokevirtual 122, 3) := by decide +kernel
theorem dX10_readsAct_33 : decode cX10_readsAct 33 = .ok (.aload_n 0, 1) := by decide +kernel
theorem dX10_readsAct_34 : decode cX10_readsAct 34 = .ok (.invokevirtual 182, 3) := by decide +kernel
theorem dX10_readsAct_37 : decode cX10_readsAct 37 = .ok (.istore_n 1, 1) := by decide +kernel
theorem dX10_readsAct_38 : decode cX10_readsAct 38 = .ok (.iload_n 1, 1) := by decide +kernel
theorem dX10_readsAct_39 : decode cX10_readsAct 39 = .ok (.iconst (-1), 1) := by decide +kernel
theorem dX10_readsAct_40 : decode cX10_readsAct 40 = .ok (.if_icmp .ne 8, 3) := by decide +kernel
theorem dX10_readsAct_43 : decode cX10_readsAct 43 = .ok (.aload_n 0, 1) := by decide +kernel
theorem dX10_readsAct_44 : decode cX10_readsAct 44 = .ok (.iconst 1, 1) := by decide +kernel
theorem dX10_readsAct_45 : decode cX10_readsAct 45 = .ok (.invokevirtual 115, 3) := by decide +kernel
theorem dX10_readsAct_48 : decode cX10_readsAct 48 = .ok (.aload_n 0, 1) := by decide +kernel
theorem dX10_readsAct_49 : decode cX10_readsAct 49 = .ok (.invokevirtual 122, 3) := by decide +kernel
theorem dX10_readsAct_52 : decode cX10_readsAct 52 = .ok (.aload_n 0, 1) := by decide +kernel
theorem dX10_readsAct_53 : decode cX10_readsAct 53 = .ok (.getfield 73, 3) := by decide +kernel
theorem dX10_readsAct_56 : decode cX10_readsAct 56 = .ok (.ifCond .ne 12, 3) := by decide +kernel
theorem dX10_readsAct_59 : decode cX10_readsAct 59 = .ok (.aload_n 0, 1) := by decide +kernel
theorem dX10_readsAct_60 : decode cX10_readsAct 60 = .ok (.aload_n 0, 1) := by decide +kernel
theorem dX10_readsAct_61 : decode cX10_readsAct 61 = .ok (.iload_n 1, 1) := by decide +kernel
theorem dX10_readsAct_62 : decode cX10_readsAct 62 = .ok (.invokevirtual 185, 3) := by decide +kernel
theorem dX10_readsAct_65 : decode cX10_readsAct 65 = .ok (.invokevirtual 188, 3) := by decide +kernel
theorem dX10_readsAct_68 : decode cX10_readsAct 68 = .ok (.return_, 1) := by decide +kernel
theorem dX10_wordHere_0 : decode cX10_wordHere 0 = .ok (.aload_n 0, 1) := by decide +kernel
theorem dX10_wordHere_1 : decode cX10_wordHere 1 = .ok (.invokevirtual 179, 3) := by decide +kernel
theorem dX10_wordHere_4 : decode cX10_wordHere 4 = .ok (.istore_n 1, 1) := by decide +kernel
theorem dX10_wordHere_5 : decode cX10_wordHere 5 = .ok (.aload_n 0, 1) := by decide +kernel
theorem dX10_wordHere_6 : decode cX10_wordHere 6 = .ok (.iconst 0, 1) := by decide +kernel
theorem dX10_wordHere_7 : decode cX10_wordHere 7 = .ok (.iload_n 1, 1) := by decide +kernel
theorem dX10_wordHere_8 : decode cX10_wordHere 8 = .ok (.iconst (-1), 1) := by decide +kernel
theorem dX10_wordHere_9 : decode cX10_wordHere 9 = .ok (.if_icmp .ne 7, 3) := by decide +kernel
theorem dX10_wordHere_12 : decode cX10_wordHere 12 = .ok (.iconst (-1), 1) := by decide +kernel
theorem dX10_wordHere_13 : decode cX10_wordHere 13 = .ok (.goto 12, 3) := by decide +kernel
theorem dX10_wordHere_16 : decode cX10_wordHere 16 = .ok (.aload_n 0, 1) := by decide +kernel
theorem dX10_wordHere_17 : decode cX10_wordHere 17 = .ok (.iload_n 1, 1) := by decide +kernel
theorem dX10_wordHere_18 : decode cX10_wordHere 18 = .ok (.bipush 6, 2) := by decide +kernel
theorem dX10_wordHere_20 : decode cX10_wordHere 20 = .ok (.invokevirtual 138, 3) := by decide +kernel
theorem dX10_wordHere_23 : decode cX10_wordHere 23 = .ok (.iconst 1, 1) := by decide +kernel
theorem dX10_wordHere_24 : decode cX10_wordHere 24 = .ok (.isub, 1) := by decide +kernel
theorem dX10_wordHere_25 : decode cX10_wordHere 25 = .ok (.invokevirtual 118, 3) := by decide +kernel
theorem dX10_wordHere_28 : decode cX10_wordHere 28 = .ok (.ireturn, 1) := by decide +kernel
theorem dX10_openWord_0 : decode cX10_openWord 0 = .ok (.aload_n 0, 1) := by decide +kernel
theorem dX10_openWord_1 : decode cX10_openWord 1 = .ok (.aload_n 0, 1) := by decide +kernel
theorem dX10_openWord_2 : decode cX10_openWord 2 = .ok (.invokevirtual 179, 3) := by decide +kernel
theorem dX10_openWord_5 : decode cX10_openWord 5 = .ok (.iconst 5, 1) := by decide +kernel
theorem dX10_openWord_6 : decode cX10_openWord 6 = .ok (.invokevirtual 138, 3) := by decide +kernel
theorem dX10_openWord_9 : decode cX10_openWord 9 = .ok (.iload_n 1, 1) := by decide +kernel
theorem dX10_openWord_10 : decode cX10_openWord 10 = .ok (.iadd, 1) := by decide +kernel
theorem dX10_openWord_11 : decode cX10_openWord 11 = .ok (.ireturn, 1) := by decide +kernel
theorem dX10_ofWord_0 : decode cX10_ofWord 0 = .ok (.aload_n 0, 1) := by decide +kernel
theorem dX10_ofWord_1 : decode cX10_ofWord 1 = .ok (.getfield 9, 3) := by decide +kernel
theorem dX10_ofWord_4 : decode cX10_ofWord 4 = .ok (.bipush 127, 2) := by decide +kernel
theorem dX10_ofWord_6 : decode cX10_ofWord 6 = .ok (.bipush 13, 2) := by decide +kernel
theorem dX10_ofWord_8 : decode cX10_ofWord 8 = .ok (.iload_n 1, 1) := by decide +kernel
theorem dX10_ofWord_9 : decode cX10_ofWord 9 = .ok (.imul, 1) := by decide +kernel
theorem dX10_ofWord_10 : decode cX10_ofWord 10 = .ok (.iadd, 1) := by decide +kernel
theorem dX10_ofWord_11 : decode cX10_ofWord 11 = .ok (.iload_n 2, 1) := by decide +kernel
theorem dX10_ofWord_12 : decode cX10_ofWord 12 = .ok (.iadd, 1) := by decide +kernel
theorem dX10_ofWord_13 : decode cX10_ofWord 13 = .ok (.iaload, 1) := by decide +kernel
theorem dX10_ofWord_14 : decode cX10_ofWord 14 = .ok (.ireturn, 1) := by decide +kernel
theorem dX10_stands_0 : decode cX10_stands 0 = .ok (.aload_n 0, 1) := by decide +kernel
theorem dX10_stands_1 : decode cX10_stands 1 = .ok (.iload_n 1, 1) := by decide +kernel
theorem dX10_stands_2 : decode cX10_stands 2 = .ok (.iconst 2, 1) := by decide +kernel
theorem dX10_stands_3 : decode cX10_stands 3 = .ok (.invokevirtual 209, 3) := by decide +kernel
theorem dX10_stands_6 : decode cX10_stands 6 = .ok (.ifCond .ne 7, 3) := by decide +kernel
theorem dX10_stands_9 : decode cX10_stands 9 = .ok (.iconst 1, 1) := by decide +kernel
theorem dX10_stands_10 : decode cX10_stands 10 = .ok (.goto 4, 3) := by decide +kernel
theorem dX10_stands_13 : decode cX10_stands 13 = .ok (.iconst 0, 1) := by decide +kernel
theorem dX10_stands_14 : decode cX10_stands 14 = .ok (.ireturn, 1) := by decide +kernel
theorem dX10_whyStrike_0 : decode cX10_whyStrike 0 = .ok (.aload_n 0, 1) := by decide +kernel
theorem dX10_whyStrike_1 : decode cX10_whyStrike 1 = .ok (.invokevirtual 179, 3) := by decide +kernel
theorem dX10_whyStrike_4 : decode cX10_whyStrike 4 = .ok (.istore_n 2, 1) := by decide +kernel
theorem dX10_whyStrike_5 : decode cX10_whyStrike 5 = .ok (.iload_n 2, 1) := by decide +kernel
theorem dX10_whyStrike_6 : decode cX10_whyStrike 6 = .ok (.iconst (-1), 1) := by decide +kernel
theorem dX10_whyStrike_7 : decode cX10_whyStrike 7 = .ok (.if_icmp .ne 5, 3) := by decide +kernel
theorem dX10_whyStrike_10 : decode cX10_whyStrike 10 = .ok (.iconst 1, 1) := by decide +kernel
theorem dX10_whyStrike_11 : decode cX10_whyStrike 11 = .ok (.ireturn, 1) := by decide +kernel
theorem dX10_whyStrike_12 : decode cX10_whyStrike 12 = .ok (.iload_n 1, 1) := by decide +kernel
theorem dX10_whyStrike_13 : decode cX10_whyStrike 13 = .ok (.iconst 0, 1) := by decide +kernel
theorem dX10_whyStrike_14 : decode cX10_whyStrike 14 = .ok (.aload_n 0, 1) := by decide +kernel
theorem dX10_whyStrike_15 : decode cX10_whyStrike 15 = .ok (.iload_n 2, 1) := by decide +kernel
theorem dX10_whyStrike_16 : decode cX10_whyStrike 16 = .ok (.bipush 6, 2) := by decide +kernel
theorem dX10_whyStrike_18 : decode cX10_whyStrike 18 = .ok (.invokevirtual 138, 3) := by decide +kernel
theorem dX10_whyStrike_21 : decode cX10_whyStrike 21 = .ok (.iconst 1, 1) := by decide +kernel
theorem dX10_whyStrike_22 : decode cX10_whyStrike 22 = .ok (.isub, 1) := by decide +kernel
theorem dX10_whyStrike_23 : decode cX10_whyStrike 23 = .ok (.invokestatic 69, 3) := by decide +kernel
theorem dX10_whyStrike_26 : decode cX10_whyStrike 26 = .ok (.ifCond .ne 5, 3) := by decide +kernel
theorem dX10_whyStrike_29 : decode cX10_whyStrike 29 = .ok (.iconst 2, 1) := by decide +kernel
theorem dX10_whyStrike_30 : decode cX10_whyStrike 30 = .ok (.ireturn, 1) := by decide +kernel
theorem dX10_whyStrike_31 : decode cX10_whyStrike 31 = .ok (.aload_n 0, 1) := by decide +kernel
theorem dX10_whyStrike_32 : decode cX10_whyStrike 32 = .ok (.aload_n 0, 1) := by decide +kernel
theorem dX10_whyStrike_33 : decode cX10_whyStrike 33 = .ok (.iload_n 1, 1) := by decide +kernel
theorem dX10_whyStrike_34 : decode cX10_whyStrike 34 = .ok (.invokevirtual 200, 3) := by decide +kernel
theorem dX10_whyStrike_37 : decode cX10_whyStrike 37 = .ok (.invokevirtual 330, 3) := by decide +kernel
theorem dX10_whyStrike_40 : decode cX10_whyStrike 40 = .ok (.ifCond .eq 7, 3) := by decide +kernel
theorem dX10_whyStrike_43 : decode cX10_whyStrike 43 = .ok (.iconst 0, 1) := by decide +kernel
theorem dX10_whyStrike_44 : decode cX10_whyStrike 44 = .ok (.goto 4, 3) := by decide +kernel
theorem dX10_whyStrike_47 : decode cX10_whyStrike 47 = .ok (.iconst 3, 1) := by decide +kernel
theorem dX10_whyStrike_48 : decode cX10_whyStrike 48 = .ok (.ireturn, 1) := by decide +kernel
theorem dX10_putsWord_0 : decode cX10_putsWord 0 = .ok (.aload_n 0, 1) := by decide +kernel
theorem dX10_putsWord_1 : decode cX10_putsWord 1 = .ok (.getfield 9, 3) := by decide +kernel
theorem dX10_putsWord_4 : decode cX10_putsWord 4 = .ok (.bipush 127, 2) := by decide +kernel
theorem dX10_putsWord_6 : decode cX10_putsWord 6 = .ok (.bipush 13, 2) := by decide +kernel
theorem dX10_putsWord_8 : decode cX10_putsWord 8 = .ok (.iload_n 1, 1) := by decide +kernel
theorem dX10_putsWord_9 : decode cX10_putsWord 9 = .ok (.imul, 1) := by decide +kernel
theorem dX10_putsWord_10 : decode cX10_putsWord 10 = .ok (.iadd, 1) := by decide +kernel
theorem dX10_putsWord_11 : decode cX10_putsWord 11 = .ok (.iload_n 2, 1) := by decide +kernel
theorem dX10_putsWord_12 : decode cX10_putsWord 12 = .ok (.iadd, 1) := by decide +kernel
theorem dX10_putsWord_13 : decode cX10_putsWord 13 = .ok (.iload_n 3, 1) := by decide +kernel
theorem dX10_putsWord_14 : decode cX10_putsWord 14 = .ok (.iastore, 1) := by decide +kernel
theorem dX10_putsWord_15 : decode cX10_putsWord 15 = .ok (.return_, 1) := by decide +kernel
theorem dX10_marks_0 : decode cX10_marks 0 = .ok (.aload_n 0, 1) := by decide +kernel
theorem dX10_marks_1 : decode cX10_marks 1 = .ok (.iload_n 1, 1) := by decide +kernel
theorem dX10_marks_2 : decode cX10_marks 2 = .ok (.iconst 3, 1) := by decide +kernel
theorem dX10_marks_3 : decode cX10_marks 3 = .ok (.aload_n 0, 1) := by decide +kernel
theorem dX10_marks_4 : decode cX10_marks 4 = .ok (.iload_n 1, 1) := by decide +kernel
theorem dX10_marks_5 : decode cX10_marks 5 = .ok (.iconst 3, 1) := by decide +kernel
theorem dX10_marks_6 : decode cX10_marks 6 = .ok (.invokevirtual 138, 3) := by decide +kernel
theorem dX10_marks_9 : decode cX10_marks 9 = .ok (.iconst 1, 1) := by decide +kernel
theorem dX10_marks_10 : decode cX10_marks 10 = .ok (.iadd, 1) := by decide +kernel
theorem dX10_marks_11 : decode cX10_marks 11 = .ok (.invokevirtual 141, 3) := by decide +kernel
theorem dX10_marks_14 : decode cX10_marks 14 = .ok (.return_, 1) := by decide +kernel
theorem dX10_strikes_0 : decode cX10_strikes 0 = .ok (.aload_n 0, 1) := by decide +kernel
theorem dX10_strikes_1 : decode cX10_strikes 1 = .ok (.aload_n 0, 1) := by decide +kernel
theorem dX10_strikes_2 : decode cX10_strikes 2 = .ok (.iload_n 1, 1) := by decide +kernel
theorem dX10_strikes_3 : decode cX10_strikes 3 = .ok (.invokevirtual 200, 3) := by decide +kernel
theorem dX10_strikes_6 : decode cX10_strikes 6 = .ok (.iconst 2, 1) := by decide +kernel
theorem dX10_strikes_7 : decode cX10_strikes 7 = .ok (.iconst 1, 1) := by decide +kernel
theorem dX10_strikes_8 : decode cX10_strikes 8 = .ok (.invokevirtual 337, 3) := by decide +kernel
theorem dX10_strikes_11 : decode cX10_strikes 11 = .ok (.aload_n 0, 1) := by decide +kernel
theorem dX10_strikes_12 : decode cX10_strikes 12 = .ok (.aload_n 0, 1) := by decide +kernel
theorem dX10_strikes_13 : decode cX10_strikes 13 = .ok (.invokevirtual 179, 3) := by decide +kernel
theorem dX10_strikes_16 : decode cX10_strikes 16 = .ok (.invokevirtual 340, 3) := by decide +kernel
theorem dX10_strikes_19 : decode cX10_strikes 19 = .ok (.return_, 1) := by decide +kernel
theorem dX10_readsStrike_0 : decode cX10_readsStrike 0 = .ok (.aload_n 0, 1) := by decide +kernel
theorem dX10_readsStrike_1 : decode cX10_readsStrike 1 = .ok (.invokevirtual 122, 3) := by decide +kernel
theorem dX10_readsStrike_4 : decode cX10_readsStrike 4 = .ok (.aload_n 0, 1) := by decide +kernel
theorem dX10_readsStrike_5 : decode cX10_readsStrike 5 = .ok (.invokevirtual 191, 3) := by decide +kernel
theorem dX10_readsStrike_8 : decode cX10_readsStrike 8 = .ok (.istore_n 1, 1) := by decide +kernel
theorem dX10_readsStrike_9 : decode cX10_readsStrike 9 = .ok (.aload_n 0, 1) := by decide +kernel
theorem dX10_readsStrike_10 : decode cX10_readsStrike 10 = .ok (.getfield 73, 3) := by decide +kernel
theorem dX10_readsStrike_13 : decode cX10_readsStrike 13 = .ok (.ifCond .ne 16, 3) := by decide +kernel
theorem dX10_readsStrike_16 : decode cX10_readsStrike 16 = .ok (.aload_n 0, 1) := by decide +kernel
theorem dX10_readsStrike_17 : decode cX10_readsStrike 17 = .ok (.iload_n 1, 1) := by decide +kernel
theorem dX10_readsStrike_18 : decode cX10_readsStrike 18 = .ok (.invokevirtual 194, 3) := by decide +kernel
theorem dX10_readsStrike_21 : decode cX10_readsStrike 21 = .ok (.ifCond .eq 8, 3) := by decide +kernel
theorem dX10_readsStrike_24 : decode cX10_readsStrike 24 = .ok (.aload_n 0, 1) := by decide +kernel
theorem dX10_readsStrike_25 : decode cX10_readsStrike 25 = .ok (.iconst 3, 1) := by decide +kernel
theorem dX10_readsStrike_26 : decode cX10_readsStrike 26 = .ok (.invokevirtual 115, 3) := by decide +kernel
theorem dX10_readsStrike_29 : decode cX10_readsStrike 29 = .ok (.aload_n 0, 1) := by decide +kernel
theorem dX10_readsStrike_30 : decode cX10_readsStrike 30 = .ok (.getfield 73, 3) := by decide +kernel
theorem dX10_readsStrike_33 : decode cX10_readsStrike 33 = .ok (.ifCond .ne 8, 3) := by decide +kernel
theorem dX10_readsStrike_36 : decode cX10_readsStrike 36 = .ok (.aload_n 0, 1) := by decide +kernel
theorem dX10_readsStrike_37 : decode cX10_readsStrike 37 = .ok (.iload_n 1, 1) := by decide +kernel
theorem dX10_readsStrike_38 : decode cX10_readsStrike 38 = .ok (.invokevirtual 197, 3) := by decide +kernel
theorem dX10_readsStrike_41 : decode cX10_readsStrike 41 = .ok (.aload_n 0, 1) := by decide +kernel
theorem dX10_readsStrike_42 : decode cX10_readsStrike 42 = .ok (.invokevirtual 122, 3) := by decide +kernel
theorem dX10_readsStrike_45 : decode cX10_readsStrike 45 = .ok (.return_, 1) := by decide +kernel
theorem dX10_clauseOf_0 : decode cX10_clauseOf 0 = .ok (.aload_n 0, 1) := by decide +kernel
theorem dX10_clauseOf_1 : decode cX10_clauseOf 1 = .ok (.iload_n 1, 1) := by decide +kernel
theorem dX10_clauseOf_2 : decode cX10_clauseOf 2 = .ok (.iconst 3, 1) := by decide +kernel
theorem dX10_clauseOf_3 : decode cX10_clauseOf 3 = .ok (.invokevirtual 209, 3) := by decide +kernel
theorem dX10_clauseOf_6 : decode cX10_clauseOf 6 = .ok (.iconst 1, 1) := by decide +kernel
theorem dX10_clauseOf_7 : decode cX10_clauseOf 7 = .ok (.isub, 1) := by decide +kernel
theorem dX10_clauseOf_8 : decode cX10_clauseOf 8 = .ok (.ireturn, 1) := by decide +kernel
theorem dX10_strikesClause_0 : decode cX10_strikesClause 0 = .ok (.aload_n 0, 1) := by decide +kernel
theorem dX10_strikesClause_1 : decode cX10_strikesClause 1 = .ok (.aload_n 0, 1) := by decide +kernel
theorem dX10_strikesClause_2 : decode cX10_strikesClause 2 = .ok (.iload_n 1, 1) := by decide +kernel
theorem dX10_strikesClause_3 : decode cX10_strikesClause 3 = .ok (.invokevirtual 200, 3) := by decide +kernel
theorem dX10_strikesClause_6 : decode cX10_strikesClause 6 = .ok (.invokevirtual 203, 3) := by decide +kernel
theorem dX10_strikesClause_9 : decode cX10_strikesClause 9 = .ok (.istore_n 2, 1) := by decide +kernel
theorem dX10_strikesClause_10 : decode cX10_strikesClause 10 = .ok (.iconst 0, 1) := by decide +kernel
theorem dX10_strikesClause_11 : decode cX10_strikesClause 11 = .ok (.istore_n 3, 1) := by decide +kernel
theorem dX10_strikesClause_12 : decode cX10_strikesClause 12 = .ok (.aload_n 0, 1) := by decide +kernel
theorem dX10_strikesClause_13 : decode cX10_strikesClause 13 = .ok (.iload_n 2, 1) := by decide +kernel
theorem dX10_strikesClause_14 : decode cX10_strikesClause 14 = .ok (.iconst 0, 1) := by decide +kernel
theorem dX10_strikesClause_15 : decode cX10_strikesClause 15 = .ok (.invokevirtual 145, 3) := by decide +kernel
theorem dX10_strikesClause_18 : decode cX10_strikesClause 18 = .ok (.istore 4, 2) := by decide +kernel
theorem dX10_strikesClause_20 : decode cX10_strikesClause 20 = .ok (.iload 4, 2) := by decide +kernel
theorem dX10_strikesClause_22 : decode cX10_strikesClause 22 = .ok (.aload_n 0, 1) := by decide +kernel
theorem dX10_strikesClause_23 : decode cX10_strikesClause 23 = .ok (.iload_n 2, 1) := by decide +kernel
theorem dX10_strikesClause_24 : decode cX10_strikesClause 24 = .ok (.iconst 1, 1) := by decide +kernel
theorem dX10_strikesClause_25 : decode cX10_strikesClause 25 = .ok (.invokevirtual 145, 3) := by decide +kernel
theorem dX10_strikesClause_28 : decode cX10_strikesClause 28 = .ok (.if_icmp .gt 29, 3) := by decide +kernel
theorem dX10_strikesClause_31 : decode cX10_strikesClause 31 = .ok (.iload_n 3, 1) := by decide +kernel
theorem dX10_strikesClause_32 : decode cX10_strikesClause 32 = .ok (.aload_n 0, 1) := by decide +kernel
theorem dX10_strikesClause_33 : decode cX10_strikesClause 33 = .ok (.iload 4, 2) := by decide +kernel
theorem dX10_strikesClause_35 : decode cX10_strikesClause 35 = .ok (.invokevirtual 330, 3) := by decide +kernel
theorem dX10_strikesClause_38 : decode cX10_strikesClause 38 = .ok (.invokestatic 333, 3) := by decide +kernel
theorem dX10_strikesClause_41 : decode cX10_strikesClause 41 = .ok (.iadd, 1) := by decide +kernel
theorem dX10_strikesClause_42 : decode cX10_strikesClause 42 = .ok (.istore_n 3, 1) := by decide +kernel
theorem dX10_strikesClause_43 : decode cX10_strikesClause 43 = .ok (.aload_n 0, 1) := by decide +kernel
theorem dX10_strikesClause_44 : decode cX10_strikesClause 44 = .ok (.iload 4, 2) := by decide +kernel
theorem dX10_strikesClause_46 : decode cX10_strikesClause 46 = .ok (.iconst 2, 1) := by decide +kernel
theorem dX10_strikesClause_47 : decode cX10_strikesClause 47 = .ok (.iconst 1, 1) := by decide +kernel
theorem dX10_strikesClause_48 : decode cX10_strikesClause 48 = .ok (.invokevirtual 337, 3) := by decide +kernel
theorem dX10_strikesClause_51 : decode cX10_strikesClause 51 = .ok (.iinc 4 1, 3) := by decide +kernel
theorem dX10_strikesClause_54 : decode cX10_strikesClause 54 = .ok (.goto (-34), 3) := by decide +kernel
theorem dX10_strikesClause_57 : decode cX10_strikesClause 57 = .ok (.aload_n 0, 1) := by decide +kernel
theorem dX10_strikesClause_58 : decode cX10_strikesClause 58 = .ok (.aload_n 0, 1) := by decide +kernel
theorem dX10_strikesClause_59 : decode cX10_strikesClause 59 = .ok (.invokevirtual 179, 3) := by decide +kernel
theorem dX10_strikesClause_62 : decode cX10_strikesClause 62 = .ok (.invokevirtual 340, 3) := by decide +kernel
theorem dX10_strikesClause_65 : decode cX10_strikesClause 65 = .ok (.iload_n 3, 1) := by decide +kernel
theorem dX10_strikesClause_66 : decode cX10_strikesClause 66 = .ok (.ireturn, 1) := by decide +kernel
theorem dX10_readsOut_0 : decode cX10_readsOut 0 = .ok (.aload_n 0, 1) := by decide +kernel
theorem dX10_readsOut_1 : decode cX10_readsOut 1 = .ok (.invokevirtual 122, 3) := by decide +kernel
theorem dX10_readsOut_4 : decode cX10_readsOut 4 = .ok (.aload_n 0, 1) := by decide +kernel
theorem dX10_readsOut_5 : decode cX10_readsOut 5 = .ok (.invokevirtual 191, 3) := by decide +kernel
theorem dX10_readsOut_8 : decode cX10_readsOut 8 = .ok (.istore_n 1, 1) := by decide +kernel
theorem dX10_readsOut_9 : decode cX10_readsOut 9 = .ok (.aload_n 0, 1) := by decide +kernel
theorem dX10_readsOut_10 : decode cX10_readsOut 10 = .ok (.getfield 73, 3) := by decide +kernel
theorem dX10_readsOut_13 : decode cX10_readsOut 13 = .ok (.ifCond .ne 21, 3) := by decide +kernel
theorem dX10_readsOut_16 : decode cX10_readsOut 16 = .ok (.aload_n 0, 1) := by decide +kernel
theorem dX10_readsOut_17 : decode cX10_readsOut 17 = .ok (.aload_n 0, 1) := by decide +kernel
theorem dX10_readsOut_18 : decode cX10_readsOut 18 = .ok (.iload_n 1, 1) := by decide +kernel
theorem dX10_readsOut_19 : decode cX10_readsOut 19 = .ok (.invokevirtual 200, 3) := by decide +kernel
theorem dX10_readsOut_22 : decode cX10_readsOut 22 = .ok (.invokevirtual 203, 3) := by decide +kernel
theorem dX10_readsOut_25 : decode cX10_readsOut 25 = .ok (.iconst (-1), 1) := by decide +kernel
theorem dX10_readsOut_26 : decode cX10_readsOut 26 = .ok (.if_icmp .ne 8, 3) := by decide +kernel
theorem dX10_readsOut_29 : decode cX10_readsOut 29 = .ok (.aload_n 0, 1) := by decide +kernel
theorem dX10_readsOut_30 : decode cX10_readsOut 30 = .ok (.iconst 3, 1) := by decide +kernel
theorem dX10_readsOut_31 : decode cX10_readsOut 31 = .ok (.invokevirtual 115, 3) := by decide +kernel
theorem dX10_readsOut_34 : decode cX10_readsOut 34 = .ok (.aload_n 0, 1) := by decide +kernel
theorem dX10_readsOut_35 : decode cX10_readsOut 35 = .ok (.getfield 73, 3) := by decide +kernel
theorem dX10_readsOut_38 : decode cX10_readsOut 38 = .ok (.ifCond .le 4, 3) := by decide +kernel
theorem dX10_readsOut_41 : decode cX10_readsOut 41 = .ok (.return_, 1) := by decide +kernel
theorem dX10_readsOut_42 : decode cX10_readsOut 42 = .ok (.aload_n 0, 1) := by decide +kernel
theorem dX10_readsOut_43 : decode cX10_readsOut 43 = .ok (.iload_n 1, 1) := by decide +kernel
theorem dX10_readsOut_44 : decode cX10_readsOut 44 = .ok (.invokevirtual 206, 3) := by decide +kernel
theorem dX10_readsOut_47 : decode cX10_readsOut 47 = .ok (.istore_n 2, 1) := by decide +kernel
theorem dX10_readsOut_48 : decode cX10_readsOut 48 = .ok (.aload_n 0, 1) := by decide +kernel
theorem dX10_readsOut_49 : decode cX10_readsOut 49 = .ok (.invokevirtual 122, 3) := by decide +kernel
theorem dX10_readsOut_52 : decode cX10_readsOut 52 = .ok (.return_, 1) := by decide +kernel
theorem dX10_interlines_0 : decode cX10_interlines 0 = .ok (.aload_n 0, 1) := by decide +kernel
theorem dX10_interlines_1 : decode cX10_interlines 1 = .ok (.iload_n 1, 1) := by decide +kernel
theorem dX10_interlines_2 : decode cX10_interlines 2 = .ok (.invokevirtual 200, 3) := by decide +kernel
theorem dX10_interlines_5 : decode cX10_interlines 5 = .ok (.istore 4, 2) := by decide +kernel
theorem dX10_interlines_7 : decode cX10_interlines 7 = .ok (.aload_n 0, 1) := by decide +kernel
theorem dX10_interlines_8 : decode cX10_interlines 8 = .ok (.iload 4, 2) := by decide +kernel
theorem dX10_interlines_10 : decode cX10_interlines 10 = .ok (.iconst 4, 1) := by decide +kernel
theorem dX10_interlines_11 : decode cX10_interlines 11 = .ok (.invokevirtual 209, 3) := by decide +kernel
theorem dX10_interlines_14 : decode cX10_interlines 14 = .ok (.istore 5, 2) := by decide +kernel
theorem dX10_interlines_16 : decode cX10_interlines 16 = .ok (.aload_n 0, 1) := by decide +kernel
theorem dX10_interlines_17 : decode cX10_interlines 17 = .ok (.iload 4, 2) := by decide +kernel
theorem dX10_interlines_19 : decode cX10_interlines 19 = .ok (.iconst 5, 1) := by decide +kernel
theorem dX10_interlines_20 : decode cX10_interlines 20 = .ok (.iconst 2, 1) := by decide +kernel
theorem dX10_interlines_21 : decode cX10_interlines 21 = .ok (.iload 5, 2) := by decide +kernel
theorem dX10_interlines_23 : decode cX10_interlines 23 = .ok (.imul, 1) := by decide +kernel
theorem dX10_interlines_24 : decode cX10_interlines 24 = .ok (.iadd, 1) := by decide +kernel
theorem dX10_interlines_25 : decode cX10_interlines 25 = .ok (.aload_n 0, 1) := by decide +kernel
theorem dX10_interlines_26 : decode cX10_interlines 26 = .ok (.iload_n 2, 1) := by decide +kernel
theorem dX10_interlines_27 : decode cX10_interlines 27 = .ok (.iload_n 3, 1) := by decide +kernel
theorem dX10_interlines_28 : decode cX10_interlines 28 = .ok (.iconst 0, 1) := by decide +kernel
theorem dX10_interlines_29 : decode cX10_interlines 29 = .ok (.invokevirtual 160, 3) := by decide +kernel
theorem dX10_interlines_32 : decode cX10_interlines 32 = .ok (.invokevirtual 337, 3) := by decide +kernel
theorem dX10_interlines_35 : decode cX10_interlines 35 = .ok (.aload_n 0, 1) := by decide +kernel
theorem dX10_interlines_36 : decode cX10_interlines 36 = .ok (.iload 4, 2) := by decide +kernel
theorem dX10_interlines_38 : decode cX10_interlines 38 = .ok (.iconst 5, 1) := by decide +kernel
theorem dX10_interlines_39 : decode cX10_interlines 39 = .ok (.iconst 2, 1) := by decide +kernel
theorem dX10_interlines_40 : decode cX10_interlines 40 = .ok (.iload 5, 2) := by decide +kernel
theorem dX10_interlines_42 : decode cX10_interlines 42 = .ok (.imul, 1) := by decide +kernel
theorem dX10_interlines_43 : decode cX10_interlines 43 = .ok (.iadd, 1) := by decide +kernel
theorem dX10_interlines_44 : decode cX10_interlines 44 = .ok (.iconst 1, 1) := by decide +kernel
theorem dX10_interlines_45 : decode cX10_interlines 45 = .ok (.iadd, 1) := by decide +kernel
theorem dX10_interlines_46 : decode cX10_interlines 46 = .ok (.aload_n 0, 1) := by decide +kernel
theorem dX10_interlines_47 : decode cX10_interlines 47 = .ok (.iload_n 2, 1) := by decide +kernel
theorem dX10_interlines_48 : decode cX10_interlines 48 = .ok (.iload_n 3, 1) := by decide +kernel
theorem dX10_interlines_49 : decode cX10_interlines 49 = .ok (.iconst 1, 1) := by decide +kernel
theorem dX10_interlines_50 : decode cX10_interlines 50 = .ok (.invokevirtual 160, 3) := by decide +kernel
theorem dX10_interlines_53 : decode cX10_interlines 53 = .ok (.invokevirtual 337, 3) := by decide +kernel
theorem dX10_interlines_56 : decode cX10_interlines 56 = .ok (.aload_n 0, 1) := by decide +kernel
theorem dX10_interlines_57 : decode cX10_interlines 57 = .ok (.iload 4, 2) := by decide +kernel
theorem dX10_interlines_59 : decode cX10_interlines 59 = .ok (.iconst 4, 1) := by decide +kernel
theorem dX10_interlines_60 : decode cX10_interlines 60 = .ok (.iload 5, 2) := by decide +kernel
theorem dX10_interlines_62 : decode cX10_interlines 62 = .ok (.iconst 1, 1) := by decide +kernel
theorem dX10_interlines_63 : decode cX10_interlines 63 = .ok (.iadd, 1) := by decide +kernel
theorem dX10_interlines_64 : decode cX10_interlines 64 = .ok (.invokevirtual 337, 3) := by decide +kernel
theorem dX10_interlines_67 : decode cX10_interlines 67 = .ok (.aload_n 0, 1) := by decide +kernel
theorem dX10_interlines_68 : decode cX10_interlines 68 = .ok (.aload_n 0, 1) := by decide +kernel
theorem dX10_interlines_69 : decode cX10_interlines 69 = .ok (.invokevirtual 179, 3) := by decide +kernel
theorem dX10_interlines_72 : decode cX10_interlines 72 = .ok (.invokevirtual 340, 3) := by decide +kernel
theorem dX10_interlines_75 : decode cX10_interlines 75 = .ok (.return_, 1) := by decide +kernel
theorem dX10_readsInsert_0 : decode cX10_readsInsert 0 = .ok (.aload_n 0, 1) := by decide +kernel
theorem dX10_readsInsert_1 : decode cX10_readsInsert 1 = .ok (.invokevirtual 122, 3) := by decide +kernel
theorem dX10_readsInsert_4 : decode cX10_readsInsert 4 = .ok (.aload_n 0, 1) := by decide +kernel
theorem dX10_readsInsert_5 : decode cX10_readsInsert 5 = .ok (.invokevirtual 191, 3) := by decide +kernel
theorem dX10_readsInsert_8 : decode cX10_readsInsert 8 = .ok (.istore_n 1, 1) := by decide +kernel
theorem dX10_readsInsert_9 : decode cX10_readsInsert 9 = .ok (.aload_n 0, 1) := by decide +kernel
theorem dX10_readsInsert_10 : decode cX10_readsInsert 10 = .ok (.getfield 73, 3) := by decide +kernel
theorem dX10_readsInsert_13 : decode cX10_readsInsert 13 = .ok (.ifCond .ne 22, 3) := by decide +kernel
theorem dX10_readsInsert_16 : decode cX10_readsInsert 16 = .ok (.aload_n 0, 1) := by decide +kernel
theorem dX10_readsInsert_17 : decode cX10_readsInsert 17 = .ok (.aload_n 0, 1) := by decide +kernel
theorem dX10_readsInsert_18 : decode cX10_readsInsert 18 = .ok (.iload_n 1, 1) := by decide +kernel
theorem dX10_readsInsert_19 : decode cX10_readsInsert 19 = .ok (.invokevirtual 200, 3) := by decide +kernel
theorem dX10_readsInsert_22 : decode cX10_readsInsert 22 = .ok (.iconst 4, 1) := by decide +kernel
theorem dX10_readsInsert_23 : decode cX10_readsInsert 23 = .ok (.invokevirtual 209, 3) := by decide +kernel
theorem dX10_readsInsert_26 : decode cX10_readsInsert 26 = .ok (.iconst 4, 1) := by decide +kernel
theorem dX10_readsInsert_27 : decode cX10_readsInsert 27 = .ok (.if_icmp .ne 8, 3) := by decide +kernel
theorem dX10_readsInsert_30 : decode cX10_readsInsert 30 = .ok (.aload_n 0, 1) := by decide +kernel
theorem dX10_readsInsert_31 : decode cX10_readsInsert 31 = .ok (.iconst 3, 1) := by decide +kernel
theorem dX10_readsInsert_32 : decode cX10_readsInsert 32 = .ok (.invokevirtual 115, 3) := by decide +kernel
theorem dX10_readsInsert_35 : decode cX10_readsInsert 35 = .ok (.aload_n 0, 1) := by decide +kernel
theorem dX10_readsInsert_36 : decode cX10_readsInsert 36 = .ok (.invokevirtual 122, 3) := by decide +kernel
theorem dX10_readsInsert_39 : decode cX10_readsInsert 39 = .ok (.aload_n 0, 1) := by decide +kernel
theorem dX10_readsInsert_40 : decode cX10_readsInsert 40 = .ok (.iconst 2, 1) := by decide +kernel
theorem dX10_readsInsert_41 : decode cX10_readsInsert 41 = .ok (.invokevirtual 102, 3) := by decide +kernel
theorem dX10_readsInsert_44 : decode cX10_readsInsert 44 = .ok (.ifCond .ne 8, 3) := by decide +kernel
theorem dX10_readsInsert_47 : decode cX10_readsInsert 47 = .ok (.aload_n 0, 1) := by decide +kernel
theorem dX10_readsInsert_48 : decode cX10_readsInsert 48 = .ok (.iconst 1, 1) := by decide +kernel
theorem dX10_readsInsert_49 : decode cX10_readsInsert 49 = .ok (.invokevirtual 115, 3) := by decide +kernel
theorem dX10_readsInsert_52 : decode cX10_readsInsert 52 = .ok (.aload_n 0, 1) := by decide +kernel
theorem dX10_readsInsert_53 : decode cX10_readsInsert 53 = .ok (.getfield 73, 3) := by decide +kernel
theorem dX10_readsInsert_56 : decode cX10_readsInsert 56 = .ok (.ifCond .ne 21, 3) := by decide +kernel
theorem dX10_readsInsert_59 : decode cX10_readsInsert 59 = .ok (.aload_n 0, 1) := by decide +kernel
theorem dX10_readsInsert_60 : decode cX10_readsInsert 60 = .ok (.iload_n 1, 1) := by decide +kernel
theorem dX10_readsInsert_61 : decode cX10_readsInsert 61 = .ok (.aload_n 0, 1) := by decide +kernel
theorem dX10_readsInsert_62 : decode cX10_readsInsert 62 = .ok (.getfield 79, 3) := by decide +kernel
theorem dX10_readsInsert_65 : decode cX10_readsInsert 65 = .ok (.aload_n 0, 1) := by decide +kernel
theorem dX10_readsInsert_66 : decode cX10_readsInsert 66 = .ok (.getfield 76, 3) := by decide +kernel
theorem dX10_readsInsert_69 : decode cX10_readsInsert 69 = .ok (.aload_n 0, 1) := by decide +kernel
theorem dX10_readsInsert_70 : decode cX10_readsInsert 70 = .ok (.getfield 79, 3) := by decide +kernel
theorem dX10_readsInsert_73 : decode cX10_readsInsert 73 = .ok (.isub, 1) := by decide +kernel
theorem dX10_readsInsert_74 : decode cX10_readsInsert 74 = .ok (.invokevirtual 212, 3) := by decide +kernel
theorem dX10_readsInsert_77 : decode cX10_readsInsert 77 = .ok (.aload_n 0, 1) := by decide +kernel
theorem dX10_readsInsert_78 : decode cX10_readsInsert 78 = .ok (.invokevirtual 122, 3) := by decide +kernel
theorem dX10_readsInsert_81 : decode cX10_readsInsert 81 = .ok (.return_, 1) := by decide +kernel
theorem dX10_lastOf_0 : decode cX10_lastOf 0 = .ok (.aload_n 0, 1) := by decide +kernel
theorem dX10_lastOf_1 : decode cX10_lastOf 1 = .ok (.iload_n 1, 1) := by decide +kernel
theorem dX10_lastOf_2 : decode cX10_lastOf 2 = .ok (.iconst 5, 1) := by decide +kernel
theorem dX10_lastOf_3 : decode cX10_lastOf 3 = .ok (.invokevirtual 138, 3) := by decide +kernel
theorem dX10_lastOf_6 : decode cX10_lastOf 6 = .ok (.aload_n 0, 1) := by decide +kernel
theorem dX10_lastOf_7 : decode cX10_lastOf 7 = .ok (.iload_n 1, 1) := by decide +kernel
theorem dX10_lastOf_8 : decode cX10_lastOf 8 = .ok (.bipush 6, 2) := by decide +kernel
theorem dX10_lastOf_10 : decode cX10_lastOf 10 = .ok (.invokevirtual 138, 3) := by decide +kernel
theorem dX10_lastOf_13 : decode cX10_lastOf 13 = .ok (.iadd, 1) := by decide +kernel
theorem dX10_lastOf_14 : decode cX10_lastOf 14 = .ok (.iconst 1, 1) := by decide +kernel
theorem dX10_lastOf_15 : decode cX10_lastOf 15 = .ok (.isub, 1) := by decide +kernel
theorem dX10_lastOf_16 : decode cX10_lastOf 16 = .ok (.ireturn, 1) := by decide +kernel
theorem dX10_standing_0 : decode cX10_standing 0 = .ok (.iconst 0, 1) := by decide +kernel
theorem dX10_standing_1 : decode cX10_standing 1 = .ok (.istore_n 2, 1) := by decide +kernel
theorem dX10_standing_2 : decode cX10_standing 2 = .ok (.aload_n 0, 1) := by decide +kernel
theorem dX10_standing_3 : decode cX10_standing 3 = .ok (.iload_n 1, 1) := by decide +kernel
theorem dX10_standing_4 : decode cX10_standing 4 = .ok (.iconst 5, 1) := by decide +kernel
theorem dX10_standing_5 : decode cX10_standing 5 = .ok (.invokevirtual 138, 3) := by decide +kernel
theorem dX10_standing_8 : decode cX10_standing 8 = .ok (.istore_n 3, 1) := by decide +kernel
theorem dX10_standing_9 : decode cX10_standing 9 = .ok (.iload_n 3, 1) := by decide +kernel
theorem dX10_standing_10 : decode cX10_standing 10 = .ok (.aload_n 0, 1) := by decide +kernel
theorem dX10_standing_11 : decode cX10_standing 11 = .ok (.iload_n 1, 1) := by decide +kernel
theorem dX10_standing_12 : decode cX10_standing 12 = .ok (.invokevirtual 327, 3) := by decide +kernel
theorem dX10_standing_15 : decode cX10_standing 15 = .ok (.if_icmp .gt 27, 3) := by decide +kernel
theorem dX10_standing_18 : decode cX10_standing 18 = .ok (.iload_n 2, 1) := by decide +kernel
theorem dX10_standing_19 : decode cX10_standing 19 = .ok (.aload_n 0, 1) := by decide +kernel
theorem dX10_standing_20 : decode cX10_standing 20 = .ok (.iload_n 3, 1) := by decide +kernel
theorem dX10_standing_21 : decode cX10_standing 21 = .ok (.invokevirtual 330, 3) := by decide +kernel
theorem dX10_standing_24 : decode cX10_standing 24 = .ok (.invokestatic 333, 3) := by decide +kernel
theorem dX10_standing_27 : decode cX10_standing 27 = .ok (.aload_n 0, 1) := by decide +kernel
theorem dX10_standing_28 : decode cX10_standing 28 = .ok (.iload_n 3, 1) := by decide +kernel
theorem dX10_standing_29 : decode cX10_standing 29 = .ok (.iconst 4, 1) := by decide +kernel
theorem dX10_standing_30 : decode cX10_standing 30 = .ok (.invokevirtual 209, 3) := by decide +kernel
theorem dX10_standing_33 : decode cX10_standing 33 = .ok (.iadd, 1) := by decide +kernel
theorem dX10_standing_34 : decode cX10_standing 34 = .ok (.iadd, 1) := by decide +kernel
theorem dX10_standing_35 : decode cX10_standing 35 = .ok (.istore_n 2, 1) := by decide +kernel
theorem dX10_standing_36 : decode cX10_standing 36 = .ok (.iinc 3 1, 3) := by decide +kernel
theorem dX10_standing_39 : decode cX10_standing 39 = .ok (.goto (-30), 3) := by decide +kernel
theorem dX10_standing_42 : decode cX10_standing 42 = .ok (.iload_n 2, 1) := by decide +kernel
theorem dX10_standing_43 : decode cX10_standing 43 = .ok (.ireturn, 1) := by decide +kernel
theorem dX10_whySeal_0 : decode cX10_whySeal 0 = .ok (.aload_n 0, 1) := by decide +kernel
theorem dX10_whySeal_1 : decode cX10_whySeal 1 = .ok (.invokevirtual 179, 3) := by decide +kernel
theorem dX10_whySeal_4 : decode cX10_whySeal 4 = .ok (.istore_n 3, 1) := by decide +kernel
theorem dX10_whySeal_5 : decode cX10_whySeal 5 = .ok (.iload_n 3, 1) := by decide +kernel
theorem dX10_whySeal_6 : decode cX10_whySeal 6 = .ok (.iconst (-1), 1) := by decide +kernel
theorem dX10_whySeal_7 : decode cX10_whySeal 7 = .ok (.if_icmp .ne 5, 3) := by decide +kernel
theorem dX10_whySeal_10 : decode cX10_whySeal 10 = .ok (.iconst 1, 1) := by decide +kernel
theorem dX10_whySeal_11 : decode cX10_whySeal 11 = .ok (.ireturn, 1) := by decide +kernel
theorem dX10_whySeal_12 : decode cX10_whySeal 12 = .ok (.iload_n 1, 1) := by decide +kernel
theorem dX10_whySeal_13 : decode cX10_whySeal 13 = .ok (.aload_n 0, 1) := by decide +kernel
theorem dX10_whySeal_14 : decode cX10_whySeal 14 = .ok (.getfield 9, 3) := by decide +kernel
theorem dX10_whySeal_17 : decode cX10_whySeal 17 = .ok (.iconst 1, 1) := by decide +kernel
theorem dX10_whySeal_18 : decode cX10_whySeal 18 = .ok (.iaload, 1) := by decide +kernel
theorem dX10_whySeal_19 : decode cX10_whySeal 19 = .ok (.if_icmp .ge 5, 3) := by decide +kernel
theorem dX10_whySeal_22 : decode cX10_whySeal 22 = .ok (.iconst 2, 1) := by decide +kernel
theorem dX10_whySeal_23 : decode cX10_whySeal 23 = .ok (.ireturn, 1) := by decide +kernel
theorem dX10_whySeal_24 : decode cX10_whySeal 24 = .ok (.iload_n 2, 1) := by decide +kernel
theorem dX10_whySeal_25 : decode cX10_whySeal 25 = .ok (.aload_n 0, 1) := by decide +kernel
theorem dX10_whySeal_26 : decode cX10_whySeal 26 = .ok (.iload_n 3, 1) := by decide +kernel
theorem dX10_whySeal_27 : decode cX10_whySeal 27 = .ok (.iconst 3, 1) := by decide +kernel
theorem dX10_whySeal_28 : decode cX10_whySeal 28 = .ok (.invokevirtual 138, 3) := by decide +kernel
theorem dX10_whySeal_31 : decode cX10_whySeal 31 = .ok (.if_icmp .eq 5, 3) := by decide +kernel
theorem dX10_whySeal_34 : decode cX10_whySeal 34 = .ok (.iconst 3, 1) := by decide +kernel
theorem dX10_whySeal_35 : decode cX10_whySeal 35 = .ok (.ireturn, 1) := by decide +kernel
theorem dX10_whySeal_36 : decode cX10_whySeal 36 = .ok (.aload_n 0, 1) := by decide +kernel
theorem dX10_whySeal_37 : decode cX10_whySeal 37 = .ok (.iload_n 3, 1) := by decide +kernel
theorem dX10_whySeal_38 : decode cX10_whySeal 38 = .ok (.invokevirtual 343, 3) := by decide +kernel
theorem dX10_whySeal_41 : decode cX10_whySeal 41 = .ok (.ifCond .ne 7, 3) := by decide +kernel
theorem dX10_whySeal_44 : decode cX10_whySeal 44 = .ok (.iconst 4, 1) := by decide +kernel
theorem dX10_whySeal_45 : decode cX10_whySeal 45 = .ok (.goto 4, 3) := by decide +kernel
theorem dX10_whySeal_48 : decode cX10_whySeal 48 = .ok (.iconst 0, 1) := by decide +kernel
theorem dX10_whySeal_49 : decode cX10_whySeal 49 = .ok (.ireturn, 1) := by decide +kernel
theorem dX10_seals_0 : decode cX10_seals 0 = .ok (.aload_n 0, 1) := by decide +kernel
theorem dX10_seals_1 : decode cX10_seals 1 = .ok (.invokevirtual 179, 3) := by decide +kernel
theorem dX10_seals_4 : decode cX10_seals 4 = .ok (.istore_n 2, 1) := by decide +kernel
theorem dX10_seals_5 : decode cX10_seals 5 = .ok (.aload_n 0, 1) := by decide +kernel
theorem dX10_seals_6 : decode cX10_seals 6 = .ok (.iload_n 2, 1) := by decide +kernel
theorem dX10_seals_7 : decode cX10_seals 7 = .ok (.iconst 0, 1) := by decide +kernel
theorem dX10_seals_8 : decode cX10_seals 8 = .ok (.invokevirtual 138, 3) := by decide +kernel
theorem dX10_seals_11 : decode cX10_seals 11 = .ok (.istore_n 3, 1) := by decide +kernel
theorem dX10_seals_12 : decode cX10_seals 12 = .ok (.iload_n 3, 1) := by decide +kernel
theorem dX10_seals_13 : decode cX10_seals 13 = .ok (.ifCond .ne 7, 3) := by decide +kernel
theorem dX10_seals_16 : decode cX10_seals 16 = .ok (.iconst 5, 1) := by decide +kernel
theorem dX10_seals_17 : decode cX10_seals 17 = .ok (.goto 13, 3) := by decide +kernel
theorem dX10_seals_20 : decode cX10_seals 20 = .ok (.iload_n 3, 1) := by decide +kernel
theorem dX10_seals_21 : decode cX10_seals 21 = .ok (.iconst 1, 1) := by decide +kernel
theorem dX10_seals_22 : decode cX10_seals 22 = .ok (.if_icmp .ne 7, 3) := by decide +kernel
theorem dX10_seals_25 : decode cX10_seals 25 = .ok (.iconst 3, 1) := by decide +kernel
theorem dX10_seals_26 : decode cX10_seals 26 = .ok (.goto 4, 3) := by decide +kernel
theorem dX10_seals_29 : decode cX10_seals 29 = .ok (.iconst 4, 1) := by decide +kernel
theorem dX10_seals_30 : decode cX10_seals 30 = .ok (.aload_n 0, 1) := by decide +kernel
theorem dX10_seals_31 : decode cX10_seals 31 = .ok (.iload_n 2, 1) := by decide +kernel
theorem dX10_seals_32 : decode cX10_seals 32 = .ok (.invokevirtual 343, 3) := by decide +kernel
theorem dX10_seals_35 : decode cX10_seals 35 = .ok (.iadd, 1) := by decide +kernel
theorem dX10_seals_36 : decode cX10_seals 36 = .ok (.istore 4, 2) := by decide +kernel
theorem dX10_seals_38 : decode cX10_seals 38 = .ok (.aload_n 0, 1) := by decide +kernel
theorem dX10_seals_39 : decode cX10_seals 39 = .ok (.iload_n 2, 1) := by decide +kernel
theorem dX10_seals_40 : decode cX10_seals 40 = .ok (.iconst 1, 1) := by decide +kernel
theorem dX10_seals_41 : decode cX10_seals 41 = .ok (.iconst 1, 1) := by decide +kernel
theorem dX10_seals_42 : decode cX10_seals 42 = .ok (.invokevirtual 141, 3) := by decide +kernel
theorem dX10_seals_45 : decode cX10_seals 45 = .ok (.aload_n 0, 1) := by decide +kernel
theorem dX10_seals_46 : decode cX10_seals 46 = .ok (.iload_n 2, 1) := by decide +kernel
theorem dX10_seals_47 : decode cX10_seals 47 = .ok (.iconst 2, 1) := by decide +kernel
theorem dX10_seals_48 : decode cX10_seals 48 = .ok (.iload_n 1, 1) := by decide +kernel
theorem dX10_seals_49 : decode cX10_seals 49 = .ok (.invokevirtual 141, 3) := by decide +kernel
theorem dX10_seals_52 : decode cX10_seals 52 = .ok (.aload_n 0, 1) := by decide +kernel
theorem dX10_seals_53 : decode cX10_seals 53 = .ok (.iload_n 2, 1) := by decide +kernel
theorem dX10_seals_54 : decode cX10_seals 54 = .ok (.iconst 4, 1) := by decide +kernel
theorem dX10_seals_55 : decode cX10_seals 55 = .ok (.iload 4, 2) := by decide +kernel
theorem dX10_seals_57 : decode cX10_seals 57 = .ok (.invokevirtual 141, 3) := by decide +kernel
theorem dX10_seals_60 : decode cX10_seals 60 = .ok (.aload_n 0, 1) := by decide +kernel
theorem dX10_seals_61 : decode cX10_seals 61 = .ok (.getfield 9, 3) := by decide +kernel
theorem dX10_seals_64 : decode cX10_seals 64 = .ok (.bipush 7, 2) := by decide +kernel
theorem dX10_seals_66 : decode cX10_seals 66 = .ok (.dup2, 1) := by decide +kernel
theorem dX10_seals_67 : decode cX10_seals 67 = .ok (.iaload, 1) := by decide +kernel
theorem dX10_seals_68 : decode cX10_seals 68 = .ok (.iload 4, 2) := by decide +kernel
theorem dX10_seals_70 : decode cX10_seals 70 = .ok (.iadd, 1) := by decide +kernel
theorem dX10_seals_71 : decode cX10_seals 71 = .ok (.iastore, 1) := by decide +kernel
theorem dX10_seals_72 : decode cX10_seals 72 = .ok (.iload 4, 2) := by decide +kernel
theorem dX10_seals_74 : decode cX10_seals 74 = .ok (.ireturn, 1) := by decide +kernel
set_option maxRecDepth 100000 in
set_option maxHeartbeats 4000000 in
theorem cX10_comesLeafc {l : Launch} {v0 : Option Nat} {v1 : Int32} {σ : HpT} {σ' : HpT} (h : fX10_comesLeaf v0 v1 σ = some σ') : IsK σ v0 10 ∧ Ct l yX10_comesLeaf cX10_comesLeaf 3 none 2 42 [va_rf v0, .int v1] σ (.ok none) σ' 0 0 := by
  unfold fX10_comesLeaf at h
  replace h := bnP_s h
  obtain ⟨u, hk, h⟩ := h
  replace hk := isK_s hk
  refine ⟨hk, ?_⟩
  refine ct_start mi_X10_comesLeaf.1 rfl (al_le (al_1 (rf_cat _) (al_1 rfl al_n)) (Nat.le_of_ble_eq_true rfl)) (ag_1 (rf_cat _) (ag_1 rfl ag_n)) (fun Δ Γ B hE hnm => ?_)
  refine g_aload_n B 0 dX10_comesLeaf_0 rfl rfl ?_
  refine g_iload_n B 1 dX10_comesLeaf_1 rfl rfl ?_
  replace h := bnP_s h
  obtain ⟨x1, h2, h⟩ := h
  refine g_callVs0 (st := []) B (cX10_mateOfc h2) (Nat.le_of_ble_eq_true rfl) rfl rfl mi_X10_mateOf lk_RX10_166 ⟨Nat.le_of_ble_eq_true rfl, Nat.le_of_ble_eq_true rfl⟩ rfl rfl (Nat.le_of_ble_eq_true rfl) dX10_comesLeaf_2 (Nat.zero_le _) (Nat.zero_le _) ?_
  refine g_istore_n B dX10_comesLeaf_5 rfl (Nat.le_of_ble_eq_true rfl) (s1_c (f1_k rfl (f1_1 rfl rfl f1_n))) ?_
  refine g_aload_n B 1 dX10_comesLeaf_6 rfl rfl ?_
  replace h := bnP_s h
  obtain ⟨x3, h4, h⟩ := h
  refine g_getR B fl_RX10_9 (by decide) dX10_comesLeaf_7 h4 ?_
  refine g_bipush (v := 99) B dX10_comesLeaf_10 (by decide) ?_
  refine g_iload_n B 2 dX10_comesLeaf_12 rfl rfl ?_
  refine g_iadd B dX10_comesLeaf_13 ?_
  refine g_iload_n B 0 dX10_comesLeaf_14 rfl rfl ?_
  refine g_iconst (v := (-1)) B dX10_comesLeaf_15 (by decide) ?_
  replace h := bnP_s h
  obtain ⟨j5, h6, h⟩ := h
  have k8 : GW Δ Γ (0) (0) 37 [] [.int j5.2.2, .int j5.2.1, va_rf j5.1] σ := by
    replace h := bnP_s h
    obtain ⟨s16, h15, h⟩ := h
    refine g_iast B dX10_comesLeaf_37 h15 ?_
    replace h := Option.some.inj h
    subst h
    exact g_vret B hE (Nat.zero_le _) (Nat.zero_le _) dX10_comesLeaf_38
  clear h
  have h := h6
  clear h6
  refine g_icmp_eq B 36 dX10_comesLeaf_16 (by decide) (fun hc => ?_) (fun hc => ?_)
  · replace h := ifp hc h
    refine g_iconst (v := 0) B dX10_comesLeaf_36 (by decide) ?_
    replace h := Option.some.inj h
    subst h
    exact g_sub [] rfl k8
  · replace h := ifn hc h
    refine g_aload_n B 1 dX10_comesLeaf_19 rfl rfl ?_
    replace h := bnP_s h
    obtain ⟨x10, h11, h⟩ := h
    refine g_getR B fl_RX10_9 (by decide) dX10_comesLeaf_20 h11 ?_
    refine g_bipush (v := 99) B dX10_comesLeaf_23 (by decide) ?_
    refine g_iload_n B 0 dX10_comesLeaf_25 rfl rfl ?_
    refine g_iadd B dX10_comesLeaf_26 ?_
    replace h := bnP_s h
    obtain ⟨x12, h13, h⟩ := h
    refine g_iald B dX10_comesLeaf_27 h13 ?_
    refine g_iconst (v := 2) B dX10_comesLeaf_28 (by decide) ?_
    refine g_icmp_ne B 36 dX10_comesLeaf_29 (by decide) (fun hc => ?_) (fun hc => ?_)
    · replace h := ifn hc h
      refine g_iconst (v := 0) B dX10_comesLeaf_36 (by decide) ?_
      replace h := Option.some.inj h
      subst h
      exact g_sub [] rfl k8
    · replace h := ifp hc h
      refine g_iconst (v := 1) B dX10_comesLeaf_32 (by decide) ?_
      refine g_goto B 37 dX10_comesLeaf_33 (by decide) ?_
      replace h := Option.some.inj h
      subst h
      exact g_sub [] rfl k8
set_option maxRecDepth 100000 in
set_option maxHeartbeats 4000000 in
theorem cX10_addsWordc {l : Launch} {v0 : Option Nat} {v1 : Int32} {σ : HpT} {σ' : HpT} (h : fX10_addsWord v0 v1 σ = some σ') : IsK σ v0 10 ∧ Ct l yX10_addsWord cX10_addsWord 5 none 3 64 [va_rf v0, .int v1] σ (.ok none) σ' 0 0 := by
  unfold fX10_addsWord at h
  replace h := bnP_s h
  obtain ⟨u, hk, h⟩ := h
  replace hk := isK_s hk
  refine ⟨hk, ?_⟩
  refine ct_start mi_X10_addsWord.1 rfl (al_le (al_1 (rf_cat _) (al_1 rfl al_n)) (Nat.le_of_ble_eq_true rfl)) (ag_1 (rf_cat _) (ag_1 rfl ag_n)) (fun Δ Γ B hE hnm => ?_)
  refine g_aload_n B 0 dX10_addsWord_0 rfl rfl ?_
  replace h := bnP_s h
  obtain ⟨x1, h2, h⟩ := h
  refine g_getR B fl_RX10_9 (by decide) dX10_addsWord_1 h2 ?_
  refine g_iconst (v := 4) B dX10_addsWord_4 (by decide) ?_
  replace h := bnP_s h
  obtain ⟨x3, h4, h⟩ := h
  refine g_iald B dX10_addsWord_5 h4 ?_
  refine g_istore_n B dX10_addsWord_6 rfl (Nat.le_of_ble_eq_true rfl) (s1_c (f1_k rfl (f1_1 rfl rfl f1_n))) ?_
  refine g_bipush (v := 127) B dX10_addsWord_7 (by decide) ?_
  refine g_bipush (v := 13) B dX10_addsWord_9 (by decide) ?_
  refine g_iload_n B 0 dX10_addsWord_11 rfl rfl ?_
  refine g_imul B dX10_addsWord_12 ?_
  refine g_iadd B dX10_addsWord_13 ?_
  refine g_istore_n B dX10_addsWord_14 rfl (Nat.le_of_ble_eq_true rfl) (s1_c (f1_1 rfl rfl (f1_k rfl (f1_k rfl f1_n)))) ?_
  refine g_iconst (v := 0) B dX10_addsWord_15 (by decide) ?_
  refine g_istore B dX10_addsWord_16 (Nat.le_of_ble_eq_true rfl) (s1_c (f1_1 rfl rfl (f1_k rfl (f1_k rfl (f1_k rfl f1_n))))) ?_
  replace h := bnS_s h
  obtain ⟨r6, s20, h7, h⟩ := h
  have kE8 : GW Δ Γ (0) (0) 41 [(0, va_rf v0), (1, .int v1), (2, .int x3), (3, .int (127 + (13 * x3)))] [] s20 := by
    refine g_aload_n B 0 dX10_addsWord_41 rfl rfl ?_
    replace h := bnP_s h
    obtain ⟨x21, h22, h⟩ := h
    refine g_getR B fl_RX10_9 (by decide) dX10_addsWord_42 h22 ?_
    refine g_iload_n B 3 dX10_addsWord_45 rfl rfl ?_
    refine g_iconst (v := 0) B dX10_addsWord_46 (by decide) ?_
    refine g_iadd B dX10_addsWord_47 ?_
    refine g_aload_n B 0 dX10_addsWord_48 rfl rfl ?_
    refine g_aload_n B 0 dX10_addsWord_49 rfl rfl ?_
    replace h := bnP_s h
    obtain ⟨x23, h24, h⟩ := h
    refine g_getI B fl_RX10_79 (by decide) dX10_addsWord_50 h24 ?_
    refine g_aload_n B 0 dX10_addsWord_53 rfl rfl ?_
    replace h := bnP_s h
    obtain ⟨x25, h26, h⟩ := h
    refine g_getI B fl_RX10_76 (by decide) dX10_addsWord_54 h26 ?_
    refine g_aload_n B 0 dX10_addsWord_57 rfl rfl ?_
    replace h := bnP_s h
    obtain ⟨x27, h28, h⟩ := h
    refine g_getI B fl_RX10_79 (by decide) dX10_addsWord_58 h28 ?_
    refine g_isub B dX10_addsWord_61 ?_
    refine g_iconst (v := 0) B dX10_addsWord_62 (by decide) ?_
    replace h := bnP_s h
    obtain ⟨x29, h30, h⟩ := h
    refine g_callVs0 (st := [.int ((127 + (13 * x3)) + 0), va_rf x21]) B (cX10_partOfc h30) (Nat.le_of_ble_eq_true rfl) rfl rfl mi_X10_partOf lk_RX10_160 ⟨Nat.le_of_ble_eq_true rfl, Nat.le_of_ble_eq_true rfl⟩ rfl rfl (Nat.le_of_ble_eq_true rfl) dX10_addsWord_63 (Nat.zero_le _) (Nat.zero_le _) ?_
    replace h := bnP_s h
    obtain ⟨s33, h32, h⟩ := h
    refine g_iast B dX10_addsWord_66 h32 ?_
    refine g_aload_n B 0 dX10_addsWord_67 rfl rfl ?_
    replace h := bnP_s h
    obtain ⟨x34, h35, h⟩ := h
    refine g_getR B fl_RX10_9 (by decide) dX10_addsWord_68 h35 ?_
    refine g_iload_n B 3 dX10_addsWord_71 rfl rfl ?_
    refine g_iconst (v := 1) B dX10_addsWord_72 (by decide) ?_
    refine g_iadd B dX10_addsWord_73 ?_
    refine g_aload_n B 0 dX10_addsWord_74 rfl rfl ?_
    refine g_aload_n B 0 dX10_addsWord_75 rfl rfl ?_
    replace h := bnP_s h
    obtain ⟨x36, h37, h⟩ := h
    refine g_getI B fl_RX10_79 (by decide) dX10_addsWord_76 h37 ?_
    refine g_aload_n B 0 dX10_addsWord_79 rfl rfl ?_
    replace h := bnP_s h
    obtain ⟨x38, h39, h⟩ := h
    refine g_getI B fl_RX10_76 (by decide) dX10_addsWord_80 h39 ?_
    refine g_aload_n B 0 dX10_addsWord_83 rfl rfl ?_
    replace h := bnP_s h
    obtain ⟨x40, h41, h⟩ := h
    refine g_getI B fl_RX10_79 (by decide) dX10_addsWord_84 h41 ?_
    refine g_isub B dX10_addsWord_87 ?_
    refine g_iconst (v := 1) B dX10_addsWord_88 (by decide) ?_
    replace h := bnP_s h
    obtain ⟨x42, h43, h⟩ := h
    refine g_callVs0 (st := [.int ((127 + (13 * x3)) + 1), va_rf x34]) B (cX10_partOfc h43) (Nat.le_of_ble_eq_true rfl) rfl rfl mi_X10_partOf lk_RX10_160 ⟨Nat.le_of_ble_eq_true rfl, Nat.le_of_ble_eq_true rfl⟩ rfl rfl (Nat.le_of_ble_eq_true rfl) dX10_addsWord_89 (Nat.zero_le _) (Nat.zero_le _) ?_
    replace h := bnP_s h
    obtain ⟨s46, h45, h⟩ := h
    refine g_iast B dX10_addsWord_92 h45 ?_
    refine g_aload_n B 0 dX10_addsWord_93 rfl rfl ?_
    replace h := bnP_s h
    obtain ⟨x47, h48, h⟩ := h
    refine g_getR B fl_RX10_9 (by decide) dX10_addsWord_94 h48 ?_
    refine g_iload_n B 3 dX10_addsWord_97 rfl rfl ?_
    refine g_iconst (v := 3) B dX10_addsWord_98 (by decide) ?_
    refine g_iadd B dX10_addsWord_99 ?_
    refine g_aload_n B 0 dX10_addsWord_100 rfl rfl ?_
    replace h := bnP_s h
    obtain ⟨x49, h50, h⟩ := h
    refine g_getI B fl_RX10_135 (by decide) dX10_addsWord_101 h50 ?_
    replace h := bnP_s h
    obtain ⟨s53, h52, h⟩ := h
    refine g_iast B dX10_addsWord_104 h52 ?_
    refine g_aload_n B 0 dX10_addsWord_105 rfl rfl ?_
    replace h := bnP_s h
    obtain ⟨x54, h55, h⟩ := h
    refine g_getR B fl_RX10_9 (by decide) dX10_addsWord_106 h55 ?_
    refine g_iconst (v := 4) B dX10_addsWord_109 (by decide) ?_
    refine g_dup2 B dX10_addsWord_110 rfl (rf_cat _) ?_
    replace h := bnP_s h
    obtain ⟨x56, h57, h⟩ := h
    refine g_iald B dX10_addsWord_111 h57 ?_
    refine g_iconst (v := 1) B dX10_addsWord_112 (by decide) ?_
    refine g_iadd B dX10_addsWord_113 ?_
    replace h := bnP_s h
    obtain ⟨s60, h59, h⟩ := h
    refine g_iast B dX10_addsWord_114 h59 ?_
    refine g_aload_n B 0 dX10_addsWord_115 rfl rfl ?_
    refine g_iload_n B 1 dX10_addsWord_116 rfl rfl ?_
    refine g_bipush (v := 6) B dX10_addsWord_117 (by decide) ?_
    refine g_aload_n B 0 dX10_addsWord_119 rfl rfl ?_
    refine g_iload_n B 1 dX10_addsWord_120 rfl rfl ?_
    refine g_bipush (v := 6) B dX10_addsWord_121 (by decide) ?_
    replace h := bnP_s h
    obtain ⟨x61, h62, h⟩ := h
    refine g_callVs0 (st := [.int 6, .int v1, va_rf v0]) B (cX10_ofActc h62) (Nat.le_of_ble_eq_true rfl) rfl rfl mi_X10_ofAct lk_RX10_138 ⟨Nat.le_of_ble_eq_true rfl, Nat.le_of_ble_eq_true rfl⟩ rfl rfl (Nat.le_of_ble_eq_true rfl) dX10_addsWord_123 (Nat.zero_le _) (Nat.zero_le _) ?_
    refine g_iconst (v := 1) B dX10_addsWord_126 (by decide) ?_
    refine g_iadd B dX10_addsWord_127 ?_
    replace h := bnP_s h
    obtain ⟨s65, h64, h⟩ := h
    refine g_callVv0 (st := []) B (cX10_putsActc h64) (Nat.le_of_ble_eq_true rfl) rfl rfl mi_X10_putsAct lk_RX10_141 ⟨Nat.le_of_ble_eq_true rfl, Nat.le_of_ble_eq_true rfl⟩ rfl rfl (Nat.le_of_ble_eq_true rfl) dX10_addsWord_128 (Nat.zero_le _) (Nat.zero_le _) ?_
    refine g_iload_n B 2 dX10_addsWord_131 rfl rfl ?_
    refine g_aload_n B 0 dX10_addsWord_132 rfl rfl ?_
    replace h := bnP_s h
    obtain ⟨x66, h67, h⟩ := h
    refine g_getR B fl_RX10_9 (by decide) dX10_addsWord_133 h67 ?_
    refine g_iconst (v := 0) B dX10_addsWord_136 (by decide) ?_
    replace h := bnP_s h
    obtain ⟨x68, h69, h⟩ := h
    refine g_iald B dX10_addsWord_137 h69 ?_
    replace h := bnP_s h
    obtain ⟨u70, h71, h⟩ := h
    refine g_idiv B dX10_addsWord_138 (nz_s h71) ?_
    refine g_istore B dX10_addsWord_139 (Nat.le_of_ble_eq_true rfl) (s1_c (f1_k rfl (f1_k rfl (f1_k rfl (f1_1 rfl rfl f1_n))))) ?_
    refine g_iload_n B 3 dX10_addsWord_141 rfl rfl ?_
    refine g_aload_n B 1 dX10_addsWord_142 rfl rfl ?_
    replace h := bnP_s h
    obtain ⟨x72, h73, h⟩ := h
    refine g_getR B fl_RX10_9 (by decide) dX10_addsWord_143 h73 ?_
    refine g_iconst (v := 0) B dX10_addsWord_146 (by decide) ?_
    replace h := bnP_s h
    obtain ⟨x74, h75, h⟩ := h
    refine g_iald B dX10_addsWord_147 h75 ?_
    replace h := bnP_s h
    obtain ⟨u76, h77, h⟩ := h
    refine g_irem B dX10_addsWord_148 (nz_s h77) ?_
    refine g_if_ne B 161 dX10_addsWord_149 (by decide) (fun hc => ?_) (fun hc => ?_)
    · replace h := ifn hc h
      refine g_aload_n B 1 dX10_addsWord_161 rfl rfl ?_
      replace h := bnP_s h
      obtain ⟨x78, h79, h⟩ := h
      refine g_getR B fl_RX10_9 (by decide) dX10_addsWord_162 h79 ?_
      refine g_bipush (v := 99) B dX10_addsWord_165 (by decide) ?_
      refine g_iload B 0 dX10_addsWord_167 rfl ?_
      refine g_iadd B dX10_addsWord_169 ?_
      replace h := bnP_s h
      obtain ⟨x80, h81, h⟩ := h
      refine g_iald B dX10_addsWord_170 h81 ?_
      refine g_iconst (v := 2) B dX10_addsWord_171 (by decide) ?_
      refine g_icmp_ne B 186 dX10_addsWord_172 (by decide) (fun hc => ?_) (fun hc => ?_)
      · replace h := ifn hc h
        replace h := Option.some.inj h
        subst h
        exact g_vret B hE (Nat.zero_le _) (Nat.zero_le _) dX10_addsWord_186
      · replace h := ifp hc h
        refine g_aload_n B 1 dX10_addsWord_175 rfl rfl ?_
        replace h := bnP_s h
        obtain ⟨x82, h83, h⟩ := h
        refine g_getR B fl_RX10_9 (by decide) dX10_addsWord_176 h83 ?_
        refine g_bipush (v := 99) B dX10_addsWord_179 (by decide) ?_
        refine g_iload B 0 dX10_addsWord_181 rfl ?_
        refine g_iadd B dX10_addsWord_183 ?_
        refine g_iconst (v := 0) B dX10_addsWord_184 (by decide) ?_
        replace h := bnP_s h
        obtain ⟨s86, h85, h⟩ := h
        refine g_iast B dX10_addsWord_185 h85 ?_
        replace h := Option.some.inj h
        subst h
        exact g_vret B hE (Nat.zero_le _) (Nat.zero_le _) dX10_addsWord_186
    · replace h := ifp hc h
      refine g_aload_n B 1 dX10_addsWord_152 rfl rfl ?_
      refine g_iload B 0 dX10_addsWord_153 rfl ?_
      replace h := bnP_s h
      obtain ⟨s89, h88, h⟩ := h
      refine g_callVv0 (st := []) B (cX10_comesLeafc h88) (Nat.le_of_ble_eq_true rfl) rfl rfl mi_X10_comesLeaf lk_RX10_163 ⟨Nat.le_of_ble_eq_true rfl, Nat.le_of_ble_eq_true rfl⟩ rfl rfl (Nat.le_of_ble_eq_true rfl) dX10_addsWord_155 (Nat.zero_le _) (Nat.zero_le _) ?_
      refine g_goto B 186 dX10_addsWord_158 (by decide) ?_
      replace h := Option.some.inj h
      subst h
      exact g_vret B hE (Nat.zero_le _) (Nat.zero_le _) dX10_addsWord_186
  clear h
  refine g_sub [3, 4, 2, 1, 0] rfl ?_
  refine lpS_w (I := fun q5 s14 => GW Δ Γ (0) (0) 18 [(0, va_rf v0), (1, .int v1), (2, .int x3), (3, .int (127 + (13 * x3))), (4, .int q5)] [] s14) (r := r6) (σr := s20) ?_ FUEL 0 σ h7
  intro q5 s14 x12 s9 h hI10 hR11
  unfold fX10_addsWord_l1 at h
  refine g_iload B 4 dX10_addsWord_18 rfl ?_
  refine g_bipush (v := 13) B dX10_addsWord_20 (by decide) ?_
  refine g_icmp_ge B 41 dX10_addsWord_22 (by decide) (fun hc => ?_) (fun hc => ?_)
  · replace h := ifp hc h
    obtain ⟨w1, w2⟩ := inS h
    clear h
    subst w1
    subst w2
    obtain ⟨e8, e7⟩ := hR11 _ rfl
    subst e8
    subst e7
    exact g_sub [0, 1, 2, 3] rfl kE8
  · replace h := ifn hc h
    refine g_aload_n B 0 dX10_addsWord_25 rfl rfl ?_
    replace h := bnP_s h
    obtain ⟨x15, h16, h⟩ := h
    refine g_getR B fl_RX10_9 (by decide) dX10_addsWord_26 h16 ?_
    refine g_iload_n B 3 dX10_addsWord_29 rfl rfl ?_
    refine g_iload B 4 dX10_addsWord_30 rfl ?_
    refine g_iadd B dX10_addsWord_32 ?_
    refine g_iconst (v := 0) B dX10_addsWord_33 (by decide) ?_
    replace h := bnP_s h
    obtain ⟨s19, h18, h⟩ := h
    refine g_iast B dX10_addsWord_34 h18 ?_
    refine g_iinc (v := (q5 + 1)) B 4 dX10_addsWord_35 rfl (by first | rfl | (congr 1; decide)) (Nat.le_of_ble_eq_true rfl) (s1_c (f1_k rfl (f1_k rfl (f1_k rfl (f1_1 rfl rfl (f1_x f1_n)))))) ?_
    refine g_goto B 18 dX10_addsWord_38 (by decide) ?_
    obtain ⟨w1, w2⟩ := inS h
    clear h
    subst w1
    subst w2
    exact g_sub [1, 2, 3, 4, 0] rfl (hI10 _ rfl)
set_option maxRecDepth 100000 in
set_option maxHeartbeats 4000000 in
theorem cX10_readsItemc {l : Launch} {v0 : Option Nat} {v1 : Int32} {σ : HpT} {σ' : HpT} (h : fX10_readsItem v0 v1 σ = some σ') : IsK σ v0 10 ∧ Ct l yX10_readsItem cX10_readsItem 2 none 4 88 [va_rf v0, .int v1] σ (.ok none) σ' 0 0 := by
  unfold fX10_readsItem at h
  replace h := bnP_s h
  obtain ⟨u, hk, h⟩ := h
  replace hk := isK_s hk
  refine ⟨hk, ?_⟩
  refine ct_start mi_X10_readsItem.1 rfl (al_le (al_1 (rf_cat _) (al_1 rfl al_n)) (Nat.le_of_ble_eq_true rfl)) (ag_1 (rf_cat _) (ag_1 rfl ag_n)) (fun Δ Γ B hE hnm => ?_)
  refine g_aload_n B 0 dX10_readsItem_0 rfl rfl ?_
  refine g_iconst (v := 2) B dX10_readsItem_1 (by decide) ?_
  replace h := bnP_s h
  obtain ⟨x1, h2, h⟩ := h
  refine g_callVs0 (st := []) B (cX10_isc h2) (Nat.le_of_ble_eq_true rfl) rfl rfl mi_X10_is lk_RX10_102 ⟨Nat.le_of_ble_eq_true rfl, Nat.le_of_ble_eq_true rfl⟩ rfl rfl (Nat.le_of_ble_eq_true rfl) dX10_readsItem_2 (Nat.zero_le _) (Nat.zero_le _) ?_
  replace h := bnS_s h
  obtain ⟨j3, s43, h4, h⟩ := h
  have k6 : GW Δ Γ (0) (0) 83 [(0, va_rf v0)] [] s43 := by
    refine g_aload_n B 0 dX10_readsItem_83 rfl rfl ?_
    replace h := bnP_s h
    obtain ⟨s46, h45, h⟩ := h
    refine g_callVv0 (st := []) B (cX10_goesc h45) (Nat.le_of_ble_eq_true rfl) rfl rfl mi_X10_goes lk_RX10_122 ⟨Nat.le_of_ble_eq_true rfl, Nat.le_of_ble_eq_true rfl⟩ rfl rfl (Nat.le_of_ble_eq_true rfl) dX10_readsItem_84 (Nat.zero_le _) (Nat.zero_le _) ?_
    replace h := Option.some.inj h
    subst h
    exact g_vret B hE (Nat.zero_le _) (Nat.zero_le _) dX10_readsItem_87
  clear h
  have h := h4
  clear h4
  refine g_if_eq B 46 dX10_readsItem_5 (by decide) (fun hc => ?_) (fun hc => ?_)
  · replace h := ifn (bI0 hc) h
    refine g_aload_n B 0 dX10_readsItem_46 rfl rfl ?_
    refine g_iconst (v := 5) B dX10_readsItem_47 (by decide) ?_
    replace h := bnP_s h
    obtain ⟨x8, h9, h⟩ := h
    refine g_callVs0 (st := []) B (cX10_isc h9) (Nat.le_of_ble_eq_true rfl) rfl rfl mi_X10_is lk_RX10_102 ⟨Nat.le_of_ble_eq_true rfl, Nat.le_of_ble_eq_true rfl⟩ rfl rfl (Nat.le_of_ble_eq_true rfl) dX10_readsItem_48 (Nat.zero_le _) (Nat.zero_le _) ?_
    refine g_if_eq B 62 dX10_readsItem_51 (by decide) (fun hc => ?_) (fun hc => ?_)
    · replace h := ifn (bI0 hc) h
      refine g_aload_n B 0 dX10_readsItem_62 rfl rfl ?_
      refine g_bipush (v := 6) B dX10_readsItem_63 (by decide) ?_
      replace h := bnP_s h
      obtain ⟨x10, h11, h⟩ := h
      refine g_callVs0 (st := []) B (cX10_isc h11) (Nat.le_of_ble_eq_true rfl) rfl rfl mi_X10_is lk_RX10_102 ⟨Nat.le_of_ble_eq_true rfl, Nat.le_of_ble_eq_true rfl⟩ rfl rfl (Nat.le_of_ble_eq_true rfl) dX10_readsItem_65 (Nat.zero_le _) (Nat.zero_le _) ?_
      refine g_if_eq B 78 dX10_readsItem_68 (by decide) (fun hc => ?_) (fun hc => ?_)
      · replace h := ifn (bI0 hc) h
        refine g_aload_n B 0 dX10_readsItem_78 rfl rfl ?_
        refine g_iconst (v := 1) B dX10_readsItem_79 (by decide) ?_
        replace h := bnP_s h
        obtain ⟨s14, h13, h⟩ := h
        refine g_callVv0 (st := []) B (cX10_faultsc h13) (Nat.le_of_ble_eq_true rfl) rfl rfl mi_X10_faults lk_RX10_115 ⟨Nat.le_of_ble_eq_true rfl, Nat.le_of_ble_eq_true rfl⟩ rfl rfl (Nat.le_of_ble_eq_true rfl) dX10_readsItem_80 (Nat.zero_le _) (Nat.zero_le _) ?_
        obtain ⟨w1, w2⟩ := inS h
        clear h
        subst w1
        subst w2
        exact g_sub [0] rfl k6
      · replace h := ifp (bI1 hc) h
        refine g_aload_n B 0 dX10_readsItem_71 rfl rfl ?_
        replace h := bnP_s h
        obtain ⟨s17, h16, h⟩ := h
        refine g_callVv0 (st := []) B (cX10_closesClausec h16) (Nat.le_of_ble_eq_true rfl) rfl rfl mi_X10_closesClause lk_RX10_154 ⟨Nat.le_of_ble_eq_true rfl, Nat.le_of_ble_eq_true rfl⟩ rfl rfl (Nat.le_of_ble_eq_true rfl) dX10_readsItem_72 (Nat.zero_le _) (Nat.zero_le _) ?_
        refine g_goto B 83 dX10_readsItem_75 (by decide) ?_
        obtain ⟨w1, w2⟩ := inS h
        clear h
        subst w1
        subst w2
        exact g_sub [0] rfl k6
    · replace h := ifp (bI1 hc) h
      refine g_aload_n B 0 dX10_readsItem_54 rfl rfl ?_
      refine g_iload_n B 1 dX10_readsItem_55 rfl rfl ?_
      replace h := bnP_s h
      obtain ⟨s20, h19, h⟩ := h
      refine g_callVv0 (st := []) B (cX10_opensClausec h19) (Nat.le_of_ble_eq_true rfl) rfl rfl mi_X10_opensClause lk_RX10_151 ⟨Nat.le_of_ble_eq_true rfl, Nat.le_of_ble_eq_true rfl⟩ rfl rfl (Nat.le_of_ble_eq_true rfl) dX10_readsItem_56 (Nat.zero_le _) (Nat.zero_le _) ?_
      refine g_goto B 83 dX10_readsItem_59 (by decide) ?_
      obtain ⟨w1, w2⟩ := inS h
      clear h
      subst w1
      subst w2
      exact g_sub [0] rfl k6
  · replace h := ifp (bI1 hc) h
    refine g_aload_n B 0 dX10_readsItem_8 rfl rfl ?_
    replace h := bnP_s h
    obtain ⟨x21, h22, h⟩ := h
    refine g_getR B fl_RX10_9 (by decide) dX10_readsItem_9 h22 ?_
    refine g_iconst (v := 4) B dX10_readsItem_12 (by decide) ?_
    replace h := bnP_s h
    obtain ⟨x23, h24, h⟩ := h
    refine g_iald B dX10_readsItem_13 h24 ?_
    refine g_bipush (v := 12) B dX10_readsItem_14 (by decide) ?_
    refine g_aload_n B 0 dX10_readsItem_16 rfl rfl ?_
    replace h := bnP_s h
    obtain ⟨x25, h26, h⟩ := h
    refine g_getR B fl_RX10_9 (by decide) dX10_readsItem_17 h26 ?_
    refine g_iconst (v := 0) B dX10_readsItem_20 (by decide) ?_
    replace h := bnP_s h
    obtain ⟨x27, h28, h⟩ := h
    refine g_iald B dX10_readsItem_21 h28 ?_
    refine g_imul B dX10_readsItem_22 ?_
    replace h := bnS_s h
    obtain ⟨j29, s37, h30, h⟩ := h
    have k32 : GW Δ Γ (0) (0) 31 [(0, va_rf v0), (1, .int v1)] [] s37 := by
      refine g_aload_n B 0 dX10_readsItem_31 rfl rfl ?_
      replace h := bnP_s h
      obtain ⟨x38, h39, h⟩ := h
      refine g_getI B fl_RX10_73 (by decide) dX10_readsItem_32 h39 ?_
      refine g_if_ne B 83 dX10_readsItem_35 (by decide) (fun hc => ?_) (fun hc => ?_)
      · replace h := ifn hc h
        obtain ⟨w1, w2⟩ := inS h
        clear h
        subst w1
        subst w2
        exact g_sub [0] rfl k6
      · replace h := ifp hc h
        refine g_aload_n B 0 dX10_readsItem_38 rfl rfl ?_
        refine g_iload_n B 1 dX10_readsItem_39 rfl rfl ?_
        replace h := bnP_s h
        obtain ⟨s42, h41, h⟩ := h
        refine g_callVv0 (st := []) B (cX10_addsWordc h41) (Nat.le_of_ble_eq_true rfl) rfl rfl mi_X10_addsWord lk_RX10_148 ⟨Nat.le_of_ble_eq_true rfl, Nat.le_of_ble_eq_true rfl⟩ rfl rfl (Nat.le_of_ble_eq_true rfl) dX10_readsItem_40 (Nat.zero_le _) (Nat.zero_le _) ?_
        refine g_goto B 83 dX10_readsItem_43 (by decide) ?_
        obtain ⟨w1, w2⟩ := inS h
        clear h
        subst w1
        subst w2
        exact g_sub [0] rfl k6
    clear h
    have h := h30
    clear h30
    refine g_icmp_ne B 31 dX10_readsItem_23 (by decide) (fun hc => ?_) (fun hc => ?_)
    · replace h := ifn hc h
      obtain ⟨w1, w2⟩ := inS h
      clear h
      subst w1
      subst w2
      exact g_sub [0, 1] rfl k32
    · replace h := ifp hc h
      refine g_aload_n B 0 dX10_readsItem_26 rfl rfl ?_
      refine g_iconst (v := 4) B dX10_readsItem_27 (by decide) ?_
      replace h := bnP_s h
      obtain ⟨s36, h35, h⟩ := h
      refine g_callVv0 (st := []) B (cX10_faultsc h35) (Nat.le_of_ble_eq_true rfl) rfl rfl mi_X10_faults lk_RX10_115 ⟨Nat.le_of_ble_eq_true rfl, Nat.le_of_ble_eq_true rfl⟩ rfl rfl (Nat.le_of_ble_eq_true rfl) dX10_readsItem_28 (Nat.zero_le _) (Nat.zero_le _) ?_
      obtain ⟨w1, w2⟩ := inS h
      clear h
      subst w1
      subst w2
      exact g_sub [0, 1] rfl k32
set_option maxRecDepth 100000 in
set_option maxHeartbeats 4000000 in
theorem cX10_readsBodyc {l : Launch} {v0 : Option Nat} {v1 : Int32} {σ : HpT} {σ' : HpT} (h : fX10_readsBody v0 v1 σ = some σ') : IsK σ v0 10 ∧ Ct l yX10_readsBody cX10_readsBody 2 none 5 109 [va_rf v0, .int v1] σ (.ok none) σ' 0 0 := by
  unfold fX10_readsBody at h
  replace h := bnP_s h
  obtain ⟨u, hk, h⟩ := h
  replace hk := isK_s hk
  refine ⟨hk, ?_⟩
  refine ct_start mi_X10_readsBody.1 rfl (al_le (al_1 (rf_cat _) (al_1 rfl al_n)) (Nat.le_of_ble_eq_true rfl)) (ag_1 (rf_cat _) (ag_1 rfl ag_n)) (fun Δ Γ B hE hnm => ?_)
  refine g_aload_n B 0 dX10_readsBody_0 rfl rfl ?_
  refine g_iconst (v := 0) B dX10_readsBody_1 (by decide) ?_
  replace h := bnP_s h
  obtain ⟨s3, h2, h⟩ := h
  refine g_putI B fl_RX10_135 (by decide) dX10_readsBody_2 h2 ?_
  refine g_aload_n B 0 dX10_readsBody_5 rfl rfl ?_
  refine g_iconst (v := 0) B dX10_readsBody_6 (by decide) ?_
  replace h := bnP_s h
  obtain ⟨s6, h5, h⟩ := h
  refine g_putI B fl_RX10_132 (by decide) dX10_readsBody_7 h5 ?_
  replace h := bnS_s h
  obtain ⟨r8, s44, h9, h⟩ := h
  have kE10 : GW Δ Γ (0) (0) 67 [] [] s44 := by
    replace h := Option.some.inj h
    subst h
    exact g_vret B hE (Nat.zero_le _) (Nat.zero_le _) dX10_readsBody_67
  clear h
  refine g_sub [0, 1] rfl ?_
  refine lpS_w (I := fun q7 s16 => GW Δ Γ (0) (0) 10 [(0, va_rf v0), (1, .int v1)] [] s16) (r := r8) (σr := s44) ?_ FUEL () s6 h9
  intro q7 s16 x14 s9 h hI12 hR13
  unfold fX10_readsBody_l1 at h
  refine g_aload_n B 0 dX10_readsBody_10 rfl rfl ?_
  replace h := bnP_s h
  obtain ⟨x17, h18, h⟩ := h
  refine g_getI B fl_RX10_73 (by decide) dX10_readsBody_11 h18 ?_
  refine g_if_ne B 67 dX10_readsBody_14 (by decide) (fun hc => ?_) (fun hc => ?_)
  · replace h := ifn hc h
    obtain ⟨w1, w2⟩ := inS h
    clear h
    subst w1
    subst w2
    obtain ⟨e8, e7⟩ := hR13 _ rfl
    subst e8
    subst e7
    exact g_sub [] rfl kE10
  · replace h := ifp hc h
    refine g_aload_n B 0 dX10_readsBody_17 rfl rfl ?_
    replace h := bnP_s h
    obtain ⟨x19, h20, h⟩ := h
    refine g_getI B fl_RX10_132 (by decide) dX10_readsBody_18 h20 ?_
    refine g_if_gt B 59 dX10_readsBody_21 (by decide) (fun hc => ?_) (fun hc => ?_)
    · replace h := ifp hc h
      refine g_aload_n B 0 dX10_readsBody_59 rfl rfl ?_
      refine g_iload_n B 1 dX10_readsBody_60 rfl rfl ?_
      replace h := bnP_s h
      obtain ⟨s23, h22, h⟩ := h
      refine g_callVv0 (st := []) B (cX10_readsItemc h22) (Nat.le_of_ble_eq_true rfl) rfl rfl mi_X10_readsItem lk_RX10_157 ⟨Nat.le_of_ble_eq_true rfl, Nat.le_of_ble_eq_true rfl⟩ rfl rfl (Nat.le_of_ble_eq_true rfl) dX10_readsBody_61 (Nat.zero_le _) (Nat.zero_le _) ?_
      refine g_goto B 10 dX10_readsBody_64 (by decide) ?_
      obtain ⟨w1, w2⟩ := inS h
      clear h
      subst w1
      subst w2
      exact g_sub [0, 1] rfl (hI12 _ rfl)
    · replace h := ifn hc h
      refine g_aload_n B 0 dX10_readsBody_24 rfl rfl ?_
      refine g_iload_n B 1 dX10_readsBody_25 rfl rfl ?_
      refine g_bipush (v := 6) B dX10_readsBody_26 (by decide) ?_
      replace h := bnP_s h
      obtain ⟨x24, h25, h⟩ := h
      refine g_callVs0 (st := []) B (cX10_ofActc h25) (Nat.le_of_ble_eq_true rfl) rfl rfl mi_X10_ofAct lk_RX10_138 ⟨Nat.le_of_ble_eq_true rfl, Nat.le_of_ble_eq_true rfl⟩ rfl rfl (Nat.le_of_ble_eq_true rfl) dX10_readsBody_28 (Nat.zero_le _) (Nat.zero_le _) ?_
      refine g_if_eq B 59 dX10_readsBody_31 (by decide) (fun hc => ?_) (fun hc => ?_)
      · replace h := ifp hc h
        refine g_aload_n B 0 dX10_readsBody_59 rfl rfl ?_
        refine g_iload_n B 1 dX10_readsBody_60 rfl rfl ?_
        replace h := bnP_s h
        obtain ⟨s28, h27, h⟩ := h
        refine g_callVv0 (st := []) B (cX10_readsItemc h27) (Nat.le_of_ble_eq_true rfl) rfl rfl mi_X10_readsItem lk_RX10_157 ⟨Nat.le_of_ble_eq_true rfl, Nat.le_of_ble_eq_true rfl⟩ rfl rfl (Nat.le_of_ble_eq_true rfl) dX10_readsBody_61 (Nat.zero_le _) (Nat.zero_le _) ?_
        refine g_goto B 10 dX10_readsBody_64 (by decide) ?_
        obtain ⟨w1, w2⟩ := inS h
        clear h
        subst w1
        subst w2
        exact g_sub [0, 1] rfl (hI12 _ rfl)
      · replace h := ifn hc h
        refine g_aload_n B 0 dX10_readsBody_34 rfl rfl ?_
        refine g_iconst (v := 2) B dX10_readsBody_35 (by decide) ?_
        replace h := bnP_s h
        obtain ⟨x29, h30, h⟩ := h
        refine g_callVs0 (st := []) B (cX10_isc h30) (Nat.le_of_ble_eq_true rfl) rfl rfl mi_X10_is lk_RX10_102 ⟨Nat.le_of_ble_eq_true rfl, Nat.le_of_ble_eq_true rfl⟩ rfl rfl (Nat.le_of_ble_eq_true rfl) dX10_readsBody_36 (Nat.zero_le _) (Nat.zero_le _) ?_
        refine g_if_ne B 59 dX10_readsBody_39 (by decide) (fun hc => ?_) (fun hc => ?_)
        · replace h := ifp (bI1 hc) h
          refine g_aload_n B 0 dX10_readsBody_59 rfl rfl ?_
          refine g_iload_n B 1 dX10_readsBody_60 rfl rfl ?_
          replace h := bnP_s h
          obtain ⟨s33, h32, h⟩ := h
          refine g_callVv0 (st := []) B (cX10_readsItemc h32) (Nat.le_of_ble_eq_true rfl) rfl rfl mi_X10_readsItem lk_RX10_157 ⟨Nat.le_of_ble_eq_true rfl, Nat.le_of_ble_eq_true rfl⟩ rfl rfl (Nat.le_of_ble_eq_true rfl) dX10_readsBody_61 (Nat.zero_le _) (Nat.zero_le _) ?_
          refine g_goto B 10 dX10_readsBody_64 (by decide) ?_
          obtain ⟨w1, w2⟩ := inS h
          clear h
          subst w1
          subst w2
          exact g_sub [0, 1] rfl (hI12 _ rfl)
        · replace h := ifn (bI0 hc) h
          refine g_aload_n B 0 dX10_readsBody_42 rfl rfl ?_
          refine g_iconst (v := 5) B dX10_readsBody_43 (by decide) ?_
          replace h := bnP_s h
          obtain ⟨x34, h35, h⟩ := h
          refine g_callVs0 (st := []) B (cX10_isc h35) (Nat.le_of_ble_eq_true rfl) rfl rfl mi_X10_is lk_RX10_102 ⟨Nat.le_of_ble_eq_true rfl, Nat.le_of_ble_eq_true rfl⟩ rfl rfl (Nat.le_of_ble_eq_true rfl) dX10_readsBody_44 (Nat.zero_le _) (Nat.zero_le _) ?_
          refine g_if_ne B 59 dX10_readsBody_47 (by decide) (fun hc => ?_) (fun hc => ?_)
          · replace h := ifp (bI1 hc) h
            refine g_aload_n B 0 dX10_readsBody_59 rfl rfl ?_
            refine g_iload_n B 1 dX10_readsBody_60 rfl rfl ?_
            replace h := bnP_s h
            obtain ⟨s38, h37, h⟩ := h
            refine g_callVv0 (st := []) B (cX10_readsItemc h37) (Nat.le_of_ble_eq_true rfl) rfl rfl mi_X10_readsItem lk_RX10_157 ⟨Nat.le_of_ble_eq_true rfl, Nat.le_of_ble_eq_true rfl⟩ rfl rfl (Nat.le_of_ble_eq_true rfl) dX10_readsBody_61 (Nat.zero_le _) (Nat.zero_le _) ?_
            refine g_goto B 10 dX10_readsBody_64 (by decide) ?_
            obtain ⟨w1, w2⟩ := inS h
            clear h
            subst w1
            subst w2
            exact g_sub [0, 1] rfl (hI12 _ rfl)
          · replace h := ifn (bI0 hc) h
            refine g_aload_n B 0 dX10_readsBody_50 rfl rfl ?_
            refine g_bipush (v := 6) B dX10_readsBody_51 (by decide) ?_
            replace h := bnP_s h
            obtain ⟨x39, h40, h⟩ := h
            refine g_callVs0 (st := []) B (cX10_isc h40) (Nat.le_of_ble_eq_true rfl) rfl rfl mi_X10_is lk_RX10_102 ⟨Nat.le_of_ble_eq_true rfl, Nat.le_of_ble_eq_true rfl⟩ rfl rfl (Nat.le_of_ble_eq_true rfl) dX10_readsBody_53 (Nat.zero_le _) (Nat.zero_le _) ?_
            refine g_if_eq B 67 dX10_readsBody_56 (by decide) (fun hc => ?_) (fun hc => ?_)
            · replace h := ifn (bI0 hc) h
              obtain ⟨w1, w2⟩ := inS h
              clear h
              subst w1
              subst w2
              obtain ⟨e8, e7⟩ := hR13 _ rfl
              subst e8
              subst e7
              exact g_sub [] rfl kE10
            · replace h := ifp (bI1 hc) h
              refine g_aload_n B 0 dX10_readsBody_59 rfl rfl ?_
              refine g_iload_n B 1 dX10_readsBody_60 rfl rfl ?_
              replace h := bnP_s h
              obtain ⟨s43, h42, h⟩ := h
              refine g_callVv0 (st := []) B (cX10_readsItemc h42) (Nat.le_of_ble_eq_true rfl) rfl rfl mi_X10_readsItem lk_RX10_157 ⟨Nat.le_of_ble_eq_true rfl, Nat.le_of_ble_eq_true rfl⟩ rfl rfl (Nat.le_of_ble_eq_true rfl) dX10_readsBody_61 (Nat.zero_le _) (Nat.zero_le _) ?_
              refine g_goto B 10 dX10_readsBody_64 (by decide) ?_
              obtain ⟨w1, w2⟩ := inS h
              clear h
              subst w1
              subst w2
              exact g_sub [0, 1] rfl (hI12 _ rfl)
set_option maxRecDepth 100000 in
set_option maxHeartbeats 4000000 in
theorem cX10_addsActc {l : Launch} {v0 : Option Nat} {v1 : Int32} {σ : HpT} {r : Int32} {σ' : HpT} (h : fX10_addsAct v0 v1 σ = some (r, σ')) : IsK σ v0 10 ∧ Ct l yX10_addsAct cX10_addsAct 4 (some .int) 1 23 [va_rf v0, .int v1] σ (.ok (some (.int r))) σ' 0 0 := by
  unfold fX10_addsAct at h
  replace h := bnP_s h
  obtain ⟨u, hk, h⟩ := h
  replace hk := isK_s hk
  refine ⟨hk, ?_⟩
  refine ct_start mi_X10_addsAct.1 rfl (al_le (al_1 (rf_cat _) (al_1 rfl al_n)) (Nat.le_of_ble_eq_true rfl)) (ag_1 (rf_cat _) (ag_1 rfl ag_n)) (fun Δ Γ B hE hnm => ?_)
  refine g_aload_n B 0 dX10_addsAct_0 rfl rfl ?_
  replace h := bnP_s h
  obtain ⟨x1, h2, h⟩ := h
  refine g_getR B fl_RX10_9 (by decide) dX10_addsAct_1 h2 ?_
  refine g_iconst (v := 3) B dX10_addsAct_4 (by decide) ?_
  replace h := bnP_s h
  obtain ⟨x3, h4, h⟩ := h
  refine g_iald B dX10_addsAct_5 h4 ?_
  refine g_istore_n B dX10_addsAct_6 rfl (Nat.le_of_ble_eq_true rfl) (s1_c (f1_k rfl (f1_1 rfl rfl f1_n))) ?_
  refine g_iconst (v := 0) B dX10_addsAct_7 (by decide) ?_
  refine g_istore_n B dX10_addsAct_8 rfl (Nat.le_of_ble_eq_true rfl) (s1_c (f1_1 rfl rfl (f1_k rfl (f1_k rfl f1_n)))) ?_
  replace h := bnS_s h
  obtain ⟨r6, s18, h7, h⟩ := h
  have kE8 : GW Δ Γ (0) (0) 28 [(0, va_rf v0), (1, .int v1), (2, .int x3)] [] s18 := by
    refine g_aload_n B 0 dX10_addsAct_28 rfl rfl ?_
    refine g_iload_n B 2 dX10_addsAct_29 rfl rfl ?_
    refine g_iconst (v := 0) B dX10_addsAct_30 (by decide) ?_
    refine g_iload_n B 1 dX10_addsAct_31 rfl rfl ?_
    replace h := bnP_s h
    obtain ⟨s21, h20, h⟩ := h
    refine g_callVv0 (st := []) B (cX10_putsActc h20) (Nat.le_of_ble_eq_true rfl) rfl rfl mi_X10_putsAct lk_RX10_141 ⟨Nat.le_of_ble_eq_true rfl, Nat.le_of_ble_eq_true rfl⟩ rfl rfl (Nat.le_of_ble_eq_true rfl) dX10_addsAct_32 (Nat.zero_le _) (Nat.zero_le _) ?_
    refine g_aload_n B 0 dX10_addsAct_35 rfl rfl ?_
    refine g_iload_n B 2 dX10_addsAct_36 rfl rfl ?_
    refine g_iconst (v := 5) B dX10_addsAct_37 (by decide) ?_
    refine g_aload_n B 0 dX10_addsAct_38 rfl rfl ?_
    replace h := bnP_s h
    obtain ⟨x22, h23, h⟩ := h
    refine g_getR B fl_RX10_9 (by decide) dX10_addsAct_39 h23 ?_
    refine g_iconst (v := 4) B dX10_addsAct_42 (by decide) ?_
    replace h := bnP_s h
    obtain ⟨x24, h25, h⟩ := h
    refine g_iald B dX10_addsAct_43 h25 ?_
    replace h := bnP_s h
    obtain ⟨s28, h27, h⟩ := h
    refine g_callVv0 (st := []) B (cX10_putsActc h27) (Nat.le_of_ble_eq_true rfl) rfl rfl mi_X10_putsAct lk_RX10_141 ⟨Nat.le_of_ble_eq_true rfl, Nat.le_of_ble_eq_true rfl⟩ rfl rfl (Nat.le_of_ble_eq_true rfl) dX10_addsAct_44 (Nat.zero_le _) (Nat.zero_le _) ?_
    refine g_aload_n B 0 dX10_addsAct_47 rfl rfl ?_
    refine g_iload_n B 2 dX10_addsAct_48 rfl rfl ?_
    refine g_bipush (v := 7) B dX10_addsAct_49 (by decide) ?_
    refine g_aload_n B 0 dX10_addsAct_51 rfl rfl ?_
    replace h := bnP_s h
    obtain ⟨x29, h30, h⟩ := h
    refine g_getR B fl_RX10_9 (by decide) dX10_addsAct_52 h30 ?_
    refine g_iconst (v := 5) B dX10_addsAct_55 (by decide) ?_
    replace h := bnP_s h
    obtain ⟨x31, h32, h⟩ := h
    refine g_iald B dX10_addsAct_56 h32 ?_
    replace h := bnP_s h
    obtain ⟨s35, h34, h⟩ := h
    refine g_callVv0 (st := []) B (cX10_putsActc h34) (Nat.le_of_ble_eq_true rfl) rfl rfl mi_X10_putsAct lk_RX10_141 ⟨Nat.le_of_ble_eq_true rfl, Nat.le_of_ble_eq_true rfl⟩ rfl rfl (Nat.le_of_ble_eq_true rfl) dX10_addsAct_57 (Nat.zero_le _) (Nat.zero_le _) ?_
    refine g_aload_n B 0 dX10_addsAct_60 rfl rfl ?_
    replace h := bnP_s h
    obtain ⟨x36, h37, h⟩ := h
    refine g_getR B fl_RX10_9 (by decide) dX10_addsAct_61 h37 ?_
    refine g_iconst (v := 3) B dX10_addsAct_64 (by decide) ?_
    refine g_dup2 B dX10_addsAct_65 rfl (rf_cat _) ?_
    replace h := bnP_s h
    obtain ⟨x38, h39, h⟩ := h
    refine g_iald B dX10_addsAct_66 h39 ?_
    refine g_iconst (v := 1) B dX10_addsAct_67 (by decide) ?_
    refine g_iadd B dX10_addsAct_68 ?_
    replace h := bnP_s h
    obtain ⟨s42, h41, h⟩ := h
    refine g_iast B dX10_addsAct_69 h41 ?_
    refine g_iload_n B 2 dX10_addsAct_70 rfl rfl ?_
    obtain ⟨w1, w2⟩ := inS h
    clear h
    subst w1
    subst w2
    exact g_iret B hE (Nat.zero_le _) (Nat.zero_le _) dX10_addsAct_71
  clear h
  refine g_sub [2, 3, 1, 0] rfl ?_
  refine lpS_w (I := fun q5 s14 => GW Δ Γ (0) (0) 9 [(0, va_rf v0), (1, .int v1), (2, .int x3), (3, .int q5)] [] s14) (r := r6) (σr := s18) ?_ FUEL 0 σ h7
  intro q5 s14 x12 s9 h hI10 hR11
  unfold fX10_addsAct_l1 at h
  refine g_iload_n B 3 dX10_addsAct_9 rfl rfl ?_
  refine g_bipush (v := 9) B dX10_addsAct_10 (by decide) ?_
  refine g_icmp_ge B 28 dX10_addsAct_12 (by decide) (fun hc => ?_) (fun hc => ?_)
  · replace h := ifp hc h
    obtain ⟨w1, w2⟩ := inS h
    clear h
    subst w1
    subst w2
    obtain ⟨e8, e7⟩ := hR11 _ rfl
    subst e8
    subst e7
    exact g_sub [0, 1, 2] rfl kE8
  · replace h := ifn hc h
    refine g_aload_n B 0 dX10_addsAct_15 rfl rfl ?_
    refine g_iload_n B 2 dX10_addsAct_16 rfl rfl ?_
    refine g_iload_n B 3 dX10_addsAct_17 rfl rfl ?_
    refine g_iconst (v := 0) B dX10_addsAct_18 (by decide) ?_
    replace h := bnP_s h
    obtain ⟨s17, h16, h⟩ := h
    refine g_callVv0 (st := []) B (cX10_putsActc h16) (Nat.le_of_ble_eq_true rfl) rfl rfl mi_X10_putsAct lk_RX10_141 ⟨Nat.le_of_ble_eq_true rfl, Nat.le_of_ble_eq_true rfl⟩ rfl rfl (Nat.le_of_ble_eq_true rfl) dX10_addsAct_19 (Nat.zero_le _) (Nat.zero_le _) ?_
    refine g_iinc (v := (q5 + 1)) B 3 dX10_addsAct_22 rfl (by first | rfl | (congr 1; decide)) (Nat.le_of_ble_eq_true rfl) (s1_c (f1_k rfl (f1_k rfl (f1_1 rfl rfl (f1_x f1_n))))) ?_
    refine g_goto B 9 dX10_addsAct_25 (by decide) ?_
    obtain ⟨w1, w2⟩ := inS h
    clear h
    subst w1
    subst w2
    exact g_sub [1, 2, 3, 0] rfl (hI10 _ rfl)
set_option maxRecDepth 100000 in
set_option maxHeartbeats 4000000 in
theorem cX10_kindHerec {l : Launch} {v0 : Option Nat} {σ : HpT} {r : Int32} (h : fX10_kindHere v0 σ = some r) : IsK σ v0 10 ∧ Ct l yX10_kindHere cX10_kindHere 1 (some .int) 5 107 [va_rf v0] σ (.ok (some (.int r))) σ 0 0 := by
  unfold fX10_kindHere at h
  replace h := bnP_s h
  obtain ⟨u, hk, h⟩ := h
  replace hk := isK_s hk
  refine ⟨hk, ?_⟩
  refine ct_start mi_X10_kindHere.1 rfl (al_le (al_1 (rf_cat _) al_n) (Nat.le_of_ble_eq_true rfl)) (ag_1 (rf_cat _) ag_n) (fun Δ Γ B hE hnm => ?_)
  refine g_aload_n B 0 dX10_kindHere_0 rfl rfl ?_
  refine g_ldcS B (j := 47) rfl dX10_kindHere_1 ?_
  replace h := bnP_s h
  obtain ⟨x1, h2, h⟩ := h
  refine g_callVs0 (st := []) B (cX10_isWordc h2) (Nat.le_of_ble_eq_true rfl) rfl rfl mi_X10_isWord lk_RX10_171 ⟨Nat.le_of_ble_eq_true rfl, Nat.le_of_ble_eq_true rfl⟩ rfl rfl (Nat.le_of_ble_eq_true rfl) dX10_kindHere_3 (Nat.zero_le _) (Nat.zero_le _) ?_
  refine g_if_eq B 13 dX10_kindHere_6 (by decide) (fun hc => ?_) (fun hc => ?_)
  · replace h := ifn (bI0 hc) h
    refine g_aload_n B 0 dX10_kindHere_13 rfl rfl ?_
    refine g_ldcS B (j := 48) rfl dX10_kindHere_14 ?_
    replace h := bnP_s h
    obtain ⟨x3, h4, h⟩ := h
    refine g_callVs0 (st := []) B (cX10_isWordc h4) (Nat.le_of_ble_eq_true rfl) rfl rfl mi_X10_isWord lk_RX10_171 ⟨Nat.le_of_ble_eq_true rfl, Nat.le_of_ble_eq_true rfl⟩ rfl rfl (Nat.le_of_ble_eq_true rfl) dX10_kindHere_16 (Nat.zero_le _) (Nat.zero_le _) ?_
    refine g_if_eq B 26 dX10_kindHere_19 (by decide) (fun hc => ?_) (fun hc => ?_)
    · replace h := ifn (bI0 hc) h
      refine g_aload_n B 0 dX10_kindHere_26 rfl rfl ?_
      refine g_ldcS B (j := 49) rfl dX10_kindHere_27 ?_
      replace h := bnP_s h
      obtain ⟨x5, h6, h⟩ := h
      refine g_callVs0 (st := []) B (cX10_isWordc h6) (Nat.le_of_ble_eq_true rfl) rfl rfl mi_X10_isWord lk_RX10_171 ⟨Nat.le_of_ble_eq_true rfl, Nat.le_of_ble_eq_true rfl⟩ rfl rfl (Nat.le_of_ble_eq_true rfl) dX10_kindHere_29 (Nat.zero_le _) (Nat.zero_le _) ?_
      refine g_if_eq B 39 dX10_kindHere_32 (by decide) (fun hc => ?_) (fun hc => ?_)
      · replace h := ifn (bI0 hc) h
        refine g_iconst (v := (-1)) B dX10_kindHere_39 (by decide) ?_
        replace h := Option.some.inj h
        subst h
        exact g_iret B hE (Nat.zero_le _) (Nat.zero_le _) dX10_kindHere_40
      · replace h := ifp (bI1 hc) h
        refine g_iconst (v := 2) B dX10_kindHere_35 (by decide) ?_
        refine g_goto B 40 dX10_kindHere_36 (by decide) ?_
        replace h := Option.some.inj h
        subst h
        exact g_iret B hE (Nat.zero_le _) (Nat.zero_le _) dX10_kindHere_40
    · replace h := ifp (bI1 hc) h
      refine g_iconst (v := 1) B dX10_kindHere_22 (by decide) ?_
      refine g_goto B 40 dX10_kindHere_23 (by decide) ?_
      replace h := Option.some.inj h
      subst h
      exact g_iret B hE (Nat.zero_le _) (Nat.zero_le _) dX10_kindHere_40
  · replace h := ifp (bI1 hc) h
    refine g_iconst (v := 0) B dX10_kindHere_9 (by decide) ?_
    refine g_goto B 40 dX10_kindHere_10 (by decide) ?_
    replace h := Option.some.inj h
    subst h
    exact g_iret B hE (Nat.zero_le _) (Nat.zero_le _) dX10_kindHere_40
set_option maxRecDepth 100000 in
set_option maxHeartbeats 4000000 in
theorem cX10_openActc {l : Launch} {v0 : Option Nat} {σ : HpT} {r : Int32} (h : fX10_openAct v0 σ = some r) : IsK σ v0 10 ∧ Ct l yX10_openAct cX10_openAct 1 (some .int) 1 22 [va_rf v0] σ (.ok (some (.int r))) σ 0 0 := by
  unfold fX10_openAct at h
  replace h := bnP_s h
  obtain ⟨u, hk, h⟩ := h
  replace hk := isK_s hk
  refine ⟨hk, ?_⟩
  refine ct_start mi_X10_openAct.1 rfl (al_le (al_1 (rf_cat _) al_n) (Nat.le_of_ble_eq_true rfl)) (ag_1 (rf_cat _) ag_n) (fun Δ Γ B hE hnm => ?_)
  refine g_aload_n B 0 dX10_openAct_0 rfl rfl ?_
  replace h := bnP_s h
  obtain ⟨x1, h2, h⟩ := h
  refine g_getR B fl_RX10_9 (by decide) dX10_openAct_1 h2 ?_
  refine g_iconst (v := 3) B dX10_openAct_4 (by decide) ?_
  replace h := bnP_s h
  obtain ⟨x3, h4, h⟩ := h
  refine g_iald B dX10_openAct_5 h4 ?_
  refine g_if_le B 36 dX10_openAct_6 (by decide) (fun hc => ?_) (fun hc => ?_)
  · replace h := ifp hc h
    refine g_iconst (v := (-1)) B dX10_openAct_36 (by decide) ?_
    replace h := Option.some.inj h
    subst h
    exact g_iret B hE (Nat.zero_le _) (Nat.zero_le _) dX10_openAct_37
  · replace h := ifn hc h
    refine g_aload_n B 0 dX10_openAct_9 rfl rfl ?_
    refine g_aload_n B 0 dX10_openAct_10 rfl rfl ?_
    replace h := bnP_s h
    obtain ⟨x5, h6, h⟩ := h
    refine g_getR B fl_RX10_9 (by decide) dX10_openAct_11 h6 ?_
    refine g_iconst (v := 3) B dX10_openAct_14 (by decide) ?_
    replace h := bnP_s h
    obtain ⟨x7, h8, h⟩ := h
    refine g_iald B dX10_openAct_15 h8 ?_
    refine g_iconst (v := 1) B dX10_openAct_16 (by decide) ?_
    refine g_isub B dX10_openAct_17 ?_
    refine g_iconst (v := 1) B dX10_openAct_18 (by decide) ?_
    replace h := bnP_s h
    obtain ⟨x9, h10, h⟩ := h
    refine g_callVs0 (st := []) B (cX10_ofActc h10) (Nat.le_of_ble_eq_true rfl) rfl rfl mi_X10_ofAct lk_RX10_138 ⟨Nat.le_of_ble_eq_true rfl, Nat.le_of_ble_eq_true rfl⟩ rfl rfl (Nat.le_of_ble_eq_true rfl) dX10_openAct_19 (Nat.zero_le _) (Nat.zero_le _) ?_
    refine g_if_ne B 36 dX10_openAct_22 (by decide) (fun hc => ?_) (fun hc => ?_)
    · replace h := ifn hc h
      refine g_iconst (v := (-1)) B dX10_openAct_36 (by decide) ?_
      replace h := Option.some.inj h
      subst h
      exact g_iret B hE (Nat.zero_le _) (Nat.zero_le _) dX10_openAct_37
    · replace h := ifp hc h
      refine g_aload_n B 0 dX10_openAct_25 rfl rfl ?_
      replace h := bnP_s h
      obtain ⟨x11, h12, h⟩ := h
      refine g_getR B fl_RX10_9 (by decide) dX10_openAct_26 h12 ?_
      refine g_iconst (v := 3) B dX10_openAct_29 (by decide) ?_
      replace h := bnP_s h
      obtain ⟨x13, h14, h⟩ := h
      refine g_iald B dX10_openAct_30 h14 ?_
      refine g_iconst (v := 1) B dX10_openAct_31 (by decide) ?_
      refine g_isub B dX10_openAct_32 ?_
      refine g_goto B 37 dX10_openAct_33 (by decide) ?_
      replace h := Option.some.inj h
      subst h
      exact g_iret B hE (Nat.zero_le _) (Nat.zero_le _) dX10_openAct_37
set_option maxRecDepth 100000 in
set_option maxHeartbeats 4000000 in
theorem cX10_readsActc {l : Launch} {v0 : Option Nat} {σ : HpT} {σ' : HpT} (h : fX10_readsAct v0 σ = some σ') : IsK σ v0 10 ∧ Ct l yX10_readsAct cX10_readsAct 2 none 6 130 [va_rf v0] σ (.ok none) σ' 0 0 := by
  unfold fX10_readsAct at h
  replace h := bnP_s h
  obtain ⟨u, hk, h⟩ := h
  replace hk := isK_s hk
  refine ⟨hk, ?_⟩
  refine ct_start mi_X10_readsAct.1 rfl (al_le (al_1 (rf_cat _) al_n) (Nat.le_of_ble_eq_true rfl)) (ag_1 (rf_cat _) ag_n) (fun Δ Γ B hE hnm => ?_)
  refine g_aload_n B 0 dX10_readsAct_0 rfl rfl ?_
  replace h := bnP_s h
  obtain ⟨x1, h2, h⟩ := h
  refine g_callVs0 (st := []) B (cX10_openActc h2) (Nat.le_of_ble_eq_true rfl) rfl rfl mi_X10_openAct lk_RX10_179 ⟨Nat.le_of_ble_eq_true rfl, Nat.le_of_ble_eq_true rfl⟩ rfl rfl (Nat.le_of_ble_eq_true rfl) dX10_readsAct_1 (Nat.zero_le _) (Nat.zero_le _) ?_
  refine g_iconst (v := (-1)) B dX10_readsAct_4 (by decide) ?_
  replace h := bnS_s h
  obtain ⟨j3, s11, h4, h⟩ := h
  have k6 : GW Δ Γ (0) (0) 13 [(0, va_rf v0)] [] s11 := by
    refine g_aload_n B 0 dX10_readsAct_13 rfl rfl ?_
    replace h := bnP_s h
    obtain ⟨x12, h13, h⟩ := h
    refine g_getR B fl_RX10_9 (by decide) dX10_readsAct_14 h13 ?_
    refine g_iconst (v := 3) B dX10_readsAct_17 (by decide) ?_
    replace h := bnP_s h
    obtain ⟨x14, h15, h⟩ := h
    refine g_iald B dX10_readsAct_18 h15 ?_
    refine g_bipush (v := 10) B dX10_readsAct_19 (by decide) ?_
    replace h := bnS_s h
    obtain ⟨j16, s24, h17, h⟩ := h
    have k19 : GW Δ Γ (0) (0) 29 [(0, va_rf v0)] [] s24 := by
      refine g_aload_n B 0 dX10_readsAct_29 rfl rfl ?_
      replace h := bnP_s h
      obtain ⟨s27, h26, h⟩ := h
      refine g_callVv0 (st := []) B (cX10_goesc h26) (Nat.le_of_ble_eq_true rfl) rfl rfl mi_X10_goes lk_RX10_122 ⟨Nat.le_of_ble_eq_true rfl, Nat.le_of_ble_eq_true rfl⟩ rfl rfl (Nat.le_of_ble_eq_true rfl) dX10_readsAct_30 (Nat.zero_le _) (Nat.zero_le _) ?_
      refine g_aload_n B 0 dX10_readsAct_33 rfl rfl ?_
      replace h := bnP_s h
      obtain ⟨x28, h29, h⟩ := h
      refine g_callVs0 (st := []) B (cX10_kindHerec h29) (Nat.le_of_ble_eq_true rfl) rfl rfl mi_X10_kindHere lk_RX10_182 ⟨Nat.le_of_ble_eq_true rfl, Nat.le_of_ble_eq_true rfl⟩ rfl rfl (Nat.le_of_ble_eq_true rfl) dX10_readsAct_34 (Nat.zero_le _) (Nat.zero_le _) ?_
      refine g_istore_n B dX10_readsAct_37 rfl (Nat.le_of_ble_eq_true rfl) (s1_c (f1_1 rfl (rf_cat _) f1_n)) ?_
      refine g_iload_n B 0 dX10_readsAct_38 rfl rfl ?_
      refine g_iconst (v := (-1)) B dX10_readsAct_39 (by decide) ?_
      replace h := bnS_s h
      obtain ⟨j30, s38, h31, h⟩ := h
      have k33 : GW Δ Γ (0) (0) 48 [(0, va_rf v0), (1, .int x28)] [] s38 := by
        refine g_aload_n B 0 dX10_readsAct_48 rfl rfl ?_
        replace h := bnP_s h
        obtain ⟨s41, h40, h⟩ := h
        refine g_callVv0 (st := []) B (cX10_goesc h40) (Nat.le_of_ble_eq_true rfl) rfl rfl mi_X10_goes lk_RX10_122 ⟨Nat.le_of_ble_eq_true rfl, Nat.le_of_ble_eq_true rfl⟩ rfl rfl (Nat.le_of_ble_eq_true rfl) dX10_readsAct_49 (Nat.zero_le _) (Nat.zero_le _) ?_
        refine g_aload_n B 0 dX10_readsAct_52 rfl rfl ?_
        replace h := bnP_s h
        obtain ⟨x42, h43, h⟩ := h
        refine g_getI B fl_RX10_73 (by decide) dX10_readsAct_53 h43 ?_
        refine g_if_ne B 68 dX10_readsAct_56 (by decide) (fun hc => ?_) (fun hc => ?_)
        · replace h := ifn hc h
          replace h := Option.some.inj h
          subst h
          exact g_vret B hE (Nat.zero_le _) (Nat.zero_le _) dX10_readsAct_68
        · replace h := ifp hc h
          refine g_aload_n B 0 dX10_readsAct_59 rfl rfl ?_
          refine g_aload_n B 0 dX10_readsAct_60 rfl rfl ?_
          refine g_iload_n B 1 dX10_readsAct_61 rfl rfl ?_
          replace h := bnS_s h
          obtain ⟨x44, s46, h45, h⟩ := h
          refine g_callVs0 (st := [va_rf v0]) B (cX10_addsActc h45) (Nat.le_of_ble_eq_true rfl) rfl rfl mi_X10_addsAct lk_RX10_185 ⟨Nat.le_of_ble_eq_true rfl, Nat.le_of_ble_eq_true rfl⟩ rfl rfl (Nat.le_of_ble_eq_true rfl) dX10_readsAct_62 (Nat.zero_le _) (Nat.zero_le _) ?_
          replace h := bnP_s h
          obtain ⟨s49, h48, h⟩ := h
          refine g_callVv0 (st := []) B (cX10_readsBodyc h48) (Nat.le_of_ble_eq_true rfl) rfl rfl mi_X10_readsBody lk_RX10_188 ⟨Nat.le_of_ble_eq_true rfl, Nat.le_of_ble_eq_true rfl⟩ rfl rfl (Nat.le_of_ble_eq_true rfl) dX10_readsAct_65 (Nat.zero_le _) (Nat.zero_le _) ?_
          replace h := Option.some.inj h
          subst h
          exact g_vret B hE (Nat.zero_le _) (Nat.zero_le _) dX10_readsAct_68
      clear h
      have h := h31
      clear h31
      refine g_icmp_ne B 48 dX10_readsAct_40 (by decide) (fun hc => ?_) (fun hc => ?_)
      · replace h := ifn hc h
        obtain ⟨w1, w2⟩ := inS h
        clear h
        subst w1
        subst w2
        exact g_sub [1, 0] rfl k33
      · replace h := ifp hc h
        refine g_aload_n B 1 dX10_readsAct_43 rfl rfl ?_
        refine g_iconst (v := 1) B dX10_readsAct_44 (by decide) ?_
        replace h := bnP_s h
        obtain ⟨s37, h36, h⟩ := h
        refine g_callVv0 (st := []) B (cX10_faultsc h36) (Nat.le_of_ble_eq_true rfl) rfl rfl mi_X10_faults lk_RX10_115 ⟨Nat.le_of_ble_eq_true rfl, Nat.le_of_ble_eq_true rfl⟩ rfl rfl (Nat.le_of_ble_eq_true rfl) dX10_readsAct_45 (Nat.zero_le _) (Nat.zero_le _) ?_
        obtain ⟨w1, w2⟩ := inS h
        clear h
        subst w1
        subst w2
        exact g_sub [1, 0] rfl k33
    clear h
    have h := h17
    clear h17
    refine g_icmp_ne B 29 dX10_readsAct_21 (by decide) (fun hc => ?_) (fun hc => ?_)
    · replace h := ifn hc h
      obtain ⟨w1, w2⟩ := inS h
      clear h
      subst w1
      subst w2
      exact g_sub [0] rfl k19
    · replace h := ifp hc h
      refine g_aload_n B 0 dX10_readsAct_24 rfl rfl ?_
      refine g_iconst (v := 4) B dX10_readsAct_25 (by decide) ?_
      replace h := bnP_s h
      obtain ⟨s23, h22, h⟩ := h
      refine g_callVv0 (st := []) B (cX10_faultsc h22) (Nat.le_of_ble_eq_true rfl) rfl rfl mi_X10_faults lk_RX10_115 ⟨Nat.le_of_ble_eq_true rfl, Nat.le_of_ble_eq_true rfl⟩ rfl rfl (Nat.le_of_ble_eq_true rfl) dX10_readsAct_26 (Nat.zero_le _) (Nat.zero_le _) ?_
      obtain ⟨w1, w2⟩ := inS h
      clear h
      subst w1
      subst w2
      exact g_sub [0] rfl k19
  clear h
  have h := h4
  clear h4
  refine g_icmp_eq B 13 dX10_readsAct_5 (by decide) (fun hc => ?_) (fun hc => ?_)
  · replace h := ifp hc h
    obtain ⟨w1, w2⟩ := inS h
    clear h
    subst w1
    subst w2
    exact g_sub [0] rfl k6
  · replace h := ifn hc h
    refine g_aload_n B 0 dX10_readsAct_8 rfl rfl ?_
    refine g_iconst (v := 3) B dX10_readsAct_9 (by decide) ?_
    replace h := bnP_s h
    obtain ⟨s10, h9, h⟩ := h
    refine g_callVv0 (st := []) B (cX10_faultsc h9) (Nat.le_of_ble_eq_true rfl) rfl rfl mi_X10_faults lk_RX10_115 ⟨Nat.le_of_ble_eq_true rfl, Nat.le_of_ble_eq_true rfl⟩ rfl rfl (Nat.le_of_ble_eq_true rfl) dX10_readsAct_10 (Nat.zero_le _) (Nat.zero_le _) ?_
    obtain ⟨w1, w2⟩ := inS h
    clear h
    subst w1
    subst w2
    exact g_sub [0] rfl k6
set_option maxRecDepth 100000 in
set_option maxHeartbeats 4000000 in
theorem cX10_wordHerec {l : Launch} {v0 : Option Nat} {σ : HpT} {r : Int32} {σ' : HpT} (h : fX10_wordHere v0 σ = some (r, σ')) : IsK σ v0 10 ∧ Ct l yX10_wordHere cX10_wordHere 2 (some .int) 2 44 [va_rf v0] σ (.ok (some (.int r))) σ' 0 0 := by
  unfold fX10_wordHere at h
  replace h := bnP_s h
  obtain ⟨u, hk, h⟩ := h
  replace hk := isK_s hk
  refine ⟨hk, ?_⟩
  refine ct_start mi_X10_wordHere.1 rfl (al_le (al_1 (rf_cat _) al_n) (Nat.le_of_ble_eq_true rfl)) (ag_1 (rf_cat _) ag_n) (fun Δ Γ B hE hnm => ?_)
  refine g_aload_n B 0 dX10_wordHere_0 rfl rfl ?_
  replace h := bnP_s h
  obtain ⟨x1, h2, h⟩ := h
  refine g_callVs0 (st := []) B (cX10_openActc h2) (Nat.le_of_ble_eq_true rfl) rfl rfl mi_X10_openAct lk_RX10_179 ⟨Nat.le_of_ble_eq_true rfl, Nat.le_of_ble_eq_true rfl⟩ rfl rfl (Nat.le_of_ble_eq_true rfl) dX10_wordHere_1 (Nat.zero_le _) (Nat.zero_le _) ?_
  refine g_istore_n B dX10_wordHere_4 rfl (Nat.le_of_ble_eq_true rfl) (s1_c (f1_1 rfl (rf_cat _) f1_n)) ?_
  refine g_aload_n B 1 dX10_wordHere_5 rfl rfl ?_
  refine g_iconst (v := 0) B dX10_wordHere_6 (by decide) ?_
  refine g_iload_n B 0 dX10_wordHere_7 rfl rfl ?_
  refine g_iconst (v := (-1)) B dX10_wordHere_8 (by decide) ?_
  replace h := bnP_s h
  obtain ⟨j3, h4, h⟩ := h
  have k6 : GW Δ Γ (0) (0) 25 [] [.int j3.2.2, .int j3.2.1, va_rf j3.1] σ := by
    replace h := bnS_s h
    obtain ⟨x10, s12, h11, h⟩ := h
    refine g_callVs0 (st := []) B (cX10_numberHerec h11) (Nat.le_of_ble_eq_true rfl) rfl rfl mi_X10_numberHere lk_RX10_118 ⟨Nat.le_of_ble_eq_true rfl, Nat.le_of_ble_eq_true rfl⟩ rfl rfl (Nat.le_of_ble_eq_true rfl) dX10_wordHere_25 (Nat.zero_le _) (Nat.zero_le _) ?_
    obtain ⟨w1, w2⟩ := inS h
    clear h
    subst w1
    subst w2
    exact g_iret B hE (Nat.zero_le _) (Nat.zero_le _) dX10_wordHere_28
  clear h
  have h := h4
  clear h4
  refine g_icmp_ne B 16 dX10_wordHere_9 (by decide) (fun hc => ?_) (fun hc => ?_)
  · replace h := ifn hc h
    refine g_aload_n B 1 dX10_wordHere_16 rfl rfl ?_
    refine g_iload_n B 0 dX10_wordHere_17 rfl rfl ?_
    refine g_bipush (v := 6) B dX10_wordHere_18 (by decide) ?_
    replace h := bnP_s h
    obtain ⟨x8, h9, h⟩ := h
    refine g_callVs0 (st := [.int 0, va_rf v0]) B (cX10_ofActc h9) (Nat.le_of_ble_eq_true rfl) rfl rfl mi_X10_ofAct lk_RX10_138 ⟨Nat.le_of_ble_eq_true rfl, Nat.le_of_ble_eq_true rfl⟩ rfl rfl (Nat.le_of_ble_eq_true rfl) dX10_wordHere_20 (Nat.zero_le _) (Nat.zero_le _) ?_
    refine g_iconst (v := 1) B dX10_wordHere_23 (by decide) ?_
    refine g_isub B dX10_wordHere_24 ?_
    replace h := Option.some.inj h
    subst h
    exact g_sub [] rfl k6
  · replace h := ifp hc h
    refine g_iconst (v := (-1)) B dX10_wordHere_12 (by decide) ?_
    refine g_goto B 25 dX10_wordHere_13 (by decide) ?_
    replace h := Option.some.inj h
    subst h
    exact g_sub [] rfl k6
set_option maxRecDepth 100000 in
set_option maxHeartbeats 4000000 in
theorem cX10_openWordc {l : Launch} {v0 : Option Nat} {v1 : Int32} {σ : HpT} {r : Int32} (h : fX10_openWord v0 v1 σ = some r) : IsK σ v0 10 ∧ Ct l yX10_openWord cX10_openWord 2 (some .int) 2 42 [va_rf v0, .int v1] σ (.ok (some (.int r))) σ 0 0 := by
  unfold fX10_openWord at h
  replace h := bnP_s h
  obtain ⟨u, hk, h⟩ := h
  replace hk := isK_s hk
  refine ⟨hk, ?_⟩
  refine ct_start mi_X10_openWord.1 rfl (al_le (al_1 (rf_cat _) (al_1 rfl al_n)) (Nat.le_of_ble_eq_true rfl)) (ag_1 (rf_cat _) (ag_1 rfl ag_n)) (fun Δ Γ B hE hnm => ?_)
  refine g_aload_n B 0 dX10_openWord_0 rfl rfl ?_
  refine g_aload_n B 0 dX10_openWord_1 rfl rfl ?_
  replace h := bnP_s h
  obtain ⟨x1, h2, h⟩ := h
  refine g_callVs0 (st := [va_rf v0]) B (cX10_openActc h2) (Nat.le_of_ble_eq_true rfl) rfl rfl mi_X10_openAct lk_RX10_179 ⟨Nat.le_of_ble_eq_true rfl, Nat.le_of_ble_eq_true rfl⟩ rfl rfl (Nat.le_of_ble_eq_true rfl) dX10_openWord_2 (Nat.zero_le _) (Nat.zero_le _) ?_
  refine g_iconst (v := 5) B dX10_openWord_5 (by decide) ?_
  replace h := bnP_s h
  obtain ⟨x3, h4, h⟩ := h
  refine g_callVs0 (st := []) B (cX10_ofActc h4) (Nat.le_of_ble_eq_true rfl) rfl rfl mi_X10_ofAct lk_RX10_138 ⟨Nat.le_of_ble_eq_true rfl, Nat.le_of_ble_eq_true rfl⟩ rfl rfl (Nat.le_of_ble_eq_true rfl) dX10_openWord_6 (Nat.zero_le _) (Nat.zero_le _) ?_
  refine g_iload_n B 1 dX10_openWord_9 rfl rfl ?_
  refine g_iadd B dX10_openWord_10 ?_
  replace h := Option.some.inj h
  subst h
  exact g_iret B hE (Nat.zero_le _) (Nat.zero_le _) dX10_openWord_11
set_option maxRecDepth 100000 in
set_option maxHeartbeats 4000000 in
theorem cX10_ofWordc {l : Launch} {v0 : Option Nat} {v1 : Int32} {v2 : Int32} {σ : HpT} {r : Int32} (h : fX10_ofWord v0 v1 v2 σ = some r) : IsK σ v0 10 ∧ Ct l yX10_ofWord cX10_ofWord 3 (some .int) 0 0 [va_rf v0, .int v1, .int v2] σ (.ok (some (.int r))) σ 0 0 := by
  unfold fX10_ofWord at h
  replace h := bnP_s h
  obtain ⟨u, hk, h⟩ := h
  replace hk := isK_s hk
  refine ⟨hk, ?_⟩
  refine ct_start mi_X10_ofWord.1 rfl (al_le (al_1 (rf_cat _) (al_1 rfl (al_1 rfl al_n))) (Nat.le_of_ble_eq_true rfl)) (ag_1 (rf_cat _) (ag_1 rfl (ag_1 rfl ag_n))) (fun Δ Γ B hE hnm => ?_)
  refine g_aload_n B 0 dX10_ofWord_0 rfl rfl ?_
  replace h := bnP_s h
  obtain ⟨x1, h2, h⟩ := h
  refine g_getR B fl_RX10_9 (by decide) dX10_ofWord_1 h2 ?_
  refine g_bipush (v := 127) B dX10_ofWord_4 (by decide) ?_
  refine g_bipush (v := 13) B dX10_ofWord_6 (by decide) ?_
  refine g_iload_n B 1 dX10_ofWord_8 rfl rfl ?_
  refine g_imul B dX10_ofWord_9 ?_
  refine g_iadd B dX10_ofWord_10 ?_
  refine g_iload_n B 2 dX10_ofWord_11 rfl rfl ?_
  refine g_iadd B dX10_ofWord_12 ?_
  replace h := bnP_s h
  obtain ⟨x3, h4, h⟩ := h
  refine g_iald B dX10_ofWord_13 h4 ?_
  replace h := Option.some.inj h
  subst h
  exact g_iret B hE (Nat.zero_le _) (Nat.zero_le _) dX10_ofWord_14
set_option maxRecDepth 100000 in
set_option maxHeartbeats 4000000 in
theorem cX10_standsc {l : Launch} {v0 : Option Nat} {v1 : Int32} {σ : HpT} {r : Bool} (h : fX10_stands v0 v1 σ = some r) : IsK σ v0 10 ∧ Ct l yX10_stands cX10_stands 2 (some .boolean) 1 22 [va_rf v0, .int v1] σ (.ok (some (.int (bI r)))) σ 0 0 := by
  unfold fX10_stands at h
  replace h := bnP_s h
  obtain ⟨u, hk, h⟩ := h
  replace hk := isK_s hk
  refine ⟨hk, ?_⟩
  refine ct_start mi_X10_stands.1 rfl (al_le (al_1 (rf_cat _) (al_1 rfl al_n)) (Nat.le_of_ble_eq_true rfl)) (ag_1 (rf_cat _) (ag_1 rfl ag_n)) (fun Δ Γ B hE hnm => ?_)
  refine g_aload_n B 0 dX10_stands_0 rfl rfl ?_
  refine g_iload_n B 1 dX10_stands_1 rfl rfl ?_
  refine g_iconst (v := 2) B dX10_stands_2 (by decide) ?_
  replace h := bnP_s h
  obtain ⟨x1, h2, h⟩ := h
  refine g_callVs0 (st := []) B (cX10_ofWordc h2) (Nat.le_of_ble_eq_true rfl) rfl rfl mi_X10_ofWord lk_RX10_209 ⟨Nat.le_of_ble_eq_true rfl, Nat.le_of_ble_eq_true rfl⟩ rfl rfl (Nat.le_of_ble_eq_true rfl) dX10_stands_3 (Nat.zero_le _) (Nat.zero_le _) ?_
  refine g_if_ne B 13 dX10_stands_6 (by decide) (fun hc => ?_) (fun hc => ?_)
  · replace h := ifn hc h
    refine g_iconst (v := 0) B dX10_stands_13 (by decide) ?_
    replace h := Option.some.inj h
    subst h
    exact g_zret B hE rfl (Nat.zero_le _) (Nat.zero_le _) dX10_stands_14
  · replace h := ifp hc h
    refine g_iconst (v := 1) B dX10_stands_9 (by decide) ?_
    refine g_goto B 14 dX10_stands_10 (by decide) ?_
    replace h := Option.some.inj h
    subst h
    exact g_zret B hE rfl (Nat.zero_le _) (Nat.zero_le _) dX10_stands_14
set_option maxRecDepth 100000 in
set_option maxHeartbeats 4000000 in
theorem cX10_whyStrikec {l : Launch} {v0 : Option Nat} {v1 : Int32} {σ : HpT} {r : Int32} (h : fX10_whyStrike v0 v1 σ = some r) : IsK σ v0 10 ∧ Ct l yX10_whyStrike cX10_whyStrike 3 (some .int) 3 63 [va_rf v0, .int v1] σ (.ok (some (.int r))) σ 0 0 := by
  unfold fX10_whyStrike at h
  replace h := bnP_s h
  obtain ⟨u, hk, h⟩ := h
  replace hk := isK_s hk
  refine ⟨hk, ?_⟩
  refine ct_start mi_X10_whyStrike.1 rfl (al_le (al_1 (rf_cat _) (al_1 rfl al_n)) (Nat.le_of_ble_eq_true rfl)) (ag_1 (rf_cat _) (ag_1 rfl ag_n)) (fun Δ Γ B hE hnm => ?_)
  refine g_aload_n B 0 dX10_whyStrike_0 rfl rfl ?_
  replace h := bnP_s h
  obtain ⟨x1, h2, h⟩ := h
  refine g_callVs0 (st := []) B (cX10_openActc h2) (Nat.le_of_ble_eq_true rfl) rfl rfl mi_X10_openAct lk_RX10_179 ⟨Nat.le_of_ble_eq_true rfl, Nat.le_of_ble_eq_true rfl⟩ rfl rfl (Nat.le_of_ble_eq_true rfl) dX10_whyStrike_1 (Nat.zero_le _) (Nat.zero_le _) ?_
  refine g_istore_n B dX10_whyStrike_4 rfl (Nat.le_of_ble_eq_true rfl) (s1_c (f1_k rfl (f1_1 rfl rfl f1_n))) ?_
  refine g_iload_n B 0 dX10_whyStrike_5 rfl rfl ?_
  refine g_iconst (v := (-1)) B dX10_whyStrike_6 (by decide) ?_
  refine g_icmp_ne B 12 dX10_whyStrike_7 (by decide) (fun hc => ?_) (fun hc => ?_)
  · replace h := ifn hc h
    refine g_iload_n B 2 dX10_whyStrike_12 rfl rfl ?_
    refine g_iconst (v := 0) B dX10_whyStrike_13 (by decide) ?_
    refine g_aload_n B 1 dX10_whyStrike_14 rfl rfl ?_
    refine g_iload_n B 0 dX10_whyStrike_15 rfl rfl ?_
    refine g_bipush (v := 6) B dX10_whyStrike_16 (by decide) ?_
    replace h := bnP_s h
    obtain ⟨x3, h4, h⟩ := h
    refine g_callVs0 (st := [.int 0, .int v1]) B (cX10_ofActc h4) (Nat.le_of_ble_eq_true rfl) rfl rfl mi_X10_ofAct lk_RX10_138 ⟨Nat.le_of_ble_eq_true rfl, Nat.le_of_ble_eq_true rfl⟩ rfl rfl (Nat.le_of_ble_eq_true rfl) dX10_whyStrike_18 (Nat.zero_le _) (Nat.zero_le _) ?_
    refine g_iconst (v := 1) B dX10_whyStrike_21 (by decide) ?_
    refine g_isub B dX10_whyStrike_22 ?_
    replace h := bnP_s h
    obtain ⟨x5, h6, h⟩ := h
    refine g_callSs0 (st := []) B (cX10_inc h6) mi_X10_in lk_RX10_69 ⟨Nat.le_of_ble_eq_true rfl, Nat.le_of_ble_eq_true rfl⟩ rfl rfl (Nat.le_of_ble_eq_true rfl) dX10_whyStrike_23 (Nat.zero_le _) (Nat.zero_le _) ?_
    refine g_if_ne B 31 dX10_whyStrike_26 (by decide) (fun hc => ?_) (fun hc => ?_)
    · replace h := ifp (bI1 hc) h
      refine g_aload_n B 1 dX10_whyStrike_31 rfl rfl ?_
      refine g_aload_n B 1 dX10_whyStrike_32 rfl rfl ?_
      refine g_iload_n B 2 dX10_whyStrike_33 rfl rfl ?_
      replace h := bnP_s h
      obtain ⟨x7, h8, h⟩ := h
      refine g_callVs0 (st := [va_rf v0]) B (cX10_openWordc h8) (Nat.le_of_ble_eq_true rfl) rfl rfl mi_X10_openWord lk_RX10_200 ⟨Nat.le_of_ble_eq_true rfl, Nat.le_of_ble_eq_true rfl⟩ rfl rfl (Nat.le_of_ble_eq_true rfl) dX10_whyStrike_34 (Nat.zero_le _) (Nat.zero_le _) ?_
      replace h := bnP_s h
      obtain ⟨x9, h10, h⟩ := h
      refine g_callVs0 (st := []) B (cX10_standsc h10) (Nat.le_of_ble_eq_true rfl) rfl rfl mi_X10_stands lk_RX10_330 ⟨Nat.le_of_ble_eq_true rfl, Nat.le_of_ble_eq_true rfl⟩ rfl rfl (Nat.le_of_ble_eq_true rfl) dX10_whyStrike_37 (Nat.zero_le _) (Nat.zero_le _) ?_
      refine g_if_eq B 47 dX10_whyStrike_40 (by decide) (fun hc => ?_) (fun hc => ?_)
      · replace h := ifn (bI0 hc) h
        refine g_iconst (v := 3) B dX10_whyStrike_47 (by decide) ?_
        replace h := Option.some.inj h
        subst h
        exact g_iret B hE (Nat.zero_le _) (Nat.zero_le _) dX10_whyStrike_48
      · replace h := ifp (bI1 hc) h
        refine g_iconst (v := 0) B dX10_whyStrike_43 (by decide) ?_
        refine g_goto B 48 dX10_whyStrike_44 (by decide) ?_
        replace h := Option.some.inj h
        subst h
        exact g_iret B hE (Nat.zero_le _) (Nat.zero_le _) dX10_whyStrike_48
    · replace h := ifn (bI0 hc) h
      refine g_iconst (v := 2) B dX10_whyStrike_29 (by decide) ?_
      replace h := Option.some.inj h
      subst h
      exact g_iret B hE (Nat.zero_le _) (Nat.zero_le _) dX10_whyStrike_30
  · replace h := ifp hc h
    refine g_iconst (v := 1) B dX10_whyStrike_10 (by decide) ?_
    replace h := Option.some.inj h
    subst h
    exact g_iret B hE (Nat.zero_le _) (Nat.zero_le _) dX10_whyStrike_11
set_option maxRecDepth 100000 in
set_option maxHeartbeats 4000000 in
theorem cX10_putsWordc {l : Launch} {v0 : Option Nat} {v1 : Int32} {v2 : Int32} {v3 : Int32} {σ : HpT} {σ' : HpT} (h : fX10_putsWord v0 v1 v2 v3 σ = some σ') : IsK σ v0 10 ∧ Ct l yX10_putsWord cX10_putsWord 4 none 0 0 [va_rf v0, .int v1, .int v2, .int v3] σ (.ok none) σ' 0 0 := by
  unfold fX10_putsWord at h
  replace h := bnP_s h
  obtain ⟨u, hk, h⟩ := h
  replace hk := isK_s hk
  refine ⟨hk, ?_⟩
  refine ct_start mi_X10_putsWord.1 rfl (al_le (al_1 (rf_cat _) (al_1 rfl (al_1 rfl (al_1 rfl al_n)))) (Nat.le_of_ble_eq_true rfl)) (ag_1 (rf_cat _) (ag_1 rfl (ag_1 rfl (ag_1 rfl ag_n)))) (fun Δ Γ B hE hnm => ?_)
  refine g_aload_n B 0 dX10_putsWord_0 rfl rfl ?_
  replace h := bnP_s h
  obtain ⟨x1, h2, h⟩ := h
  refine g_getR B fl_RX10_9 (by decide) dX10_putsWord_1 h2 ?_
  refine g_bipush (v := 127) B dX10_putsWord_4 (by decide) ?_
  refine g_bipush (v := 13) B dX10_putsWord_6 (by decide) ?_
  refine g_iload_n B 1 dX10_putsWord_8 rfl rfl ?_
  refine g_imul B dX10_putsWord_9 ?_
  refine g_iadd B dX10_putsWord_10 ?_
  refine g_iload_n B 2 dX10_putsWord_11 rfl rfl ?_
  refine g_iadd B dX10_putsWord_12 ?_
  refine g_iload_n B 3 dX10_putsWord_13 rfl rfl ?_
  replace h := bnP_s h
  obtain ⟨s5, h4, h⟩ := h
  refine g_iast B dX10_putsWord_14 h4 ?_
  replace h := Option.some.inj h
  subst h
  exact g_vret B hE (Nat.zero_le _) (Nat.zero_le _) dX10_putsWord_15
set_option maxRecDepth 100000 in
set_option maxHeartbeats 4000000 in
theorem cX10_marksc {l : Launch} {v0 : Option Nat} {v1 : Int32} {σ : HpT} {σ' : HpT} (h : fX10_marks v0 v1 σ = some σ') : IsK σ v0 10 ∧ Ct l yX10_marks cX10_marks 2 none 1 23 [va_rf v0, .int v1] σ (.ok none) σ' 0 0 := by
  unfold fX10_marks at h
  replace h := bnP_s h
  obtain ⟨u, hk, h⟩ := h
  replace hk := isK_s hk
  refine ⟨hk, ?_⟩
  refine ct_start mi_X10_marks.1 rfl (al_le (al_1 (rf_cat _) (al_1 rfl al_n)) (Nat.le_of_ble_eq_true rfl)) (ag_1 (rf_cat _) (ag_1 rfl ag_n)) (fun Δ Γ B hE hnm => ?_)
  refine g_aload_n B 0 dX10_marks_0 rfl rfl ?_
  refine g_iload_n B 1 dX10_marks_1 rfl rfl ?_
  refine g_iconst (v := 3) B dX10_marks_2 (by decide) ?_
  refine g_aload_n B 0 dX10_marks_3 rfl rfl ?_
  refine g_iload_n B 1 dX10_marks_4 rfl rfl ?_
  refine g_iconst (v := 3) B dX10_marks_5 (by decide) ?_
  replace h := bnP_s h
  obtain ⟨x1, h2, h⟩ := h
  refine g_callVs0 (st := [.int 3, .int v1, va_rf v0]) B (cX10_ofActc h2) (Nat.le_of_ble_eq_true rfl) rfl rfl mi_X10_ofAct lk_RX10_138 ⟨Nat.le_of_ble_eq_true rfl, Nat.le_of_ble_eq_true rfl⟩ rfl rfl (Nat.le_of_ble_eq_true rfl) dX10_marks_6 (Nat.zero_le _) (Nat.zero_le _) ?_
  refine g_iconst (v := 1) B dX10_marks_9 (by decide) ?_
  refine g_iadd B dX10_marks_10 ?_
  replace h := bnP_s h
  obtain ⟨s5, h4, h⟩ := h
  refine g_callVv0 (st := []) B (cX10_putsActc h4) (Nat.le_of_ble_eq_true rfl) rfl rfl mi_X10_putsAct lk_RX10_141 ⟨Nat.le_of_ble_eq_true rfl, Nat.le_of_ble_eq_true rfl⟩ rfl rfl (Nat.le_of_ble_eq_true rfl) dX10_marks_11 (Nat.zero_le _) (Nat.zero_le _) ?_
  replace h := Option.some.inj h
  subst h
  exact g_vret B hE (Nat.zero_le _) (Nat.zero_le _) dX10_marks_14
set_option maxRecDepth 100000 in
set_option maxHeartbeats 4000000 in
theorem cX10_strikesc {l : Launch} {v0 : Option Nat} {v1 : Int32} {σ : HpT} {σ' : HpT} (h : fX10_strikes v0 v1 σ = some σ') : IsK σ v0 10 ∧ Ct l yX10_strikes cX10_strikes 2 none 3 63 [va_rf v0, .int v1] σ (.ok none) σ' 0 0 := by
  unfold fX10_strikes at h
  replace h := bnP_s h
  obtain ⟨u, hk, h⟩ := h
  replace hk := isK_s hk
  refine ⟨hk, ?_⟩
  refine ct_start mi_X10_strikes.1 rfl (al_le (al_1 (rf_cat _) (al_1 rfl al_n)) (Nat.le_of_ble_eq_true rfl)) (ag_1 (rf_cat _) (ag_1 rfl ag_n)) (fun Δ Γ B hE hnm => ?_)
  refine g_aload_n B 0 dX10_strikes_0 rfl rfl ?_
  refine g_aload_n B 0 dX10_strikes_1 rfl rfl ?_
  refine g_iload_n B 1 dX10_strikes_2 rfl rfl ?_
  replace h := bnP_s h
  obtain ⟨x1, h2, h⟩ := h
  refine g_callVs0 (st := [va_rf v0]) B (cX10_openWordc h2) (Nat.le_of_ble_eq_true rfl) rfl rfl mi_X10_openWord lk_RX10_200 ⟨Nat.le_of_ble_eq_true rfl, Nat.le_of_ble_eq_true rfl⟩ rfl rfl (Nat.le_of_ble_eq_true rfl) dX10_strikes_3 (Nat.zero_le _) (Nat.zero_le _) ?_
  refine g_iconst (v := 2) B dX10_strikes_6 (by decide) ?_
  refine g_iconst (v := 1) B dX10_strikes_7 (by decide) ?_
  replace h := bnP_s h
  obtain ⟨s5, h4, h⟩ := h
  refine g_callVv0 (st := []) B (cX10_putsWordc h4) (Nat.le_of_ble_eq_true rfl) rfl rfl mi_X10_putsWord lk_RX10_337 ⟨Nat.le_of_ble_eq_true rfl, Nat.le_of_ble_eq_true rfl⟩ rfl rfl (Nat.le_of_ble_eq_true rfl) dX10_strikes_8 (Nat.zero_le _) (Nat.zero_le _) ?_
  refine g_aload_n B 0 dX10_strikes_11 rfl rfl ?_
  refine g_aload_n B 0 dX10_strikes_12 rfl rfl ?_
  replace h := bnP_s h
  obtain ⟨x6, h7, h⟩ := h
  refine g_callVs0 (st := [va_rf v0]) B (cX10_openActc h7) (Nat.le_of_ble_eq_true rfl) rfl rfl mi_X10_openAct lk_RX10_179 ⟨Nat.le_of_ble_eq_true rfl, Nat.le_of_ble_eq_true rfl⟩ rfl rfl (Nat.le_of_ble_eq_true rfl) dX10_strikes_13 (Nat.zero_le _) (Nat.zero_le _) ?_
  replace h := bnP_s h
  obtain ⟨s10, h9, h⟩ := h
  refine g_callVv0 (st := []) B (cX10_marksc h9) (Nat.le_of_ble_eq_true rfl) rfl rfl mi_X10_marks lk_RX10_340 ⟨Nat.le_of_ble_eq_true rfl, Nat.le_of_ble_eq_true rfl⟩ rfl rfl (Nat.le_of_ble_eq_true rfl) dX10_strikes_16 (Nat.zero_le _) (Nat.zero_le _) ?_
  replace h := Option.some.inj h
  subst h
  exact g_vret B hE (Nat.zero_le _) (Nat.zero_le _) dX10_strikes_19
set_option maxRecDepth 100000 in
set_option maxHeartbeats 4000000 in
theorem cX10_readsStrikec {l : Launch} {v0 : Option Nat} {σ : HpT} {σ' : HpT} (h : fX10_readsStrike v0 σ = some σ') : IsK σ v0 10 ∧ Ct l yX10_readsStrike cX10_readsStrike 2 none 4 85 [va_rf v0] σ (.ok none) σ' 0 0 := by
  unfold fX10_readsStrike at h
  replace h := bnP_s h
  obtain ⟨u, hk, h⟩ := h
  replace hk := isK_s hk
  refine ⟨hk, ?_⟩
  refine ct_start mi_X10_readsStrike.1 rfl (al_le (al_1 (rf_cat _) al_n) (Nat.le_of_ble_eq_true rfl)) (ag_1 (rf_cat _) ag_n) (fun Δ Γ B hE hnm => ?_)
  refine g_aload_n B 0 dX10_readsStrike_0 rfl rfl ?_
  replace h := bnP_s h
  obtain ⟨s3, h2, h⟩ := h
  refine g_callVv0 (st := []) B (cX10_goesc h2) (Nat.le_of_ble_eq_true rfl) rfl rfl mi_X10_goes lk_RX10_122 ⟨Nat.le_of_ble_eq_true rfl, Nat.le_of_ble_eq_true rfl⟩ rfl rfl (Nat.le_of_ble_eq_true rfl) dX10_readsStrike_1 (Nat.zero_le _) (Nat.zero_le _) ?_
  refine g_aload_n B 0 dX10_readsStrike_4 rfl rfl ?_
  replace h := bnS_s h
  obtain ⟨x4, s6, h5, h⟩ := h
  refine g_callVs0 (st := []) B (cX10_wordHerec h5) (Nat.le_of_ble_eq_true rfl) rfl rfl mi_X10_wordHere lk_RX10_191 ⟨Nat.le_of_ble_eq_true rfl, Nat.le_of_ble_eq_true rfl⟩ rfl rfl (Nat.le_of_ble_eq_true rfl) dX10_readsStrike_5 (Nat.zero_le _) (Nat.zero_le _) ?_
  refine g_istore_n B dX10_readsStrike_8 rfl (Nat.le_of_ble_eq_true rfl) (s1_c (f1_1 rfl (rf_cat _) f1_n)) ?_
  refine g_aload_n B 1 dX10_readsStrike_9 rfl rfl ?_
  replace h := bnP_s h
  obtain ⟨x7, h8, h⟩ := h
  refine g_getI B fl_RX10_73 (by decide) dX10_readsStrike_10 h8 ?_
  replace h := bnS_s h
  obtain ⟨j9, s19, h10, h⟩ := h
  have k12 : GW Δ Γ (0) (0) 29 [(0, va_rf v0), (1, .int x4)] [] s19 := by
    refine g_aload_n B 0 dX10_readsStrike_29 rfl rfl ?_
    replace h := bnP_s h
    obtain ⟨x20, h21, h⟩ := h
    refine g_getI B fl_RX10_73 (by decide) dX10_readsStrike_30 h21 ?_
    replace h := bnS_s h
    obtain ⟨j22, s30, h23, h⟩ := h
    have k25 : GW Δ Γ (0) (0) 41 [(0, va_rf v0)] [] s30 := by
      refine g_aload_n B 0 dX10_readsStrike_41 rfl rfl ?_
      replace h := bnP_s h
      obtain ⟨s33, h32, h⟩ := h
      refine g_callVv0 (st := []) B (cX10_goesc h32) (Nat.le_of_ble_eq_true rfl) rfl rfl mi_X10_goes lk_RX10_122 ⟨Nat.le_of_ble_eq_true rfl, Nat.le_of_ble_eq_true rfl⟩ rfl rfl (Nat.le_of_ble_eq_true rfl) dX10_readsStrike_42 (Nat.zero_le _) (Nat.zero_le _) ?_
      replace h := Option.some.inj h
      subst h
      exact g_vret B hE (Nat.zero_le _) (Nat.zero_le _) dX10_readsStrike_45
    clear h
    have h := h23
    clear h23
    refine g_if_ne B 41 dX10_readsStrike_33 (by decide) (fun hc => ?_) (fun hc => ?_)
    · replace h := ifn hc h
      obtain ⟨w1, w2⟩ := inS h
      clear h
      subst w1
      subst w2
      exact g_sub [0] rfl k25
    · replace h := ifp hc h
      refine g_aload_n B 0 dX10_readsStrike_36 rfl rfl ?_
      refine g_iload_n B 1 dX10_readsStrike_37 rfl rfl ?_
      replace h := bnP_s h
      obtain ⟨s29, h28, h⟩ := h
      refine g_callVv0 (st := []) B (cX10_strikesc h28) (Nat.le_of_ble_eq_true rfl) rfl rfl mi_X10_strikes lk_RX10_197 ⟨Nat.le_of_ble_eq_true rfl, Nat.le_of_ble_eq_true rfl⟩ rfl rfl (Nat.le_of_ble_eq_true rfl) dX10_readsStrike_38 (Nat.zero_le _) (Nat.zero_le _) ?_
      obtain ⟨w1, w2⟩ := inS h
      clear h
      subst w1
      subst w2
      exact g_sub [0] rfl k25
  clear h
  have h := h10
  clear h10
  refine g_if_ne B 29 dX10_readsStrike_13 (by decide) (fun hc => ?_) (fun hc => ?_)
  · replace h := ifn hc h
    obtain ⟨w1, w2⟩ := inS h
    clear h
    subst w1
    subst w2
    exact g_sub [1, 0] rfl k12
  · replace h := ifp hc h
    refine g_aload_n B 1 dX10_readsStrike_16 rfl rfl ?_
    refine g_iload_n B 0 dX10_readsStrike_17 rfl rfl ?_
    replace h := bnP_s h
    obtain ⟨x14, h15, h⟩ := h
    refine g_callVs0 (st := []) B (cX10_whyStrikec h15) (Nat.le_of_ble_eq_true rfl) rfl rfl mi_X10_whyStrike lk_RX10_194 ⟨Nat.le_of_ble_eq_true rfl, Nat.le_of_ble_eq_true rfl⟩ rfl rfl (Nat.le_of_ble_eq_true rfl) dX10_readsStrike_18 (Nat.zero_le _) (Nat.zero_le _) ?_
    refine g_if_eq B 29 dX10_readsStrike_21 (by decide) (fun hc => ?_) (fun hc => ?_)
    · replace h := ifp hc h
      obtain ⟨w1, w2⟩ := inS h
      clear h
      subst w1
      subst w2
      exact g_sub [1, 0] rfl k12
    · replace h := ifn hc h
      refine g_aload_n B 1 dX10_readsStrike_24 rfl rfl ?_
      refine g_iconst (v := 3) B dX10_readsStrike_25 (by decide) ?_
      replace h := bnP_s h
      obtain ⟨s18, h17, h⟩ := h
      refine g_callVv0 (st := []) B (cX10_faultsc h17) (Nat.le_of_ble_eq_true rfl) rfl rfl mi_X10_faults lk_RX10_115 ⟨Nat.le_of_ble_eq_true rfl, Nat.le_of_ble_eq_true rfl⟩ rfl rfl (Nat.le_of_ble_eq_true rfl) dX10_readsStrike_26 (Nat.zero_le _) (Nat.zero_le _) ?_
      obtain ⟨w1, w2⟩ := inS h
      clear h
      subst w1
      subst w2
      exact g_sub [1, 0] rfl k12
set_option maxRecDepth 100000 in
set_option maxHeartbeats 4000000 in
theorem cX10_clauseOfc {l : Launch} {v0 : Option Nat} {v1 : Int32} {σ : HpT} {r : Int32} (h : fX10_clauseOf v0 v1 σ = some r) : IsK σ v0 10 ∧ Ct l yX10_clauseOf cX10_clauseOf 2 (some .int) 1 22 [va_rf v0, .int v1] σ (.ok (some (.int r))) σ 0 0 := by
  unfold fX10_clauseOf at h
  replace h := bnP_s h
  obtain ⟨u, hk, h⟩ := h
  replace hk := isK_s hk
  refine ⟨hk, ?_⟩
  refine ct_start mi_X10_clauseOf.1 rfl (al_le (al_1 (rf_cat _) (al_1 rfl al_n)) (Nat.le_of_ble_eq_true rfl)) (ag_1 (rf_cat _) (ag_1 rfl ag_n)) (fun Δ Γ B hE hnm => ?_)
  refine g_aload_n B 0 dX10_clauseOf_0 rfl rfl ?_
  refine g_iload_n B 1 dX10_clauseOf_1 rfl rfl ?_
  refine g_iconst (v := 3) B dX10_clauseOf_2 (by decide) ?_
  replace h := bnP_s h
  obtain ⟨x1, h2, h⟩ := h
  refine g_callVs0 (st := []) B (cX10_ofWordc h2) (Nat.le_of_ble_eq_true rfl) rfl rfl mi_X10_ofWord lk_RX10_209 ⟨Nat.le_of_ble_eq_true rfl, Nat.le_of_ble_eq_true rfl⟩ rfl rfl (Nat.le_of_ble_eq_true rfl) dX10_clauseOf_3 (Nat.zero_le _) (Nat.zero_le _) ?_
  refine g_iconst (v := 1) B dX10_clauseOf_6 (by decide) ?_
  refine g_isub B dX10_clauseOf_7 ?_
  replace h := Option.some.inj h
  subst h
  exact g_iret B hE (Nat.zero_le _) (Nat.zero_le _) dX10_clauseOf_8
set_option maxRecDepth 100000 in
set_option maxHeartbeats 4000000 in
theorem cX10_strikesClausec {l : Launch} {v0 : Option Nat} {v1 : Int32} {σ : HpT} {r : Int32} {σ' : HpT} (h : fX10_strikesClause v0 v1 σ = some (r, σ')) : IsK σ v0 10 ∧ Ct l yX10_strikesClause cX10_strikesClause 5 (some .int) 3 63 [va_rf v0, .int v1] σ (.ok (some (.int r))) σ' 0 0 := by
  unfold fX10_strikesClause at h
  replace h := bnP_s h
  obtain ⟨u, hk, h⟩ := h
  replace hk := isK_s hk
  refine ⟨hk, ?_⟩
  refine ct_start mi_X10_strikesClause.1 rfl (al_le (al_1 (rf_cat _) (al_1 rfl al_n)) (Nat.le_of_ble_eq_true rfl)) (ag_1 (rf_cat _) (ag_1 rfl ag_n)) (fun Δ Γ B hE hnm => ?_)
  refine g_aload_n B 0 dX10_strikesClause_0 rfl rfl ?_
  refine g_aload_n B 0 dX10_strikesClause_1 rfl rfl ?_
  refine g_iload_n B 1 dX10_strikesClause_2 rfl rfl ?_
  replace h := bnP_s h
  obtain ⟨x1, h2, h⟩ := h
  refine g_callVs0 (st := [va_rf v0]) B (cX10_openWordc h2) (Nat.le_of_ble_eq_true rfl) rfl rfl mi_X10_openWord lk_RX10_200 ⟨Nat.le_of_ble_eq_true rfl, Nat.le_of_ble_eq_true rfl⟩ rfl rfl (Nat.le_of_ble_eq_true rfl) dX10_strikesClause_3 (Nat.zero_le _) (Nat.zero_le _) ?_
  replace h := bnP_s h
  obtain ⟨x3, h4, h⟩ := h
  refine g_callVs0 (st := []) B (cX10_clauseOfc h4) (Nat.le_of_ble_eq_true rfl) rfl rfl mi_X10_clauseOf lk_RX10_203 ⟨Nat.le_of_ble_eq_true rfl, Nat.le_of_ble_eq_true rfl⟩ rfl rfl (Nat.le_of_ble_eq_true rfl) dX10_strikesClause_6 (Nat.zero_le _) (Nat.zero_le _) ?_
  refine g_istore_n B dX10_strikesClause_9 rfl (Nat.le_of_ble_eq_true rfl) (s1_c (f1_k rfl (f1_1 rfl rfl f1_n))) ?_
  refine g_iconst (v := 0) B dX10_strikesClause_10 (by decide) ?_
  refine g_istore_n B dX10_strikesClause_11 rfl (Nat.le_of_ble_eq_true rfl) (s1_c (f1_1 rfl rfl (f1_k rfl (f1_k rfl f1_n)))) ?_
  refine g_aload_n B 2 dX10_strikesClause_12 rfl rfl ?_
  refine g_iload_n B 1 dX10_strikesClause_13 rfl rfl ?_
  refine g_iconst (v := 0) B dX10_strikesClause_14 (by decide) ?_
  replace h := bnP_s h
  obtain ⟨x5, h6, h⟩ := h
  refine g_callVs0 (st := []) B (cX10_ofClausec h6) (Nat.le_of_ble_eq_true rfl) rfl rfl mi_X10_ofClause lk_RX10_145 ⟨Nat.le_of_ble_eq_true rfl, Nat.le_of_ble_eq_true rfl⟩ rfl rfl (Nat.le_of_ble_eq_true rfl) dX10_strikesClause_15 (Nat.zero_le _) (Nat.zero_le _) ?_
  refine g_istore B dX10_strikesClause_18 (Nat.le_of_ble_eq_true rfl) (s1_c (f1_1 rfl rfl (f1_k rfl (f1_k rfl (f1_k rfl f1_n))))) ?_
  replace h := bnS_s h
  obtain ⟨r8, s26, h9, h⟩ := h
  have kE10 : GW Δ Γ (0) (0) 57 [(0, va_rf v0), (3, .int r8)] [] s26 := by
    refine g_aload_n B 0 dX10_strikesClause_57 rfl rfl ?_
    refine g_aload_n B 0 dX10_strikesClause_58 rfl rfl ?_
    replace h := bnP_s h
    obtain ⟨x27, h28, h⟩ := h
    refine g_callVs0 (st := [va_rf v0]) B (cX10_openActc h28) (Nat.le_of_ble_eq_true rfl) rfl rfl mi_X10_openAct lk_RX10_179 ⟨Nat.le_of_ble_eq_true rfl, Nat.le_of_ble_eq_true rfl⟩ rfl rfl (Nat.le_of_ble_eq_true rfl) dX10_strikesClause_59 (Nat.zero_le _) (Nat.zero_le _) ?_
    replace h := bnP_s h
    obtain ⟨s31, h30, h⟩ := h
    refine g_callVv0 (st := []) B (cX10_marksc h30) (Nat.le_of_ble_eq_true rfl) rfl rfl mi_X10_marks lk_RX10_340 ⟨Nat.le_of_ble_eq_true rfl, Nat.le_of_ble_eq_true rfl⟩ rfl rfl (Nat.le_of_ble_eq_true rfl) dX10_strikesClause_62 (Nat.zero_le _) (Nat.zero_le _) ?_
    refine g_iload_n B 1 dX10_strikesClause_65 rfl rfl ?_
    obtain ⟨w1, w2⟩ := inS h
    clear h
    subst w1
    subst w2
    exact g_iret B hE (Nat.zero_le _) (Nat.zero_le _) dX10_strikesClause_66
  clear h
  refine g_sub [3, 2, 1, 0] rfl ?_
  refine lpS_w (I := fun q7 s16 => GW Δ Γ (0) (0) 20 [(0, va_rf v0), (2, .int x3), (3, .int q7.1), (4, .int q7.2)] [] s16) (r := r8) (σr := s26) ?_ FUEL (0, x5) σ h9
  intro q7 s16 x14 s9 h hI12 hR13
  unfold fX10_strikesClause_l1 at h
  refine g_iload B 3 dX10_strikesClause_20 rfl ?_
  refine g_aload_n B 0 dX10_strikesClause_22 rfl rfl ?_
  refine g_iload_n B 1 dX10_strikesClause_23 rfl rfl ?_
  refine g_iconst (v := 1) B dX10_strikesClause_24 (by decide) ?_
  replace h := bnP_s h
  obtain ⟨x17, h18, h⟩ := h
  refine g_callVs0 (st := [.int q7.2]) B (cX10_ofClausec h18) (Nat.le_of_ble_eq_true rfl) rfl rfl mi_X10_ofClause lk_RX10_145 ⟨Nat.le_of_ble_eq_true rfl, Nat.le_of_ble_eq_true rfl⟩ rfl rfl (Nat.le_of_ble_eq_true rfl) dX10_strikesClause_25 (Nat.zero_le _) (Nat.zero_le _) ?_
  refine g_icmp_gt B 57 dX10_strikesClause_28 (by decide) (fun hc => ?_) (fun hc => ?_)
  · replace h := ifp hc h
    obtain ⟨w1, w2⟩ := inS h
    clear h
    subst w1
    subst w2
    obtain ⟨e8, e7⟩ := hR13 _ rfl
    subst e8
    subst e7
    exact g_sub [0, 2] rfl kE10
  · replace h := ifn hc h
    refine g_iload_n B 2 dX10_strikesClause_31 rfl rfl ?_
    refine g_aload_n B 0 dX10_strikesClause_32 rfl rfl ?_
    refine g_iload B 3 dX10_strikesClause_33 rfl ?_
    replace h := bnP_s h
    obtain ⟨x19, h20, h⟩ := h
    refine g_callVs0 (st := [.int q7.1]) B (cX10_standsc h20) (Nat.le_of_ble_eq_true rfl) rfl rfl mi_X10_stands lk_RX10_330 ⟨Nat.le_of_ble_eq_true rfl, Nat.le_of_ble_eq_true rfl⟩ rfl rfl (Nat.le_of_ble_eq_true rfl) dX10_strikesClause_35 (Nat.zero_le _) (Nat.zero_le _) ?_
    replace h := bnP_s h
    obtain ⟨x21, h22, h⟩ := h
    refine g_callSs0 (st := [.int q7.1]) B (cX10_onec h22) mi_X10_one lk_RX10_333 ⟨Nat.le_of_ble_eq_true rfl, Nat.le_of_ble_eq_true rfl⟩ rfl rfl (Nat.le_of_ble_eq_true rfl) dX10_strikesClause_38 (Nat.zero_le _) (Nat.zero_le _) ?_
    refine g_iadd B dX10_strikesClause_41 ?_
    refine g_istore_n B dX10_strikesClause_42 rfl (Nat.le_of_ble_eq_true rfl) (s1_c (f1_k rfl (f1_1 rfl rfl (f1_x (f1_k rfl f1_n))))) ?_
    refine g_aload_n B 1 dX10_strikesClause_43 rfl rfl ?_
    refine g_iload B 3 dX10_strikesClause_44 rfl ?_
    refine g_iconst (v := 2) B dX10_strikesClause_46 (by decide) ?_
    refine g_iconst (v := 1) B dX10_strikesClause_47 (by decide) ?_
    replace h := bnP_s h
    obtain ⟨s25, h24, h⟩ := h
    refine g_callVv0 (st := []) B (cX10_putsWordc h24) (Nat.le_of_ble_eq_true rfl) rfl rfl mi_X10_putsWord lk_RX10_337 ⟨Nat.le_of_ble_eq_true rfl, Nat.le_of_ble_eq_true rfl⟩ rfl rfl (Nat.le_of_ble_eq_true rfl) dX10_strikesClause_48 (Nat.zero_le _) (Nat.zero_le _) ?_
    refine g_iinc (v := (q7.2 + 1)) B 3 dX10_strikesClause_51 rfl (by first | rfl | (congr 1; decide)) (Nat.le_of_ble_eq_true rfl) (s1_c (f1_1 rfl rfl (f1_k rfl (f1_k rfl (f1_x f1_n))))) ?_
    refine g_goto B 20 dX10_strikesClause_54 (by decide) ?_
    obtain ⟨w1, w2⟩ := inS h
    clear h
    subst w1
    subst w2
    exact g_sub [2, 3, 1, 0] rfl (hI12 _ rfl)
set_option maxRecDepth 100000 in
set_option maxHeartbeats 4000000 in
theorem cX10_readsOutc {l : Launch} {v0 : Option Nat} {σ : HpT} {σ' : HpT} (h : fX10_readsOut v0 σ = some σ') : IsK σ v0 10 ∧ Ct l yX10_readsOut cX10_readsOut 3 none 4 87 [va_rf v0] σ (.ok none) σ' 0 0 := by
  unfold fX10_readsOut at h
  replace h := bnP_s h
  obtain ⟨u, hk, h⟩ := h
  replace hk := isK_s hk
  refine ⟨hk, ?_⟩
  refine ct_start mi_X10_readsOut.1 rfl (al_le (al_1 (rf_cat _) al_n) (Nat.le_of_ble_eq_true rfl)) (ag_1 (rf_cat _) ag_n) (fun Δ Γ B hE hnm => ?_)
  refine g_aload_n B 0 dX10_readsOut_0 rfl rfl ?_
  replace h := bnP_s h
  obtain ⟨s3, h2, h⟩ := h
  refine g_callVv0 (st := []) B (cX10_goesc h2) (Nat.le_of_ble_eq_true rfl) rfl rfl mi_X10_goes lk_RX10_122 ⟨Nat.le_of_ble_eq_true rfl, Nat.le_of_ble_eq_true rfl⟩ rfl rfl (Nat.le_of_ble_eq_true rfl) dX10_readsOut_1 (Nat.zero_le _) (Nat.zero_le _) ?_
  refine g_aload_n B 0 dX10_readsOut_4 rfl rfl ?_
  replace h := bnS_s h
  obtain ⟨x4, s6, h5, h⟩ := h
  refine g_callVs0 (st := []) B (cX10_wordHerec h5) (Nat.le_of_ble_eq_true rfl) rfl rfl mi_X10_wordHere lk_RX10_191 ⟨Nat.le_of_ble_eq_true rfl, Nat.le_of_ble_eq_true rfl⟩ rfl rfl (Nat.le_of_ble_eq_true rfl) dX10_readsOut_5 (Nat.zero_le _) (Nat.zero_le _) ?_
  refine g_istore_n B dX10_readsOut_8 rfl (Nat.le_of_ble_eq_true rfl) (s1_c (f1_1 rfl (rf_cat _) f1_n)) ?_
  refine g_aload_n B 1 dX10_readsOut_9 rfl rfl ?_
  replace h := bnP_s h
  obtain ⟨x7, h8, h⟩ := h
  refine g_getI B fl_RX10_73 (by decide) dX10_readsOut_10 h8 ?_
  replace h := bnS_s h
  obtain ⟨j9, s21, h10, h⟩ := h
  have k12 : GW Δ Γ (0) (0) 34 [(0, va_rf v0), (1, .int x4)] [] s21 := by
    refine g_aload_n B 0 dX10_readsOut_34 rfl rfl ?_
    replace h := bnP_s h
    obtain ⟨x22, h23, h⟩ := h
    refine g_getI B fl_RX10_73 (by decide) dX10_readsOut_35 h23 ?_
    refine g_if_le B 42 dX10_readsOut_38 (by decide) (fun hc => ?_) (fun hc => ?_)
    · replace h := ifp hc h
      refine g_aload_n B 0 dX10_readsOut_42 rfl rfl ?_
      refine g_iload_n B 1 dX10_readsOut_43 rfl rfl ?_
      replace h := bnS_s h
      obtain ⟨x24, s26, h25, h⟩ := h
      refine g_callVs0 (st := []) B (cX10_strikesClausec h25) (Nat.le_of_ble_eq_true rfl) rfl rfl mi_X10_strikesClause lk_RX10_206 ⟨Nat.le_of_ble_eq_true rfl, Nat.le_of_ble_eq_true rfl⟩ rfl rfl (Nat.le_of_ble_eq_true rfl) dX10_readsOut_44 (Nat.zero_le _) (Nat.zero_le _) ?_
      refine g_istore_n B dX10_readsOut_47 rfl (Nat.le_of_ble_eq_true rfl) (s1_c (f1_k rfl (f1_1 rfl rfl f1_n))) ?_
      refine g_aload_n B 1 dX10_readsOut_48 rfl rfl ?_
      replace h := bnP_s h
      obtain ⟨s29, h28, h⟩ := h
      refine g_callVv0 (st := []) B (cX10_goesc h28) (Nat.le_of_ble_eq_true rfl) rfl rfl mi_X10_goes lk_RX10_122 ⟨Nat.le_of_ble_eq_true rfl, Nat.le_of_ble_eq_true rfl⟩ rfl rfl (Nat.le_of_ble_eq_true rfl) dX10_readsOut_49 (Nat.zero_le _) (Nat.zero_le _) ?_
      replace h := Option.some.inj h
      subst h
      exact g_vret B hE (Nat.zero_le _) (Nat.zero_le _) dX10_readsOut_52
    · replace h := ifn hc h
      replace h := Option.some.inj h
      subst h
      exact g_vret B hE (Nat.zero_le _) (Nat.zero_le _) dX10_readsOut_41
  clear h
  have h := h10
  clear h10
  refine g_if_ne B 34 dX10_readsOut_13 (by decide) (fun hc => ?_) (fun hc => ?_)
  · replace h := ifn hc h
    obtain ⟨w1, w2⟩ := inS h
    clear h
    subst w1
    subst w2
    exact g_sub [1, 0] rfl k12
  · replace h := ifp hc h
    refine g_aload_n B 1 dX10_readsOut_16 rfl rfl ?_
    refine g_aload_n B 1 dX10_readsOut_17 rfl rfl ?_
    refine g_iload_n B 0 dX10_readsOut_18 rfl rfl ?_
    replace h := bnP_s h
    obtain ⟨x14, h15, h⟩ := h
    refine g_callVs0 (st := [va_rf v0]) B (cX10_openWordc h15) (Nat.le_of_ble_eq_true rfl) rfl rfl mi_X10_openWord lk_RX10_200 ⟨Nat.le_of_ble_eq_true rfl, Nat.le_of_ble_eq_true rfl⟩ rfl rfl (Nat.le_of_ble_eq_true rfl) dX10_readsOut_19 (Nat.zero_le _) (Nat.zero_le _) ?_
    replace h := bnP_s h
    obtain ⟨x16, h17, h⟩ := h
    refine g_callVs0 (st := []) B (cX10_clauseOfc h17) (Nat.le_of_ble_eq_true rfl) rfl rfl mi_X10_clauseOf lk_RX10_203 ⟨Nat.le_of_ble_eq_true rfl, Nat.le_of_ble_eq_true rfl⟩ rfl rfl (Nat.le_of_ble_eq_true rfl) dX10_readsOut_22 (Nat.zero_le _) (Nat.zero_le _) ?_
    refine g_iconst (v := (-1)) B dX10_readsOut_25 (by decide) ?_
    refine g_icmp_ne B 34 dX10_readsOut_26 (by decide) (fun hc => ?_) (fun hc => ?_)
    · replace h := ifn hc h
      obtain ⟨w1, w2⟩ := inS h
      clear h
      subst w1
      subst w2
      exact g_sub [1, 0] rfl k12
    · replace h := ifp hc h
      refine g_aload_n B 1 dX10_readsOut_29 rfl rfl ?_
      refine g_iconst (v := 3) B dX10_readsOut_30 (by decide) ?_
      replace h := bnP_s h
      obtain ⟨s20, h19, h⟩ := h
      refine g_callVv0 (st := []) B (cX10_faultsc h19) (Nat.le_of_ble_eq_true rfl) rfl rfl mi_X10_faults lk_RX10_115 ⟨Nat.le_of_ble_eq_true rfl, Nat.le_of_ble_eq_true rfl⟩ rfl rfl (Nat.le_of_ble_eq_true rfl) dX10_readsOut_31 (Nat.zero_le _) (Nat.zero_le _) ?_
      obtain ⟨w1, w2⟩ := inS h
      clear h
      subst w1
      subst w2
      exact g_sub [1, 0] rfl k12
set_option maxRecDepth 100000 in
set_option maxHeartbeats 4000000 in
theorem cX10_interlinesc {l : Launch} {v0 : Option Nat} {v1 : Int32} {v2 : Int32} {v3 : Int32} {σ : HpT} {σ' : HpT} (h : fX10_interlines v0 v1 v2 v3 σ = some σ') : IsK σ v0 10 ∧ Ct l yX10_interlines cX10_interlines 6 none 3 63 [va_rf v0, .int v1, .int v2, .int v3] σ (.ok none) σ' 0 0 := by
  unfold fX10_interlines at h
  replace h := bnP_s h
  obtain ⟨u, hk, h⟩ := h
  replace hk := isK_s hk
  refine ⟨hk, ?_⟩
  refine ct_start mi_X10_interlines.1 rfl (al_le (al_1 (rf_cat _) (al_1 rfl (al_1 rfl (al_1 rfl al_n)))) (Nat.le_of_ble_eq_true rfl)) (ag_1 (rf_cat _) (ag_1 rfl (ag_1 rfl (ag_1 rfl ag_n)))) (fun Δ Γ B hE hnm => ?_)
  refine g_aload_n B 0 dX10_interlines_0 rfl rfl ?_
  refine g_iload_n B 1 dX10_interlines_1 rfl rfl ?_
  replace h := bnP_s h
  obtain ⟨x1, h2, h⟩ := h
  refine g_callVs0 (st := []) B (cX10_openWordc h2) (Nat.le_of_ble_eq_true rfl) rfl rfl mi_X10_openWord lk_RX10_200 ⟨Nat.le_of_ble_eq_true rfl, Nat.le_of_ble_eq_true rfl⟩ rfl rfl (Nat.le_of_ble_eq_true rfl) dX10_interlines_2 (Nat.zero_le _) (Nat.zero_le _) ?_
  refine g_istore B dX10_interlines_5 (Nat.le_of_ble_eq_true rfl) (s1_c (f1_k rfl (f1_k rfl (f1_k rfl (f1_1 rfl rfl f1_n))))) ?_
  refine g_aload_n B 1 dX10_interlines_7 rfl rfl ?_
  refine g_iload B 0 dX10_interlines_8 rfl ?_
  refine g_iconst (v := 4) B dX10_interlines_10 (by decide) ?_
  replace h := bnP_s h
  obtain ⟨x3, h4, h⟩ := h
  refine g_callVs0 (st := []) B (cX10_ofWordc h4) (Nat.le_of_ble_eq_true rfl) rfl rfl mi_X10_ofWord lk_RX10_209 ⟨Nat.le_of_ble_eq_true rfl, Nat.le_of_ble_eq_true rfl⟩ rfl rfl (Nat.le_of_ble_eq_true rfl) dX10_interlines_11 (Nat.zero_le _) (Nat.zero_le _) ?_
  refine g_istore B dX10_interlines_14 (Nat.le_of_ble_eq_true rfl) (s1_c (f1_1 rfl rfl (f1_k rfl (f1_k rfl (f1_k rfl (f1_k rfl f1_n)))))) ?_
  refine g_aload_n B 2 dX10_interlines_16 rfl rfl ?_
  refine g_iload B 1 dX10_interlines_17 rfl ?_
  refine g_iconst (v := 5) B dX10_interlines_19 (by decide) ?_
  refine g_iconst (v := 2) B dX10_interlines_20 (by decide) ?_
  refine g_iload B 0 dX10_interlines_21 rfl ?_
  refine g_imul B dX10_interlines_23 ?_
  refine g_iadd B dX10_interlines_24 ?_
  refine g_aload_n B 2 dX10_interlines_25 rfl rfl ?_
  refine g_iload_n B 4 dX10_interlines_26 rfl rfl ?_
  refine g_iload_n B 5 dX10_interlines_27 rfl rfl ?_
  refine g_iconst (v := 0) B dX10_interlines_28 (by decide) ?_
  replace h := bnP_s h
  obtain ⟨x5, h6, h⟩ := h
  refine g_callVs0 (st := [.int (5 + (2 * x3)), .int x1, va_rf v0]) B (cX10_partOfc h6) (Nat.le_of_ble_eq_true rfl) rfl rfl mi_X10_partOf lk_RX10_160 ⟨Nat.le_of_ble_eq_true rfl, Nat.le_of_ble_eq_true rfl⟩ rfl rfl (Nat.le_of_ble_eq_true rfl) dX10_interlines_29 (Nat.zero_le _) (Nat.zero_le _) ?_
  replace h := bnP_s h
  obtain ⟨s9, h8, h⟩ := h
  refine g_callVv0 (st := []) B (cX10_putsWordc h8) (Nat.le_of_ble_eq_true rfl) rfl rfl mi_X10_putsWord lk_RX10_337 ⟨Nat.le_of_ble_eq_true rfl, Nat.le_of_ble_eq_true rfl⟩ rfl rfl (Nat.le_of_ble_eq_true rfl) dX10_interlines_32 (Nat.zero_le _) (Nat.zero_le _) ?_
  refine g_aload_n B 2 dX10_interlines_35 rfl rfl ?_
  refine g_iload B 1 dX10_interlines_36 rfl ?_
  refine g_iconst (v := 5) B dX10_interlines_38 (by decide) ?_
  refine g_iconst (v := 2) B dX10_interlines_39 (by decide) ?_
  refine g_iload B 0 dX10_interlines_40 rfl ?_
  refine g_imul B dX10_interlines_42 ?_
  refine g_iadd B dX10_interlines_43 ?_
  refine g_iconst (v := 1) B dX10_interlines_44 (by decide) ?_
  refine g_iadd B dX10_interlines_45 ?_
  refine g_aload_n B 2 dX10_interlines_46 rfl rfl ?_
  refine g_iload_n B 4 dX10_interlines_47 rfl rfl ?_
  refine g_iload_n B 5 dX10_interlines_48 rfl rfl ?_
  refine g_iconst (v := 1) B dX10_interlines_49 (by decide) ?_
  replace h := bnP_s h
  obtain ⟨x10, h11, h⟩ := h
  refine g_callVs0 (st := [.int ((5 + (2 * x3)) + 1), .int x1, va_rf v0]) B (cX10_partOfc h11) (Nat.le_of_ble_eq_true rfl) rfl rfl mi_X10_partOf lk_RX10_160 ⟨Nat.le_of_ble_eq_true rfl, Nat.le_of_ble_eq_true rfl⟩ rfl rfl (Nat.le_of_ble_eq_true rfl) dX10_interlines_50 (Nat.zero_le _) (Nat.zero_le _) ?_
  replace h := bnP_s h
  obtain ⟨s14, h13, h⟩ := h
  refine g_callVv0 (st := []) B (cX10_putsWordc h13) (Nat.le_of_ble_eq_true rfl) rfl rfl mi_X10_putsWord lk_RX10_337 ⟨Nat.le_of_ble_eq_true rfl, Nat.le_of_ble_eq_true rfl⟩ rfl rfl (Nat.le_of_ble_eq_true rfl) dX10_interlines_53 (Nat.zero_le _) (Nat.zero_le _) ?_
  refine g_aload_n B 2 dX10_interlines_56 rfl rfl ?_
  refine g_iload B 1 dX10_interlines_57 rfl ?_
  refine g_iconst (v := 4) B dX10_interlines_59 (by decide) ?_
  refine g_iload B 0 dX10_interlines_60 rfl ?_
  refine g_iconst (v := 1) B dX10_interlines_62 (by decide) ?_
  refine g_iadd B dX10_interlines_63 ?_
  replace h := bnP_s h
  obtain ⟨s17, h16, h⟩ := h
  refine g_callVv0 (st := []) B (cX10_putsWordc h16) (Nat.le_of_ble_eq_true rfl) rfl rfl mi_X10_putsWord lk_RX10_337 ⟨Nat.le_of_ble_eq_true rfl, Nat.le_of_ble_eq_true rfl⟩ rfl rfl (Nat.le_of_ble_eq_true rfl) dX10_interlines_64 (Nat.zero_le _) (Nat.zero_le _) ?_
  refine g_aload_n B 2 dX10_interlines_67 rfl rfl ?_
  refine g_aload_n B 2 dX10_interlines_68 rfl rfl ?_
  replace h := bnP_s h
  obtain ⟨x18, h19, h⟩ := h
  refine g_callVs0 (st := [va_rf v0]) B (cX10_openActc h19) (Nat.le_of_ble_eq_true rfl) rfl rfl mi_X10_openAct lk_RX10_179 ⟨Nat.le_of_ble_eq_true rfl, Nat.le_of_ble_eq_true rfl⟩ rfl rfl (Nat.le_of_ble_eq_true rfl) dX10_interlines_69 (Nat.zero_le _) (Nat.zero_le _) ?_
  replace h := bnP_s h
  obtain ⟨s22, h21, h⟩ := h
  refine g_callVv0 (st := []) B (cX10_marksc h21) (Nat.le_of_ble_eq_true rfl) rfl rfl mi_X10_marks lk_RX10_340 ⟨Nat.le_of_ble_eq_true rfl, Nat.le_of_ble_eq_true rfl⟩ rfl rfl (Nat.le_of_ble_eq_true rfl) dX10_interlines_72 (Nat.zero_le _) (Nat.zero_le _) ?_
  replace h := Option.some.inj h
  subst h
  exact g_vret B hE (Nat.zero_le _) (Nat.zero_le _) dX10_interlines_75
set_option maxRecDepth 100000 in
set_option maxHeartbeats 4000000 in
theorem cX10_readsInsertc {l : Launch} {v0 : Option Nat} {σ : HpT} {σ' : HpT} (h : fX10_readsInsert v0 σ = some σ') : IsK σ v0 10 ∧ Ct l yX10_readsInsert cX10_readsInsert 2 none 4 88 [va_rf v0] σ (.ok none) σ' 0 0 := by
  unfold fX10_readsInsert at h
  replace h := bnP_s h
  obtain ⟨u, hk, h⟩ := h
  replace hk := isK_s hk
  refine ⟨hk, ?_⟩
  refine ct_start mi_X10_readsInsert.1 rfl (al_le (al_1 (rf_cat _) al_n) (Nat.le_of_ble_eq_true rfl)) (ag_1 (rf_cat _) ag_n) (fun Δ Γ B hE hnm => ?_)
  refine g_aload_n B 0 dX10_readsInsert_0 rfl rfl ?_
  replace h := bnP_s h
  obtain ⟨s3, h2, h⟩ := h
  refine g_callVv0 (st := []) B (cX10_goesc h2) (Nat.le_of_ble_eq_true rfl) rfl rfl mi_X10_goes lk_RX10_122 ⟨Nat.le_of_ble_eq_true rfl, Nat.le_of_ble_eq_true rfl⟩ rfl rfl (Nat.le_of_ble_eq_true rfl) dX10_readsInsert_1 (Nat.zero_le _) (Nat.zero_le _) ?_
  refine g_aload_n B 0 dX10_readsInsert_4 rfl rfl ?_
  replace h := bnS_s h
  obtain ⟨x4, s6, h5, h⟩ := h
  refine g_callVs0 (st := []) B (cX10_wordHerec h5) (Nat.le_of_ble_eq_true rfl) rfl rfl mi_X10_wordHere lk_RX10_191 ⟨Nat.le_of_ble_eq_true rfl, Nat.le_of_ble_eq_true rfl⟩ rfl rfl (Nat.le_of_ble_eq_true rfl) dX10_readsInsert_5 (Nat.zero_le _) (Nat.zero_le _) ?_
  refine g_istore_n B dX10_readsInsert_8 rfl (Nat.le_of_ble_eq_true rfl) (s1_c (f1_1 rfl (rf_cat _) f1_n)) ?_
  refine g_aload_n B 1 dX10_readsInsert_9 rfl rfl ?_
  replace h := bnP_s h
  obtain ⟨x7, h8, h⟩ := h
  refine g_getI B fl_RX10_73 (by decide) dX10_readsInsert_10 h8 ?_
  replace h := bnS_s h
  obtain ⟨j9, s21, h10, h⟩ := h
  have k12 : GW Δ Γ (0) (0) 35 [(0, va_rf v0), (1, .int x4)] [] s21 := by
    refine g_aload_n B 0 dX10_readsInsert_35 rfl rfl ?_
    replace h := bnP_s h
    obtain ⟨s24, h23, h⟩ := h
    refine g_callVv0 (st := []) B (cX10_goesc h23) (Nat.le_of_ble_eq_true rfl) rfl rfl mi_X10_goes lk_RX10_122 ⟨Nat.le_of_ble_eq_true rfl, Nat.le_of_ble_eq_true rfl⟩ rfl rfl (Nat.le_of_ble_eq_true rfl) dX10_readsInsert_36 (Nat.zero_le _) (Nat.zero_le _) ?_
    refine g_aload_n B 0 dX10_readsInsert_39 rfl rfl ?_
    refine g_iconst (v := 2) B dX10_readsInsert_40 (by decide) ?_
    replace h := bnP_s h
    obtain ⟨x25, h26, h⟩ := h
    refine g_callVs0 (st := []) B (cX10_isc h26) (Nat.le_of_ble_eq_true rfl) rfl rfl mi_X10_is lk_RX10_102 ⟨Nat.le_of_ble_eq_true rfl, Nat.le_of_ble_eq_true rfl⟩ rfl rfl (Nat.le_of_ble_eq_true rfl) dX10_readsInsert_41 (Nat.zero_le _) (Nat.zero_le _) ?_
    replace h := bnS_s h
    obtain ⟨j27, s35, h28, h⟩ := h
    have k30 : GW Δ Γ (0) (0) 52 [(0, va_rf v0), (1, .int x4)] [] s35 := by
      refine g_aload_n B 0 dX10_readsInsert_52 rfl rfl ?_
      replace h := bnP_s h
      obtain ⟨x36, h37, h⟩ := h
      refine g_getI B fl_RX10_73 (by decide) dX10_readsInsert_53 h37 ?_
      replace h := bnS_s h
      obtain ⟨j38, s52, h39, h⟩ := h
      have k41 : GW Δ Γ (0) (0) 77 [(0, va_rf v0)] [] s52 := by
        refine g_aload_n B 0 dX10_readsInsert_77 rfl rfl ?_
        replace h := bnP_s h
        obtain ⟨s55, h54, h⟩ := h
        refine g_callVv0 (st := []) B (cX10_goesc h54) (Nat.le_of_ble_eq_true rfl) rfl rfl mi_X10_goes lk_RX10_122 ⟨Nat.le_of_ble_eq_true rfl, Nat.le_of_ble_eq_true rfl⟩ rfl rfl (Nat.le_of_ble_eq_true rfl) dX10_readsInsert_78 (Nat.zero_le _) (Nat.zero_le _) ?_
        replace h := Option.some.inj h
        subst h
        exact g_vret B hE (Nat.zero_le _) (Nat.zero_le _) dX10_readsInsert_81
      clear h
      have h := h39
      clear h39
      refine g_if_ne B 77 dX10_readsInsert_56 (by decide) (fun hc => ?_) (fun hc => ?_)
      · replace h := ifn hc h
        obtain ⟨w1, w2⟩ := inS h
        clear h
        subst w1
        subst w2
        exact g_sub [0] rfl k41
      · replace h := ifp hc h
        refine g_aload_n B 0 dX10_readsInsert_59 rfl rfl ?_
        refine g_iload_n B 1 dX10_readsInsert_60 rfl rfl ?_
        refine g_aload_n B 0 dX10_readsInsert_61 rfl rfl ?_
        replace h := bnP_s h
        obtain ⟨x43, h44, h⟩ := h
        refine g_getI B fl_RX10_79 (by decide) dX10_readsInsert_62 h44 ?_
        refine g_aload_n B 0 dX10_readsInsert_65 rfl rfl ?_
        replace h := bnP_s h
        obtain ⟨x45, h46, h⟩ := h
        refine g_getI B fl_RX10_76 (by decide) dX10_readsInsert_66 h46 ?_
        refine g_aload_n B 0 dX10_readsInsert_69 rfl rfl ?_
        replace h := bnP_s h
        obtain ⟨x47, h48, h⟩ := h
        refine g_getI B fl_RX10_79 (by decide) dX10_readsInsert_70 h48 ?_
        refine g_isub B dX10_readsInsert_73 ?_
        replace h := bnP_s h
        obtain ⟨s51, h50, h⟩ := h
        refine g_callVv0 (st := []) B (cX10_interlinesc h50) (Nat.le_of_ble_eq_true rfl) rfl rfl mi_X10_interlines lk_RX10_212 ⟨Nat.le_of_ble_eq_true rfl, Nat.le_of_ble_eq_true rfl⟩ rfl rfl (Nat.le_of_ble_eq_true rfl) dX10_readsInsert_74 (Nat.zero_le _) (Nat.zero_le _) ?_
        obtain ⟨w1, w2⟩ := inS h
        clear h
        subst w1
        subst w2
        exact g_sub [0] rfl k41
    clear h
    have h := h28
    clear h28
    refine g_if_ne B 52 dX10_readsInsert_44 (by decide) (fun hc => ?_) (fun hc => ?_)
    · replace h := ifp (bI1 hc) h
      obtain ⟨w1, w2⟩ := inS h
      clear h
      subst w1
      subst w2
      exact g_sub [0, 1] rfl k30
    · replace h := ifn (bI0 hc) h
      refine g_aload_n B 0 dX10_readsInsert_47 rfl rfl ?_
      refine g_iconst (v := 1) B dX10_readsInsert_48 (by decide) ?_
      replace h := bnP_s h
      obtain ⟨s34, h33, h⟩ := h
      refine g_callVv0 (st := []) B (cX10_faultsc h33) (Nat.le_of_ble_eq_true rfl) rfl rfl mi_X10_faults lk_RX10_115 ⟨Nat.le_of_ble_eq_true rfl, Nat.le_of_ble_eq_true rfl⟩ rfl rfl (Nat.le_of_ble_eq_true rfl) dX10_readsInsert_49 (Nat.zero_le _) (Nat.zero_le _) ?_
      obtain ⟨w1, w2⟩ := inS h
      clear h
      subst w1
      subst w2
      exact g_sub [0, 1] rfl k30
  clear h
  have h := h10
  clear h10
  refine g_if_ne B 35 dX10_readsInsert_13 (by decide) (fun hc => ?_) (fun hc => ?_)
  · replace h := ifn hc h
    obtain ⟨w1, w2⟩ := inS h
    clear h
    subst w1
    subst w2
    exact g_sub [1, 0] rfl k12
  · replace h := ifp hc h
    refine g_aload_n B 1 dX10_readsInsert_16 rfl rfl ?_
    refine g_aload_n B 1 dX10_readsInsert_17 rfl rfl ?_
    refine g_iload_n B 0 dX10_readsInsert_18 rfl rfl ?_
    replace h := bnP_s h
    obtain ⟨x14, h15, h⟩ := h
    refine g_callVs0 (st := [va_rf v0]) B (cX10_openWordc h15) (Nat.le_of_ble_eq_true rfl) rfl rfl mi_X10_openWord lk_RX10_200 ⟨Nat.le_of_ble_eq_true rfl, Nat.le_of_ble_eq_true rfl⟩ rfl rfl (Nat.le_of_ble_eq_true rfl) dX10_readsInsert_19 (Nat.zero_le _) (Nat.zero_le _) ?_
    refine g_iconst (v := 4) B dX10_readsInsert_22 (by decide) ?_
    replace h := bnP_s h
    obtain ⟨x16, h17, h⟩ := h
    refine g_callVs0 (st := []) B (cX10_ofWordc h17) (Nat.le_of_ble_eq_true rfl) rfl rfl mi_X10_ofWord lk_RX10_209 ⟨Nat.le_of_ble_eq_true rfl, Nat.le_of_ble_eq_true rfl⟩ rfl rfl (Nat.le_of_ble_eq_true rfl) dX10_readsInsert_23 (Nat.zero_le _) (Nat.zero_le _) ?_
    refine g_iconst (v := 4) B dX10_readsInsert_26 (by decide) ?_
    refine g_icmp_ne B 35 dX10_readsInsert_27 (by decide) (fun hc => ?_) (fun hc => ?_)
    · replace h := ifn hc h
      obtain ⟨w1, w2⟩ := inS h
      clear h
      subst w1
      subst w2
      exact g_sub [1, 0] rfl k12
    · replace h := ifp hc h
      refine g_aload_n B 1 dX10_readsInsert_30 rfl rfl ?_
      refine g_iconst (v := 3) B dX10_readsInsert_31 (by decide) ?_
      replace h := bnP_s h
      obtain ⟨s20, h19, h⟩ := h
      refine g_callVv0 (st := []) B (cX10_faultsc h19) (Nat.le_of_ble_eq_true rfl) rfl rfl mi_X10_faults lk_RX10_115 ⟨Nat.le_of_ble_eq_true rfl, Nat.le_of_ble_eq_true rfl⟩ rfl rfl (Nat.le_of_ble_eq_true rfl) dX10_readsInsert_32 (Nat.zero_le _) (Nat.zero_le _) ?_
      obtain ⟨w1, w2⟩ := inS h
      clear h
      subst w1
      subst w2
      exact g_sub [1, 0] rfl k12
set_option maxRecDepth 100000 in
set_option maxHeartbeats 4000000 in
theorem cX10_lastOfc {l : Launch} {v0 : Option Nat} {v1 : Int32} {σ : HpT} {r : Int32} (h : fX10_lastOf v0 v1 σ = some r) : IsK σ v0 10 ∧ Ct l yX10_lastOf cX10_lastOf 2 (some .int) 1 22 [va_rf v0, .int v1] σ (.ok (some (.int r))) σ 0 0 := by
  unfold fX10_lastOf at h
  replace h := bnP_s h
  obtain ⟨u, hk, h⟩ := h
  replace hk := isK_s hk
  refine ⟨hk, ?_⟩
  refine ct_start mi_X10_lastOf.1 rfl (al_le (al_1 (rf_cat _) (al_1 rfl al_n)) (Nat.le_of_ble_eq_true rfl)) (ag_1 (rf_cat _) (ag_1 rfl ag_n)) (fun Δ Γ B hE hnm => ?_)
  refine g_aload_n B 0 dX10_lastOf_0 rfl rfl ?_
  refine g_iload_n B 1 dX10_lastOf_1 rfl rfl ?_
  refine g_iconst (v := 5) B dX10_lastOf_2 (by decide) ?_
  replace h := bnP_s h
  obtain ⟨x1, h2, h⟩ := h
  refine g_callVs0 (st := []) B (cX10_ofActc h2) (Nat.le_of_ble_eq_true rfl) rfl rfl mi_X10_ofAct lk_RX10_138 ⟨Nat.le_of_ble_eq_true rfl, Nat.le_of_ble_eq_true rfl⟩ rfl rfl (Nat.le_of_ble_eq_true rfl) dX10_lastOf_3 (Nat.zero_le _) (Nat.zero_le _) ?_
  refine g_aload_n B 0 dX10_lastOf_6 rfl rfl ?_
  refine g_iload_n B 1 dX10_lastOf_7 rfl rfl ?_
  refine g_bipush (v := 6) B dX10_lastOf_8 (by decide) ?_
  replace h := bnP_s h
  obtain ⟨x3, h4, h⟩ := h
  refine g_callVs0 (st := [.int x1]) B (cX10_ofActc h4) (Nat.le_of_ble_eq_true rfl) rfl rfl mi_X10_ofAct lk_RX10_138 ⟨Nat.le_of_ble_eq_true rfl, Nat.le_of_ble_eq_true rfl⟩ rfl rfl (Nat.le_of_ble_eq_true rfl) dX10_lastOf_10 (Nat.zero_le _) (Nat.zero_le _) ?_
  refine g_iadd B dX10_lastOf_13 ?_
  refine g_iconst (v := 1) B dX10_lastOf_14 (by decide) ?_
  refine g_isub B dX10_lastOf_15 ?_
  replace h := Option.some.inj h
  subst h
  exact g_iret B hE (Nat.zero_le _) (Nat.zero_le _) dX10_lastOf_16
set_option maxRecDepth 100000 in
set_option maxHeartbeats 4000000 in
theorem cX10_standingc {l : Launch} {v0 : Option Nat} {v1 : Int32} {σ : HpT} {r : Int32} (h : fX10_standing v0 v1 σ = some r) : IsK σ v0 10 ∧ Ct l yX10_standing cX10_standing 4 (some .int) 2 43 [va_rf v0, .int v1] σ (.ok (some (.int r))) σ 0 0 := by
  unfold fX10_standing at h
  replace h := bnP_s h
  obtain ⟨u, hk, h⟩ := h
  replace hk := isK_s hk
  refine ⟨hk, ?_⟩
  refine ct_start mi_X10_standing.1 rfl (al_le (al_1 (rf_cat _) (al_1 rfl al_n)) (Nat.le_of_ble_eq_true rfl)) (ag_1 (rf_cat _) (ag_1 rfl ag_n)) (fun Δ Γ B hE hnm => ?_)
  refine g_iconst (v := 0) B dX10_standing_0 (by decide) ?_
  refine g_istore_n B dX10_standing_1 rfl (Nat.le_of_ble_eq_true rfl) (s1_c (f1_k rfl (f1_1 rfl rfl f1_n))) ?_
  refine g_aload_n B 1 dX10_standing_2 rfl rfl ?_
  refine g_iload_n B 2 dX10_standing_3 rfl rfl ?_
  refine g_iconst (v := 5) B dX10_standing_4 (by decide) ?_
  replace h := bnP_s h
  obtain ⟨x1, h2, h⟩ := h
  refine g_callVs0 (st := []) B (cX10_ofActc h2) (Nat.le_of_ble_eq_true rfl) rfl rfl mi_X10_ofAct lk_RX10_138 ⟨Nat.le_of_ble_eq_true rfl, Nat.le_of_ble_eq_true rfl⟩ rfl rfl (Nat.le_of_ble_eq_true rfl) dX10_standing_5 (Nat.zero_le _) (Nat.zero_le _) ?_
  refine g_istore_n B dX10_standing_8 rfl (Nat.le_of_ble_eq_true rfl) (s1_c (f1_1 rfl rfl (f1_k rfl (f1_k rfl f1_n)))) ?_
  replace h := bnP_s h
  obtain ⟨r4, h5, h⟩ := h
  have kE6 : GW Δ Γ (0) (0) 42 [(2, .int r4)] [] σ := by
    refine g_iload_n B 0 dX10_standing_42 rfl rfl ?_
    replace h := Option.some.inj h
    subst h
    exact g_iret B hE (Nat.zero_le _) (Nat.zero_le _) dX10_standing_43
  clear h
  refine g_sub [2, 3, 1, 0] rfl ?_
  refine lpP_w (I := fun q3 => GW Δ Γ (0) (0) 9 [(0, va_rf v0), (1, .int v1), (2, .int q3.1), (3, .int q3.2)] [] σ) (r := r4) ?_ FUEL (0, x1) h5
  intro q3 x10 h hI8 hR9
  unfold fX10_standing_l1 at h
  refine g_iload_n B 3 dX10_standing_9 rfl rfl ?_
  refine g_aload_n B 0 dX10_standing_10 rfl rfl ?_
  refine g_iload_n B 1 dX10_standing_11 rfl rfl ?_
  replace h := bnP_s h
  obtain ⟨x12, h13, h⟩ := h
  refine g_callVs0 (st := [.int q3.2]) B (cX10_lastOfc h13) (Nat.le_of_ble_eq_true rfl) rfl rfl mi_X10_lastOf lk_RX10_327 ⟨Nat.le_of_ble_eq_true rfl, Nat.le_of_ble_eq_true rfl⟩ rfl rfl (Nat.le_of_ble_eq_true rfl) dX10_standing_12 (Nat.zero_le _) (Nat.zero_le _) ?_
  refine g_icmp_gt B 42 dX10_standing_15 (by decide) (fun hc => ?_) (fun hc => ?_)
  · replace h := ifp hc h
    replace h := Option.some.inj h
    subst h
    have e8 := hR9 _ rfl
    subst e8
    exact g_sub [2] rfl kE6
  · replace h := ifn hc h
    refine g_iload_n B 2 dX10_standing_18 rfl rfl ?_
    refine g_aload_n B 0 dX10_standing_19 rfl rfl ?_
    refine g_iload_n B 3 dX10_standing_20 rfl rfl ?_
    replace h := bnP_s h
    obtain ⟨x14, h15, h⟩ := h
    refine g_callVs0 (st := [.int q3.1]) B (cX10_standsc h15) (Nat.le_of_ble_eq_true rfl) rfl rfl mi_X10_stands lk_RX10_330 ⟨Nat.le_of_ble_eq_true rfl, Nat.le_of_ble_eq_true rfl⟩ rfl rfl (Nat.le_of_ble_eq_true rfl) dX10_standing_21 (Nat.zero_le _) (Nat.zero_le _) ?_
    replace h := bnP_s h
    obtain ⟨x16, h17, h⟩ := h
    refine g_callSs0 (st := [.int q3.1]) B (cX10_onec h17) mi_X10_one lk_RX10_333 ⟨Nat.le_of_ble_eq_true rfl, Nat.le_of_ble_eq_true rfl⟩ rfl rfl (Nat.le_of_ble_eq_true rfl) dX10_standing_24 (Nat.zero_le _) (Nat.zero_le _) ?_
    refine g_aload_n B 0 dX10_standing_27 rfl rfl ?_
    refine g_iload_n B 3 dX10_standing_28 rfl rfl ?_
    refine g_iconst (v := 4) B dX10_standing_29 (by decide) ?_
    replace h := bnP_s h
    obtain ⟨x18, h19, h⟩ := h
    refine g_callVs0 (st := [.int x16, .int q3.1]) B (cX10_ofWordc h19) (Nat.le_of_ble_eq_true rfl) rfl rfl mi_X10_ofWord lk_RX10_209 ⟨Nat.le_of_ble_eq_true rfl, Nat.le_of_ble_eq_true rfl⟩ rfl rfl (Nat.le_of_ble_eq_true rfl) dX10_standing_30 (Nat.zero_le _) (Nat.zero_le _) ?_
    refine g_iadd B dX10_standing_33 ?_
    refine g_iadd B dX10_standing_34 ?_
    refine g_istore_n B dX10_standing_35 rfl (Nat.le_of_ble_eq_true rfl) (s1_c (f1_k rfl (f1_1 rfl rfl (f1_x (f1_k rfl f1_n))))) ?_
    refine g_iinc (v := (q3.2 + 1)) B 3 dX10_standing_36 rfl (by first | rfl | (congr 1; decide)) (Nat.le_of_ble_eq_true rfl) (s1_c (f1_1 rfl rfl (f1_k rfl (f1_k rfl (f1_x f1_n))))) ?_
    refine g_goto B 9 dX10_standing_39 (by decide) ?_
    replace h := Option.some.inj h
    subst h
    exact g_sub [2, 3, 1, 0] rfl (hI8 _ rfl)
set_option maxRecDepth 100000 in
set_option maxHeartbeats 4000000 in
theorem cX10_whySealc {l : Launch} {v0 : Option Nat} {v1 : Int32} {v2 : Int32} {σ : HpT} {r : Int32} (h : fX10_whySeal v0 v1 v2 σ = some r) : IsK σ v0 10 ∧ Ct l yX10_whySeal cX10_whySeal 4 (some .int) 3 66 [va_rf v0, .int v1, .int v2] σ (.ok (some (.int r))) σ 0 0 := by
  unfold fX10_whySeal at h
  replace h := bnP_s h
  obtain ⟨u, hk, h⟩ := h
  replace hk := isK_s hk
  refine ⟨hk, ?_⟩
  refine ct_start mi_X10_whySeal.1 rfl (al_le (al_1 (rf_cat _) (al_1 rfl (al_1 rfl al_n))) (Nat.le_of_ble_eq_true rfl)) (ag_1 (rf_cat _) (ag_1 rfl (ag_1 rfl ag_n))) (fun Δ Γ B hE hnm => ?_)
  refine g_aload_n B 0 dX10_whySeal_0 rfl rfl ?_
  replace h := bnP_s h
  obtain ⟨x1, h2, h⟩ := h
  refine g_callVs0 (st := []) B (cX10_openActc h2) (Nat.le_of_ble_eq_true rfl) rfl rfl mi_X10_openAct lk_RX10_179 ⟨Nat.le_of_ble_eq_true rfl, Nat.le_of_ble_eq_true rfl⟩ rfl rfl (Nat.le_of_ble_eq_true rfl) dX10_whySeal_1 (Nat.zero_le _) (Nat.zero_le _) ?_
  refine g_istore_n B dX10_whySeal_4 rfl (Nat.le_of_ble_eq_true rfl) (s1_c (f1_k rfl (f1_k rfl (f1_1 rfl rfl f1_n)))) ?_
  refine g_iload_n B 0 dX10_whySeal_5 rfl rfl ?_
  refine g_iconst (v := (-1)) B dX10_whySeal_6 (by decide) ?_
  refine g_icmp_ne B 12 dX10_whySeal_7 (by decide) (fun hc => ?_) (fun hc => ?_)
  · replace h := ifn hc h
    refine g_iload_n B 2 dX10_whySeal_12 rfl rfl ?_
    refine g_aload_n B 1 dX10_whySeal_13 rfl rfl ?_
    replace h := bnP_s h
    obtain ⟨x3, h4, h⟩ := h
    refine g_getR B fl_RX10_9 (by decide) dX10_whySeal_14 h4 ?_
    refine g_iconst (v := 1) B dX10_whySeal_17 (by decide) ?_
    replace h := bnP_s h
    obtain ⟨x5, h6, h⟩ := h
    refine g_iald B dX10_whySeal_18 h6 ?_
    refine g_icmp_ge B 24 dX10_whySeal_19 (by decide) (fun hc => ?_) (fun hc => ?_)
    · replace h := ifp hc h
      refine g_iload_n B 3 dX10_whySeal_24 rfl rfl ?_
      refine g_aload_n B 1 dX10_whySeal_25 rfl rfl ?_
      refine g_iload_n B 0 dX10_whySeal_26 rfl rfl ?_
      refine g_iconst (v := 3) B dX10_whySeal_27 (by decide) ?_
      replace h := bnP_s h
      obtain ⟨x7, h8, h⟩ := h
      refine g_callVs0 (st := [.int v2]) B (cX10_ofActc h8) (Nat.le_of_ble_eq_true rfl) rfl rfl mi_X10_ofAct lk_RX10_138 ⟨Nat.le_of_ble_eq_true rfl, Nat.le_of_ble_eq_true rfl⟩ rfl rfl (Nat.le_of_ble_eq_true rfl) dX10_whySeal_28 (Nat.zero_le _) (Nat.zero_le _) ?_
      refine g_icmp_eq B 36 dX10_whySeal_31 (by decide) (fun hc => ?_) (fun hc => ?_)
      · replace h := ifp hc h
        refine g_aload_n B 1 dX10_whySeal_36 rfl rfl ?_
        refine g_iload_n B 0 dX10_whySeal_37 rfl rfl ?_
        replace h := bnP_s h
        obtain ⟨x9, h10, h⟩ := h
        refine g_callVs0 (st := []) B (cX10_standingc h10) (Nat.le_of_ble_eq_true rfl) rfl rfl mi_X10_standing lk_RX10_343 ⟨Nat.le_of_ble_eq_true rfl, Nat.le_of_ble_eq_true rfl⟩ rfl rfl (Nat.le_of_ble_eq_true rfl) dX10_whySeal_38 (Nat.zero_le _) (Nat.zero_le _) ?_
        refine g_if_ne B 48 dX10_whySeal_41 (by decide) (fun hc => ?_) (fun hc => ?_)
        · replace h := ifn hc h
          refine g_iconst (v := 0) B dX10_whySeal_48 (by decide) ?_
          replace h := Option.some.inj h
          subst h
          exact g_iret B hE (Nat.zero_le _) (Nat.zero_le _) dX10_whySeal_49
        · replace h := ifp hc h
          refine g_iconst (v := 4) B dX10_whySeal_44 (by decide) ?_
          refine g_goto B 49 dX10_whySeal_45 (by decide) ?_
          replace h := Option.some.inj h
          subst h
          exact g_iret B hE (Nat.zero_le _) (Nat.zero_le _) dX10_whySeal_49
      · replace h := ifn hc h
        refine g_iconst (v := 3) B dX10_whySeal_34 (by decide) ?_
        replace h := Option.some.inj h
        subst h
        exact g_iret B hE (Nat.zero_le _) (Nat.zero_le _) dX10_whySeal_35
    · replace h := ifn hc h
      refine g_iconst (v := 2) B dX10_whySeal_22 (by decide) ?_
      replace h := Option.some.inj h
      subst h
      exact g_iret B hE (Nat.zero_le _) (Nat.zero_le _) dX10_whySeal_23
  · replace h := ifp hc h
    refine g_iconst (v := 1) B dX10_whySeal_10 (by decide) ?_
    replace h := Option.some.inj h
    subst h
    exact g_iret B hE (Nat.zero_le _) (Nat.zero_le _) dX10_whySeal_11
set_option maxRecDepth 100000 in
set_option maxHeartbeats 4000000 in
theorem cX10_sealsc {l : Launch} {v0 : Option Nat} {v1 : Int32} {σ : HpT} {r : Int32} {σ' : HpT} (h : fX10_seals v0 v1 σ = some (r, σ')) : IsK σ v0 10 ∧ Ct l yX10_seals cX10_seals 5 (some .int) 3 66 [va_rf v0, .int v1] σ (.ok (some (.int r))) σ' 0 0 := by
  unfold fX10_seals at h
  replace h := bnP_s h
  obtain ⟨u, hk, h⟩ := h
  replace hk := isK_s hk
  refine ⟨hk, ?_⟩
  refine ct_start mi_X10_seals.1 rfl (al_le (al_1 (rf_cat _) (al_1 rfl al_n)) (Nat.le_of_ble_eq_true rfl)) (ag_1 (rf_cat _) (ag_1 rfl ag_n)) (fun Δ Γ B hE hnm => ?_)
  refine g_aload_n B 0 dX10_seals_0 rfl rfl ?_
  replace h := bnP_s h
  obtain ⟨x1, h2, h⟩ := h
  refine g_callVs0 (st := []) B (cX10_openActc h2) (Nat.le_of_ble_eq_true rfl) rfl rfl mi_X10_openAct lk_RX10_179 ⟨Nat.le_of_ble_eq_true rfl, Nat.le_of_ble_eq_true rfl⟩ rfl rfl (Nat.le_of_ble_eq_true rfl) dX10_seals_1 (Nat.zero_le _) (Nat.zero_le _) ?_
  refine g_istore_n B dX10_seals_4 rfl (Nat.le_of_ble_eq_true rfl) (s1_c (f1_k rfl (f1_1 rfl rfl f1_n))) ?_
  refine g_aload_n B 1 dX10_seals_5 rfl rfl ?_
  refine g_iload_n B 0 dX10_seals_6 rfl rfl ?_
  refine g_iconst (v := 0) B dX10_seals_7 (by decide) ?_
  replace h := bnP_s h
  obtain ⟨x3, h4, h⟩ := h
  refine g_callVs0 (st := []) B (cX10_ofActc h4) (Nat.le_of_ble_eq_true rfl) rfl rfl mi_X10_ofAct lk_RX10_138 ⟨Nat.le_of_ble_eq_true rfl, Nat.le_of_ble_eq_true rfl⟩ rfl rfl (Nat.le_of_ble_eq_true rfl) dX10_seals_8 (Nat.zero_le _) (Nat.zero_le _) ?_
  refine g_istore_n B dX10_seals_11 rfl (Nat.le_of_ble_eq_true rfl) (s1_c (f1_1 rfl rfl (f1_k rfl (f1_k rfl f1_n)))) ?_
  refine g_iload_n B 0 dX10_seals_12 rfl rfl ?_
  replace h := bnP_s h
  obtain ⟨j5, h6, h⟩ := h
  have k8 : GW Δ Γ (0) (0) 30 [(0, va_rf v0), (1, .int v1), (2, .int x1)] [.int j5] σ := by
    refine g_aload_n B 0 dX10_seals_30 rfl rfl ?_
    refine g_iload_n B 2 dX10_seals_31 rfl rfl ?_
    replace h := bnP_s h
    obtain ⟨x10, h11, h⟩ := h
    refine g_callVs0 (st := [.int j5]) B (cX10_standingc h11) (Nat.le_of_ble_eq_true rfl) rfl rfl mi_X10_standing lk_RX10_343 ⟨Nat.le_of_ble_eq_true rfl, Nat.le_of_ble_eq_true rfl⟩ rfl rfl (Nat.le_of_ble_eq_true rfl) dX10_seals_32 (Nat.zero_le _) (Nat.zero_le _) ?_
    refine g_iadd B dX10_seals_35 ?_
    refine g_istore B dX10_seals_36 (Nat.le_of_ble_eq_true rfl) (s1_c (f1_k rfl (f1_k rfl (f1_k rfl f1_n)))) ?_
    refine g_aload_n B 1 dX10_seals_38 rfl rfl ?_
    refine g_iload_n B 3 dX10_seals_39 rfl rfl ?_
    refine g_iconst (v := 1) B dX10_seals_40 (by decide) ?_
    refine g_iconst (v := 1) B dX10_seals_41 (by decide) ?_
    replace h := bnP_s h
    obtain ⟨s14, h13, h⟩ := h
    refine g_callVv0 (st := []) B (cX10_putsActc h13) (Nat.le_of_ble_eq_true rfl) rfl rfl mi_X10_putsAct lk_RX10_141 ⟨Nat.le_of_ble_eq_true rfl, Nat.le_of_ble_eq_true rfl⟩ rfl rfl (Nat.le_of_ble_eq_true rfl) dX10_seals_42 (Nat.zero_le _) (Nat.zero_le _) ?_
    refine g_aload_n B 1 dX10_seals_45 rfl rfl ?_
    refine g_iload_n B 3 dX10_seals_46 rfl rfl ?_
    refine g_iconst (v := 2) B dX10_seals_47 (by decide) ?_
    refine g_iload_n B 2 dX10_seals_48 rfl rfl ?_
    replace h := bnP_s h
    obtain ⟨s17, h16, h⟩ := h
    refine g_callVv0 (st := []) B (cX10_putsActc h16) (Nat.le_of_ble_eq_true rfl) rfl rfl mi_X10_putsAct lk_RX10_141 ⟨Nat.le_of_ble_eq_true rfl, Nat.le_of_ble_eq_true rfl⟩ rfl rfl (Nat.le_of_ble_eq_true rfl) dX10_seals_49 (Nat.zero_le _) (Nat.zero_le _) ?_
    refine g_aload_n B 1 dX10_seals_52 rfl rfl ?_
    refine g_iload_n B 3 dX10_seals_53 rfl rfl ?_
    refine g_iconst (v := 4) B dX10_seals_54 (by decide) ?_
    refine g_iload B 0 dX10_seals_55 rfl ?_
    replace h := bnP_s h
    obtain ⟨s20, h19, h⟩ := h
    refine g_callVv0 (st := []) B (cX10_putsActc h19) (Nat.le_of_ble_eq_true rfl) rfl rfl mi_X10_putsAct lk_RX10_141 ⟨Nat.le_of_ble_eq_true rfl, Nat.le_of_ble_eq_true rfl⟩ rfl rfl (Nat.le_of_ble_eq_true rfl) dX10_seals_57 (Nat.zero_le _) (Nat.zero_le _) ?_
    refine g_aload_n B 1 dX10_seals_60 rfl rfl ?_
    replace h := bnP_s h
    obtain ⟨x21, h22, h⟩ := h
    refine g_getR B fl_RX10_9 (by decide) dX10_seals_61 h22 ?_
    refine g_bipush (v := 7) B dX10_seals_64 (by decide) ?_
    refine g_dup2 B dX10_seals_66 rfl (rf_cat _) ?_
    replace h := bnP_s h
    obtain ⟨x23, h24, h⟩ := h
    refine g_iald B dX10_seals_67 h24 ?_
    refine g_iload B 0 dX10_seals_68 rfl ?_
    refine g_iadd B dX10_seals_70 ?_
    replace h := bnP_s h
    obtain ⟨s27, h26, h⟩ := h
    refine g_iast B dX10_seals_71 h26 ?_
    refine g_iload B 0 dX10_seals_72 rfl ?_
    obtain ⟨w1, w2⟩ := inS h
    clear h
    subst w1
    subst w2
    exact g_iret B hE (Nat.zero_le _) (Nat.zero_le _) dX10_seals_74
  clear h
  have h := h6
  clear h6
  refine g_if_ne B 20 dX10_seals_13 (by decide) (fun hc => ?_) (fun hc => ?_)
  · replace h := ifn hc h
    refine g_iload_n B 0 dX10_seals_20 rfl rfl ?_
    refine g_iconst (v := 1) B dX10_seals_21 (by decide) ?_
    refine g_icmp_ne B 29 dX10_seals_22 (by decide) (fun hc => ?_) (fun hc => ?_)
    · replace h := ifn hc h
      refine g_iconst (v := 4) B dX10_seals_29 (by decide) ?_
      replace h := Option.some.inj h
      subst h
      exact g_sub [2, 3, 1] rfl k8
    · replace h := ifp hc h
      refine g_iconst (v := 3) B dX10_seals_25 (by decide) ?_
      refine g_goto B 30 dX10_seals_26 (by decide) ?_
      replace h := Option.some.inj h
      subst h
      exact g_sub [2, 3, 1] rfl k8
  · replace h := ifp hc h
    refine g_iconst (v := 5) B dX10_seals_16 (by decide) ?_
    refine g_goto B 30 dX10_seals_17 (by decide) ?_
    replace h := Option.some.inj h
    subst h
    exact g_sub [2, 3, 1] rfl k8
