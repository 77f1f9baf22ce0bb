theorem clk_13 : Cond.classLink RL 13 (exN 1) ∈ ALLw := (mw (i := 614) (by decide +kernel) rfl)
theorem clk_15 : Cond.classLink RL 15 (exN 2) ∈ ALLw := (mw (i := 615) (by decide +kernel) rfl)
theorem clk_20 : Cond.classLink RL 20 (exN 0) ∈ ALLw := (mw (i := 1092) (by decide +kernel) rfl)
theorem cst_0 : Cond.castable (exN 0) (exN 0) ∈ ALLn := (mn (i := 1103) (by decide +kernel) rfl)
theorem cst_1 : Cond.castable (exN 1) (exN 1) ∈ ALLn := (mn (i := 626) (by decide +kernel) rfl)
theorem cst_2 : Cond.castable (exN 2) (exN 2) ∈ ALLn := (mn (i := 1071) (by decide +kernel) rfl)
theorem miw_L_load : MIW yL_load cL_load 4 (some .int) [(0, 9, 12, 13), (0, 9, 15, 15)] 3 := ⟨by decide +kernel, (mw (i := 613) (by decide +kernel) rfl), (mw (i := 161) (by decide +kernel) rfl), by decide +kernel, by decide +kernel⟩
theorem miw_L_count : MIW yL_count cL_count 4 (some .int) [(0, 9, 12, 20), (0, 9, 15, 15)] 3 := ⟨by decide +kernel, (mw (i := 1091) (by decide +kernel) rfl), (mw (i := 161) (by decide +kernel) rfl), by decide +kernel, by decide +kernel⟩
theorem miw_L_act : MIW yL_act cL_act 5 (some .int) [(0, 10, 13, 20), (0, 10, 17, 13), (0, 10, 21, 15)] 4 := ⟨by decide +kernel, (mw (i := 1144) (by decide +kernel) rfl), (mw (i := 161) (by decide +kernel) rfl), by decide +kernel, by decide +kernel⟩
theorem miw_L_word : MIW yL_word cL_word 6 (some .int) [(0, 12, 15, 20), (0, 12, 19, 13), (0, 12, 23, 15)] 5 := ⟨by decide +kernel, (mw (i := 1170) (by decide +kernel) rfl), (mw (i := 161) (by decide +kernel) rfl), by decide +kernel, by decide +kernel⟩
theorem miw_L_letter : MIW yL_letter cL_letter 6 (some .int) [(0, 12, 15, 20), (0, 12, 19, 13)] 5 := ⟨by decide +kernel, (mw (i := 1188) (by decide +kernel) rfl), (mw (i := 161) (by decide +kernel) rfl), by decide +kernel, by decide +kernel⟩
theorem miw_L_innerLetter : MIW yL_innerLetter cL_innerLetter 7 (some .int) [(0, 14, 17, 20), (0, 14, 21, 13)] 6 := ⟨by decide +kernel, (mw (i := 1198) (by decide +kernel) rfl), (mw (i := 161) (by decide +kernel) rfl), by decide +kernel, by decide +kernel⟩
theorem miw_L_clause : MIW yL_clause cL_clause 6 (some .int) [(0, 12, 15, 20), (0, 12, 19, 13), (0, 12, 23, 15)] 5 := ⟨by decide +kernel, (mw (i := 1209) (by decide +kernel) rfl), (mw (i := 161) (by decide +kernel) rfl), by decide +kernel, by decide +kernel⟩
theorem miw_L_leaf : MIW yL_leaf cL_leaf 5 (some .int) [(0, 10, 13, 20), (0, 10, 17, 13), (0, 10, 21, 15)] 4 := ⟨by decide +kernel, (mw (i := 1219) (by decide +kernel) rfl), (mw (i := 161) (by decide +kernel) rfl), by decide +kernel, by decide +kernel⟩
theorem miw_L_copy : MIW yL_copy cL_copy 5 (some .int) [(0, 10, 13, 20), (0, 10, 17, 13), (0, 10, 21, 15)] 4 := ⟨by decide +kernel, (mw (i := 1251) (by decide +kernel) rfl), (mw (i := 161) (by decide +kernel) rfl), by decide +kernel, by decide +kernel⟩
theorem miw_L_has : MIW yL_has cL_has 5 (some .int) [(0, 17, 20, 20), (0, 17, 24, 13)] 4 := ⟨by decide +kernel, (mw (i := 1268) (by decide +kernel) rfl), (mw (i := 161) (by decide +kernel) rfl), by decide +kernel, by decide +kernel⟩
theorem miw_L_known : MIW yL_known cL_known 4 (some .int) [(0, 9, 12, 20), (0, 9, 15, 13)] 3 := ⟨by decide +kernel, (mw (i := 1276) (by decide +kernel) rfl), (mw (i := 161) (by decide +kernel) rfl), by decide +kernel, by decide +kernel⟩
theorem miw_L_firstUnknown : MIW yL_firstUnknown cL_firstUnknown 4 (some .int) [(0, 9, 12, 20), (0, 9, 15, 13)] 3 := ⟨by decide +kernel, (mw (i := 1283) (by decide +kernel) rfl), (mw (i := 161) (by decide +kernel) rfl), by decide +kernel, by decide +kernel⟩
theorem miw_L_gap : MIW yL_gap cL_gap 3 (some .int) [(0, 8, 11, 20)] 2 := ⟨by decide +kernel, (mw (i := 1290) (by decide +kernel) rfl), (mw (i := 161) (by decide +kernel) rfl), by decide +kernel, by decide +kernel⟩
theorem miw_L_whyNotSeal : MIW yL_whyNotSeal cL_whyNotSeal 5 (some .int) [(0, 10, 13, 20), (0, 10, 17, 15)] 4 := ⟨by decide +kernel, (mw (i := 1321) (by decide +kernel) rfl), (mw (i := 161) (by decide +kernel) rfl), by decide +kernel, by decide +kernel⟩
theorem miw_L_whyNotCopy : MIW yL_whyNotCopy cL_whyNotCopy 5 (some .int) [(0, 10, 13, 20), (0, 10, 17, 13), (0, 10, 21, 15)] 4 := ⟨by decide +kernel, (mw (i := 1329) (by decide +kernel) rfl), (mw (i := 161) (by decide +kernel) rfl), by decide +kernel, by decide +kernel⟩
theorem miw_L_whyNotStrike : MIW yL_whyNotStrike cL_whyNotStrike 4 (some .int) [(0, 9, 12, 20)] 3 := ⟨by decide +kernel, (mw (i := 1337) (by decide +kernel) rfl), (mw (i := 161) (by decide +kernel) rfl), by decide +kernel, by decide +kernel⟩
theorem miw_L_unknownIf : MIW yL_unknownIf cL_unknownIf 4 (some .int) [(0, 9, 12, 20), (0, 9, 15, 13)] 3 := ⟨by decide +kernel, (mw (i := 1345) (by decide +kernel) rfl), (mw (i := 161) (by decide +kernel) rfl), by decide +kernel, by decide +kernel⟩
theorem miw_L_worstLeaf : MIW yL_worstLeaf cL_worstLeaf 3 (some .int) [(0, 8, 11, 20)] 2 := ⟨by decide +kernel, (mw (i := 1356) (by decide +kernel) rfl), (mw (i := 161) (by decide +kernel) rfl), by decide +kernel, by decide +kernel⟩
theorem miw_L_shakenOut : MIW yL_shakenOut cL_shakenOut 3 (some .int) [(0, 8, 11, 20)] 2 := ⟨by decide +kernel, (mw (i := 1363) (by decide +kernel) rfl), (mw (i := 161) (by decide +kernel) rfl), by decide +kernel, by decide +kernel⟩
theorem miw_L_leavesFor : MIW yL_leavesFor cL_leavesFor 4 (some .int) [(0, 9, 12, 20), (0, 9, 15, 15)] 3 := ⟨by decide +kernel, (mw (i := 1378) (by decide +kernel) rfl), (mw (i := 161) (by decide +kernel) rfl), by decide +kernel, by decide +kernel⟩
theorem miw_L_copyWords : MIW yL_copyWords cL_copyWords 5 (some .int) [(0, 10, 13, 20), (0, 10, 17, 13), (0, 10, 21, 15)] 4 := ⟨by decide +kernel, (mw (i := 1386) (by decide +kernel) rfl), (mw (i := 161) (by decide +kernel) rfl), by decide +kernel, by decide +kernel⟩
theorem miw_L_bestCopy : MIW yL_bestCopy cL_bestCopy 4 (some .int) [(0, 9, 12, 20), (0, 9, 15, 13)] 3 := ⟨by decide +kernel, (mw (i := 1394) (by decide +kernel) rfl), (mw (i := 161) (by decide +kernel) rfl), by decide +kernel, by decide +kernel⟩
theorem miw_L_standingIf : MIW yL_standingIf cL_standingIf 5 (some .int) [(0, 10, 13, 20), (0, 10, 17, 15)] 4 := ⟨by decide +kernel, (mw (i := 1405) (by decide +kernel) rfl), (mw (i := 161) (by decide +kernel) rfl), by decide +kernel, by decide +kernel⟩
theorem miw_L_findWord : MIW yL_findWord cL_findWord 4 (some .int) [(0, 9, 12, 20), (0, 9, 15, 13)] 3 := ⟨by decide +kernel, (mw (i := 1416) (by decide +kernel) rfl), (mw (i := 161) (by decide +kernel) rfl), by decide +kernel, by decide +kernel⟩
theorem miw_L_longest : MIW yL_longest cL_longest 4 (some .int) [(0, 9, 12, 20), (0, 9, 15, 13)] 3 := ⟨by decide +kernel, (mw (i := 1441) (by decide +kernel) rfl), (mw (i := 161) (by decide +kernel) rfl), by decide +kernel, by decide +kernel⟩
theorem miw_L_common : MIW yL_common cL_common 5 (some .int) [(0, 10, 13, 20), (0, 10, 17, 13)] 4 := ⟨by decide +kernel, (mw (i := 1448) (by decide +kernel) rfl), (mw (i := 161) (by decide +kernel) rfl), by decide +kernel, by decide +kernel⟩
theorem miw_L_knownShare : MIW yL_knownShare cL_knownShare 3 (some .int) [(0, 8, 11, 20)] 2 := ⟨by decide +kernel, (mw (i := 1456) (by decide +kernel) rfl), (mw (i := 161) (by decide +kernel) rfl), by decide +kernel, by decide +kernel⟩
theorem miw_L_meanWords : MIW yL_meanWords cL_meanWords 3 (some .int) [(0, 7, 10, 20)] 2 := ⟨by decide +kernel, (mw (i := 1463) (by decide +kernel) rfl), (mw (i := 161) (by decide +kernel) rfl), by decide +kernel, by decide +kernel⟩
theorem miw_L_writeAct : MIW yL_writeAct cL_writeAct 4 (some .int) [(0, 9, 12, 20), (0, 9, 15, 13)] 3 := ⟨by decide +kernel, (mw (i := 1474) (by decide +kernel) rfl), (mw (i := 161) (by decide +kernel) rfl), by decide +kernel, by decide +kernel⟩
theorem miw_L_writeStanding : MIW yL_writeStanding cL_writeStanding 4 (some .int) [(0, 9, 12, 20), (0, 9, 15, 13)] 3 := ⟨by decide +kernel, (mw (i := 1769) (by decide +kernel) rfl), (mw (i := 161) (by decide +kernel) rfl), by decide +kernel, by decide +kernel⟩
theorem miw_L_writeLeaf : MIW yL_writeLeaf cL_writeLeaf 4 (some .int) [(0, 9, 12, 20), (0, 9, 15, 13)] 3 := ⟨by decide +kernel, (mw (i := 1784) (by decide +kernel) rfl), (mw (i := 161) (by decide +kernel) rfl), by decide +kernel, by decide +kernel⟩
theorem miw_L_writeCopy : MIW yL_writeCopy cL_writeCopy 4 (some .int) [(0, 9, 12, 20), (0, 9, 15, 13)] 3 := ⟨by decide +kernel, (mw (i := 1801) (by decide +kernel) rfl), (mw (i := 161) (by decide +kernel) rfl), by decide +kernel, by decide +kernel⟩
theorem miw_L_textByte : MIW yL_textByte cL_textByte 4 (some .int) [(0, 9, 12, 13)] 3 := ⟨by decide +kernel, (mw (i := 1808) (by decide +kernel) rfl), (mw (i := 161) (by decide +kernel) rfl), by decide +kernel, by decide +kernel⟩
theorem miw_L_begin : MIW yL_begin cL_begin 5 (some .int) [(0, 10, 13, 20), (0, 10, 17, 13), (0, 10, 21, 15)] 4 := ⟨by decide +kernel, (mw (i := 1826) (by decide +kernel) rfl), (mw (i := 161) (by decide +kernel) rfl), by decide +kernel, by decide +kernel⟩
theorem miw_L_strike : MIW yL_strike cL_strike 4 (some .int) [(0, 9, 12, 20), (0, 9, 15, 15)] 3 := ⟨by decide +kernel, (mw (i := 1866) (by decide +kernel) rfl), (mw (i := 161) (by decide +kernel) rfl), by decide +kernel, by decide +kernel⟩
theorem miw_L_strikeClause : MIW yL_strikeClause cL_strikeClause 4 (some .int) [(0, 9, 12, 20), (0, 9, 15, 15)] 3 := ⟨by decide +kernel, (mw (i := 1875) (by decide +kernel) rfl), (mw (i := 161) (by decide +kernel) rfl), by decide +kernel, by decide +kernel⟩
theorem miw_L_interline : MIW yL_interline cL_interline 5 (some .int) [(0, 10, 13, 20), (0, 10, 17, 13), (0, 10, 21, 15)] 4 := ⟨by decide +kernel, (mw (i := 1884) (by decide +kernel) rfl), (mw (i := 161) (by decide +kernel) rfl), by decide +kernel, by decide +kernel⟩
theorem miw_L_seal : MIW yL_seal cL_seal 5 (some .int) [(0, 10, 13, 20), (0, 10, 17, 15)] 4 := ⟨by decide +kernel, (mw (i := 1894) (by decide +kernel) rfl), (mw (i := 161) (by decide +kernel) rfl), by decide +kernel, by decide +kernel⟩
theorem miw_L_cancel : MIW yL_cancel cL_cancel 3 (some .int) [(0, 8, 11, 20), (0, 8, 14, 15)] 2 := ⟨by decide +kernel, (mw (i := 1903) (by decide +kernel) rfl), (mw (i := 161) (by decide +kernel) rfl), by decide +kernel, by decide +kernel⟩
theorem miw_L_addCopy : MIW yL_addCopy cL_addCopy 5 (some .int) [(0, 10, 13, 20), (0, 10, 17, 13), (0, 10, 21, 15)] 4 := ⟨by decide +kernel, (mw (i := 1912) (by decide +kernel) rfl), (mw (i := 161) (by decide +kernel) rfl), by decide +kernel, by decide +kernel⟩
theorem miw_L_burn : MIW yL_burn cL_burn 4 (some .int) [(0, 9, 12, 20), (0, 9, 15, 13)] 3 := ⟨by decide +kernel, (mw (i := 1921) (by decide +kernel) rfl), (mw (i := 161) (by decide +kernel) rfl), by decide +kernel, by decide +kernel⟩
theorem miw_L_lose : MIW yL_lose cL_lose 4 (some .int) [(0, 9, 12, 20), (0, 9, 15, 13), (0, 9, 18, 15)] 3 := ⟨by decide +kernel, (mw (i := 1932) (by decide +kernel) rfl), (mw (i := 161) (by decide +kernel) rfl), by decide +kernel, by decide +kernel⟩
theorem miw_L_recover : MIW yL_recover cL_recover 4 (some .int) [(0, 9, 12, 20), (0, 9, 15, 13), (0, 9, 18, 15)] 3 := ⟨by decide +kernel, (mw (i := 1945) (by decide +kernel) rfl), (mw (i := 161) (by decide +kernel) rfl), by decide +kernel, by decide +kernel⟩
theorem miw_L_sew : MIW yL_sew cL_sew 4 (some .int) [(0, 9, 12, 20), (0, 9, 15, 13), (0, 9, 18, 15)] 3 := ⟨by decide +kernel, (mw (i := 1953) (by decide +kernel) rfl), (mw (i := 161) (by decide +kernel) rfl), by decide +kernel, by decide +kernel⟩
theorem miw_L_shake : MIW yL_shake cL_shake 3 (some .int) [(0, 8, 11, 20)] 2 := ⟨by decide +kernel, (mw (i := 1962) (by decide +kernel) rfl), (mw (i := 161) (by decide +kernel) rfl), by decide +kernel, by decide +kernel⟩
theorem miw_L_undo : MIW yL_undo cL_undo 3 (some .int) [(0, 8, 11, 20)] 2 := ⟨by decide +kernel, (mw (i := 1969) (by decide +kernel) rfl), (mw (i := 161) (by decide +kernel) rfl), by decide +kernel, by decide +kernel⟩
theorem miw_L_save : MIW yL_save cL_save 4 (some .int) [(0, 9, 12, 20), (0, 9, 15, 13)] 3 := ⟨by decide +kernel, (mw (i := 1977) (by decide +kernel) rfl), (mw (i := 161) (by decide +kernel) rfl), by decide +kernel, by decide +kernel⟩
theorem miw_L_restore : MIW yL_restore cL_restore 4 (some .int) [(0, 9, 12, 13), (0, 9, 15, 20)] 3 := ⟨by decide +kernel, (mw (i := 1988) (by decide +kernel) rfl), (mw (i := 161) (by decide +kernel) rfl), by decide +kernel, by decide +kernel⟩
theorem lk_RL_7 : LV RL 7 yX9_load := ⟨(mw (i := 616) (by decide +kernel) rfl), (mw (i := 617) (by decide +kernel) rfl), (mw (i := 618) (by decide +kernel) rfl)⟩
theorem lk_RL_17 : LV RL 17 yX9_count := ⟨(mw (i := 1093) (by decide +kernel) rfl), (mw (i := 1094) (by decide +kernel) rfl), (mw (i := 1095) (by decide +kernel) rfl)⟩
theorem lk_RL_22 : LV RL 22 yX9_act := ⟨(mw (i := 1145) (by decide +kernel) rfl), (mw (i := 1146) (by decide +kernel) rfl), (mw (i := 1147) (by decide +kernel) rfl)⟩
theorem lk_RL_26 : LV RL 26 yX9_word := ⟨(mw (i := 1171) (by decide +kernel) rfl), (mw (i := 1172) (by decide +kernel) rfl), (mw (i := 1173) (by decide +kernel) rfl)⟩
theorem lk_RL_30 : LV RL 30 yX9_letter := ⟨(mw (i := 1189) (by decide +kernel) rfl), (mw (i := 1190) (by decide +kernel) rfl), (mw (i := 1191) (by decide +kernel) rfl)⟩
theorem lk_RL_33 : LV RL 33 yX9_innerLetter := ⟨(mw (i := 1199) (by decide +kernel) rfl), (mw (i := 1200) (by decide +kernel) rfl), (mw (i := 1201) (by decide +kernel) rfl)⟩
theorem lk_RL_37 : LV RL 37 yX9_clause := ⟨(mw (i := 1210) (by decide +kernel) rfl), (mw (i := 1211) (by decide +kernel) rfl), (mw (i := 1212) (by decide +kernel) rfl)⟩
theorem lk_RL_40 : LV RL 40 yX9_leaf := ⟨(mw (i := 1220) (by decide +kernel) rfl), (mw (i := 1221) (by decide +kernel) rfl), (mw (i := 1222) (by decide +kernel) rfl)⟩
theorem lk_RL_43 : LV RL 43 yX9_copy := ⟨(mw (i := 1252) (by decide +kernel) rfl), (mw (i := 1253) (by decide +kernel) rfl), (mw (i := 1254) (by decide +kernel) rfl)⟩
theorem lk_RL_46 : LV RL 46 yX9_has := ⟨(mw (i := 1269) (by decide +kernel) rfl), (mw (i := 1270) (by decide +kernel) rfl), (mw (i := 1271) (by decide +kernel) rfl)⟩
theorem lk_RL_50 : LV RL 50 yX9_known := ⟨(mw (i := 1277) (by decide +kernel) rfl), (mw (i := 1278) (by decide +kernel) rfl), (mw (i := 1279) (by decide +kernel) rfl)⟩
theorem lk_RL_53 : LV RL 53 yX9_firstUnknown := ⟨(mw (i := 1284) (by decide +kernel) rfl), (mw (i := 1285) (by decide +kernel) rfl), (mw (i := 1286) (by decide +kernel) rfl)⟩
theorem lk_RL_56 : LV RL 56 yX9_gap := ⟨(mw (i := 1291) (by decide +kernel) rfl), (mw (i := 1292) (by decide +kernel) rfl), (mw (i := 1293) (by decide +kernel) rfl)⟩
theorem lk_RL_60 : LV RL 60 yX9_whyNotSeal := ⟨(mw (i := 1322) (by decide +kernel) rfl), (mw (i := 1323) (by decide +kernel) rfl), (mw (i := 1324) (by decide +kernel) rfl)⟩
theorem lk_RL_63 : LV RL 63 yX9_whyNotCopy := ⟨(mw (i := 1330) (by decide +kernel) rfl), (mw (i := 1331) (by decide +kernel) rfl), (mw (i := 1332) (by decide +kernel) rfl)⟩
theorem lk_RL_66 : LV RL 66 yX9_whyNotStrike := ⟨(mw (i := 1338) (by decide +kernel) rfl), (mw (i := 1339) (by decide +kernel) rfl), (mw (i := 1340) (by decide +kernel) rfl)⟩
theorem lk_RL_69 : LV RL 69 yX9_unknownIf := ⟨(mw (i := 1346) (by decide +kernel) rfl), (mw (i := 1347) (by decide +kernel) rfl), (mw (i := 1348) (by decide +kernel) rfl)⟩
theorem lk_RL_72 : LV RL 72 yX9_worstLeaf := ⟨(mw (i := 1357) (by decide +kernel) rfl), (mw (i := 1358) (by decide +kernel) rfl), (mw (i := 1359) (by decide +kernel) rfl)⟩
theorem lk_RL_75 : LV RL 75 yX9_shakenOut := ⟨(mw (i := 1364) (by decide +kernel) rfl), (mw (i := 1365) (by decide +kernel) rfl), (mw (i := 1366) (by decide +kernel) rfl)⟩
theorem lk_RL_78 : LV RL 78 yX9_leavesFor := ⟨(mw (i := 1379) (by decide +kernel) rfl), (mw (i := 1380) (by decide +kernel) rfl), (mw (i := 1381) (by decide +kernel) rfl)⟩
theorem lk_RL_81 : LV RL 81 yX9_copyWords := ⟨(mw (i := 1387) (by decide +kernel) rfl), (mw (i := 1388) (by decide +kernel) rfl), (mw (i := 1389) (by decide +kernel) rfl)⟩
theorem lk_RL_84 : LV RL 84 yX9_bestCopy := ⟨(mw (i := 1395) (by decide +kernel) rfl), (mw (i := 1396) (by decide +kernel) rfl), (mw (i := 1397) (by decide +kernel) rfl)⟩
theorem lk_RL_87 : LV RL 87 yX9_standingIf := ⟨(mw (i := 1406) (by decide +kernel) rfl), (mw (i := 1407) (by decide +kernel) rfl), (mw (i := 1408) (by decide +kernel) rfl)⟩
theorem lk_RL_91 : LV RL 91 yX9_findWord := ⟨(mw (i := 1417) (by decide +kernel) rfl), (mw (i := 1418) (by decide +kernel) rfl), (mw (i := 1419) (by decide +kernel) rfl)⟩
theorem lk_RL_94 : LV RL 94 yX9_longest := ⟨(mw (i := 1442) (by decide +kernel) rfl), (mw (i := 1443) (by decide +kernel) rfl), (mw (i := 1444) (by decide +kernel) rfl)⟩
theorem lk_RL_97 : LV RL 97 yX9_common := ⟨(mw (i := 1449) (by decide +kernel) rfl), (mw (i := 1450) (by decide +kernel) rfl), (mw (i := 1451) (by decide +kernel) rfl)⟩
theorem lk_RL_100 : LV RL 100 yX9_knownShare := ⟨(mw (i := 1457) (by decide +kernel) rfl), (mw (i := 1458) (by decide +kernel) rfl), (mw (i := 1459) (by decide +kernel) rfl)⟩
theorem lk_RL_104 : LV RL 104 yX9_meanWords := ⟨(mw (i := 1464) (by decide +kernel) rfl), (mw (i := 1465) (by decide +kernel) rfl), (mw (i := 1466) (by decide +kernel) rfl)⟩
theorem lk_RL_108 : LV RL 108 yX9_writeAct := ⟨(mw (i := 1475) (by decide +kernel) rfl), (mw (i := 1476) (by decide +kernel) rfl), (mw (i := 1477) (by decide +kernel) rfl)⟩
theorem lk_RL_111 : LV RL 111 yX9_writeStanding := ⟨(mw (i := 1770) (by decide +kernel) rfl), (mw (i := 1771) (by decide +kernel) rfl), (mw (i := 1772) (by decide +kernel) rfl)⟩
theorem lk_RL_114 : LV RL 114 yX9_writeLeaf := ⟨(mw (i := 1785) (by decide +kernel) rfl), (mw (i := 1786) (by decide +kernel) rfl), (mw (i := 1787) (by decide +kernel) rfl)⟩
theorem lk_RL_117 : LV RL 117 yX9_writeCopy := ⟨(mw (i := 1802) (by decide +kernel) rfl), (mw (i := 1803) (by decide +kernel) rfl), (mw (i := 1804) (by decide +kernel) rfl)⟩
theorem lk_RL_120 : LV RL 120 yX9_textByte := ⟨(mw (i := 1809) (by decide +kernel) rfl), (mw (i := 1810) (by decide +kernel) rfl), (mw (i := 1811) (by decide +kernel) rfl)⟩
theorem lk_RL_123 : LV RL 123 yX9_begin := ⟨(mw (i := 1827) (by decide +kernel) rfl), (mw (i := 1828) (by decide +kernel) rfl), (mw (i := 1829) (by decide +kernel) rfl)⟩
theorem lk_RL_126 : LV RL 126 yX9_strike := ⟨(mw (i := 1867) (by decide +kernel) rfl), (mw (i := 1868) (by decide +kernel) rfl), (mw (i := 1869) (by decide +kernel) rfl)⟩
theorem lk_RL_129 : LV RL 129 yX9_strikeClause := ⟨(mw (i := 1876) (by decide +kernel) rfl), (mw (i := 1877) (by decide +kernel) rfl), (mw (i := 1878) (by decide +kernel) rfl)⟩
theorem lk_RL_132 : LV RL 132 yX9_interline := ⟨(mw (i := 1885) (by decide +kernel) rfl), (mw (i := 1886) (by decide +kernel) rfl), (mw (i := 1887) (by decide +kernel) rfl)⟩
theorem lk_RL_135 : LV RL 135 yX9_seal := ⟨(mw (i := 1895) (by decide +kernel) rfl), (mw (i := 1896) (by decide +kernel) rfl), (mw (i := 1897) (by decide +kernel) rfl)⟩
theorem lk_RL_138 : LV RL 138 yX9_cancel := ⟨(mw (i := 1904) (by decide +kernel) rfl), (mw (i := 1905) (by decide +kernel) rfl), (mw (i := 1906) (by decide +kernel) rfl)⟩
theorem lk_RL_141 : LV RL 141 yX9_addCopy := ⟨(mw (i := 1913) (by decide +kernel) rfl), (mw (i := 1914) (by decide +kernel) rfl), (mw (i := 1915) (by decide +kernel) rfl)⟩
theorem lk_RL_144 : LV RL 144 yX9_burn := ⟨(mw (i := 1922) (by decide +kernel) rfl), (mw (i := 1923) (by decide +kernel) rfl), (mw (i := 1924) (by decide +kernel) rfl)⟩
theorem lk_RL_147 : LV RL 147 yX9_lose := ⟨(mw (i := 1933) (by decide +kernel) rfl), (mw (i := 1934) (by decide +kernel) rfl), (mw (i := 1935) (by decide +kernel) rfl)⟩
theorem lk_RL_150 : LV RL 150 yX9_recover := ⟨(mw (i := 1946) (by decide +kernel) rfl), (mw (i := 1947) (by decide +kernel) rfl), (mw (i := 1948) (by decide +kernel) rfl)⟩
theorem lk_RL_153 : LV RL 153 yX9_sew := ⟨(mw (i := 1954) (by decide +kernel) rfl), (mw (i := 1955) (by decide +kernel) rfl), (mw (i := 1956) (by decide +kernel) rfl)⟩
theorem lk_RL_156 : LV RL 156 yX9_shake := ⟨(mw (i := 1963) (by decide +kernel) rfl), (mw (i := 1964) (by decide +kernel) rfl), (mw (i := 1965) (by decide +kernel) rfl)⟩
theorem lk_RL_159 : LV RL 159 yX9_undo := ⟨(mw (i := 1970) (by decide +kernel) rfl), (mw (i := 1971) (by decide +kernel) rfl), (mw (i := 1972) (by decide +kernel) rfl)⟩
theorem lk_RL_162 : LV RL 162 yX9_save := ⟨(mw (i := 1978) (by decide +kernel) rfl), (mw (i := 1979) (by decide +kernel) rfl), (mw (i := 1980) (by decide +kernel) rfl)⟩
theorem lk_RL_165 : LV RL 165 yX9_restore := ⟨(mw (i := 1989) (by decide +kernel) rfl), (mw (i := 1990) (by decide +kernel) rfl), (mw (i := 1991) (by decide +kernel) rfl)⟩
theorem dL_load_0 : decode cL_load 0 = .ok (.aload_n 2, 1) := by decide +kernel
theorem dL_load_1 : decode cL_load 1 = .ok (.iconst 0, 1) := by decide +kernel
theorem dL_load_2 : decode cL_load 2 = .ok (.aload_n 0, 1) := by decide +kernel
theorem dL_load_3 : decode cL_load 3 = .ok (.iload_n 1, 1) := by decide +kernel
theorem dL_load_4 : decode cL_load 4 = .ok (.invokevirtual 7, 3) := by decide +kernel
theorem dL_load_7 : decode cL_load 7 = .ok (.i2l, 1) := by decide +kernel
theorem dL_load_8 : decode cL_load 8 = .ok (.lastore, 1) := by decide +kernel
theorem dL_load_9 : decode cL_load 9 = .ok (.goto 9, 3) := by decide +kernel
theorem dL_load_12 : decode cL_load 12 = .ok (.astore_n 3, 1) := by decide +kernel
theorem dL_load_13 : decode cL_load 13 = .ok (.iconst 1, 1) := by decide +kernel
theorem dL_load_14 : decode cL_load 14 = .ok (.ireturn, 1) := by decide +kernel
theorem dL_load_15 : decode cL_load 15 = .ok (.astore_n 3, 1) := by decide +kernel
theorem dL_load_16 : decode cL_load 16 = .ok (.iconst 2, 1) := by decide +kernel
theorem dL_load_17 : decode cL_load 17 = .ok (.ireturn, 1) := by decide +kernel
theorem dL_load_18 : decode cL_load 18 = .ok (.iconst 0, 1) := by decide +kernel
theorem dL_load_19 : decode cL_load 19 = .ok (.ireturn, 1) := by decide +kernel
theorem dL_count_0 : decode cL_count 0 = .ok (.aload_n 2, 1) := by decide +kernel
theorem dL_count_1 : decode cL_count 1 = .ok (.iconst 0, 1) := by decide +kernel
theorem dL_count_2 : decode cL_count 2 = .ok (.aload_n 0, 1) := by decide +kernel
theorem dL_count_3 : decode cL_count 3 = .ok (.iload_n 1, 1) := by decide +kernel
theorem dL_count_4 : decode cL_count 4 = .ok (.invokevirtual 17, 3) := by decide +kernel
theorem dL_count_7 : decode cL_count 7 = .ok (.i2l, 1) := by decide +kernel
theorem dL_count_8 : decode cL_count 8 = .ok (.lastore, 1) := by decide +kernel
theorem dL_count_9 : decode cL_count 9 = .ok (.goto 9, 3) := by decide +kernel
theorem dL_count_12 : decode cL_count 12 = .ok (.astore_n 3, 1) := by decide +kernel
theorem dL_count_13 : decode cL_count 13 = .ok (.iconst 1, 1) := by decide +kernel
theorem dL_count_14 : decode cL_count 14 = .ok (.ireturn, 1) := by decide +kernel
theorem dL_count_15 : decode cL_count 15 = .ok (.astore_n 3, 1) := by decide +kernel
theorem dL_count_16 : decode cL_count 16 = .ok (.iconst 2, 1) := by decide +kernel
theorem dL_count_17 : decode cL_count 17 = .ok (.ireturn, 1) := by decide +kernel
theorem dL_count_18 : decode cL_count 18 = .ok (.iconst 0, 1) := by decide +kernel
theorem dL_count_19 : decode cL_count 19 = .ok (.ireturn, 1) := by decide +kernel
theorem dL_act_0 : decode cL_act 0 = .ok (.aload_n 3, 1) := by decide +kernel
theorem dL_act_1 : decode cL_act 1 = .ok (.iconst 0, 1) := by decide +kernel
theorem dL_act_2 : decode cL_act 2 = .ok (.aload_n 0, 1) := by decide +kernel
theorem dL_act_3 : decode cL_act 3 = .ok (.iload_n 1, 1) := by decide +kernel
theorem dL_act_4 : decode cL_act 4 = .ok (.iload_n 2, 1) := by decide +kernel
theorem dL_act_5 : decode cL_act 5 = .ok (.invokevirtual 22, 3) := by decide +kernel
theorem dL_act_8 : decode cL_act 8 = .ok (.i2l, 1) := by decide +kernel
theorem dL_act_9 : decode cL_act 9 = .ok (.lastore, 1) := by decide +kernel
theorem dL_act_10 : decode cL_act 10 = .ok (.goto 15, 3) := by decide +kernel
theorem dL_act_13 : decode cL_act 13 = .ok (.astore 4, 2) := by decide +kernel
theorem dL_act_15 : decode cL_act 15 = .ok (.iconst 1, 1) := by decide +kernel
theorem dL_act_16 : decode cL_act 16 = .ok (.ireturn, 1) := by decide +kernel
theorem dL_act_17 : decode cL_act 17 = .ok (.astore 4, 2) := by decide +kernel
theorem dL_act_19 : decode cL_act 19 = .ok (.iconst 2, 1) := by decide +kernel
theorem dL_act_20 : decode cL_act 20 = .ok (.ireturn, 1) := by decide +kernel
theorem dL_act_21 : decode cL_act 21 = .ok (.astore 4, 2) := by decide +kernel
theorem dL_act_23 : decode cL_act 23 = .ok (.iconst 3, 1) := by decide +kernel
theorem dL_act_24 : decode cL_act 24 = .ok (.ireturn, 1) := by decide +kernel
theorem dL_act_25 : decode cL_act 25 = .ok (.iconst 0, 1) := by decide +kernel
theorem dL_act_26 : decode cL_act 26 = .ok (.ireturn, 1) := by decide +kernel
theorem dL_word_0 : decode cL_word 0 = .ok (.aload 4, 2) := by decide +kernel
theorem dL_word_2 : decode cL_word 2 = .ok (.iconst 0, 1) := by decide +kernel
theorem dL_word_3 : decode cL_word 3 = .ok (.aload_n 0, 1) := by decide +kernel
theorem dL_word_4 : decode cL_word 4 = .ok (.iload_n 1, 1) := by decide +kernel
theorem dL_word_5 : decode cL_word 5 = .ok (.iload_n 2, 1) := by decide +kernel
theorem dL_word_6 : decode cL_word 6 = .ok (.iload_n 3, 1) := by decide +kernel
theorem dL_word_7 : decode cL_word 7 = .ok (.invokevirtual 26, 3) := by decide +kernel
theorem dL_word_10 : decode cL_word 10 = .ok (.i2l, 1) := by decide +kernel
theorem dL_word_11 : decode cL_word 11 = .ok (.lastore, 1) := by decide +kernel
theorem dL_word_12 : decode cL_word 12 = .ok (.goto 15, 3) := by decide +kernel
theorem dL_word_15 : decode cL_word 15 = .ok (.astore 5, 2) := by decide +kernel
theorem dL_word_17 : decode cL_word 17 = .ok (.iconst 1, 1) := by decide +kernel
theorem dL_word_18 : decode cL_word 18 = .ok (.ireturn, 1) := by decide +kernel
theorem dL_word_19 : decode cL_word 19 = .ok (.astore 5, 2) := by decide +kernel
theorem dL_word_21 : decode cL_word 21 = .ok (.iconst 2, 1) := by decide +kernel
theorem dL_word_22 : decode cL_word 22 = .ok (.ireturn, 1) := by decide +kernel
theorem dL_word_23 : decode cL_word 23 = .ok (.astore 5, 2) := by decide +kernel
theorem dL_word_25 : decode cL_word 25 = .ok (.iconst 3, 1) := by decide +kernel
theorem dL_word_26 : decode cL_word 26 = .ok (.ireturn, 1) := by decide +kernel
theorem dL_word_27 : decode cL_word 27 = .ok (.iconst 0, 1) := by decide +kernel
theorem dL_word_28 : decode cL_word 28 = .ok (.ireturn, 1) := by decide +kernel
theorem dL_letter_0 : decode cL_letter 0 = .ok (.aload 4, 2) := by decide +kernel
theorem dL_letter_2 : decode cL_letter 2 = .ok (.iconst 0, 1) := by decide +kernel
theorem dL_letter_3 : decode cL_letter 3 = .ok (.aload_n 0, 1) := by decide +kernel
theorem dL_letter_4 : decode cL_letter 4 = .ok (.iload_n 1, 1) := by decide +kernel
theorem dL_letter_5 : decode cL_letter 5 = .ok (.iload_n 2, 1) := by decide +kernel
theorem dL_letter_6 : decode cL_letter 6 = .ok (.iload_n 3, 1) := by decide +kernel
theorem dL_letter_7 : decode cL_letter 7 = .ok (.invokevirtual 30, 3) := by decide +kernel
theorem dL_letter_10 : decode cL_letter 10 = .ok (.i2l, 1) := by decide +kernel
theorem dL_letter_11 : decode cL_letter 11 = .ok (.lastore, 1) := by decide +kernel
theorem dL_letter_12 : decode cL_letter 12 = .ok (.goto 11, 3) := by decide +kernel
theorem dL_letter_15 : decode cL_letter 15 = .ok (.astore 5, 2) := by decide +kernel
theorem dL_letter_17 : decode cL_letter 17 = .ok (.iconst 1, 1) := by decide +kernel
theorem dL_letter_18 : decode cL_letter 18 = .ok (.ireturn, 1) := by decide +kernel
theorem dL_letter_19 : decode cL_letter 19 = .ok (.astore 5, 2) := by decide +kernel
theorem dL_letter_21 : decode cL_letter 21 = .ok (.iconst 2, 1) := by decide +kernel
theorem dL_letter_22 : decode cL_letter 22 = .ok (.ireturn, 1) := by decide +kernel
theorem dL_letter_23 : decode cL_letter 23 = .ok (.iconst 0, 1) := by decide +kernel
theorem dL_letter_24 : decode cL_letter 24 = .ok (.ireturn, 1) := by decide +kernel
theorem dL_innerLetter_0 : decode cL_innerLetter 0 = .ok (.aload 5, 2) := by decide +kernel
theorem dL_innerLetter_2 : decode cL_innerLetter 2 = .ok (.iconst 0, 1) := by decide +kernel
theorem dL_innerLetter_3 : decode cL_innerLetter 3 = .ok (.aload_n 0, 1) := by decide +kernel
theorem dL_innerLetter_4 : decode cL_innerLetter 4 = .ok (.iload_n 1, 1) := by decide +kernel
theorem dL_innerLetter_5 : decode cL_innerLetter 5 = .ok (.iload_n 2, 1) := by decide +kernel
theorem dL_innerLetter_6 : decode cL_innerLetter 6 = .ok (.iload_n 3, 1) := by decide +kernel
theorem dL_innerLetter_7 : decode cL_innerLetter 7 = .ok (.iload 4, 2) := by decide +kernel
theorem dL_innerLetter_9 : decode cL_innerLetter 9 = .ok (.invokevirtual 33, 3) := by decide +kernel
theorem dL_innerLetter_12 : decode cL_innerLetter 12 = .ok (.i2l, 1) := by decide +kernel
theorem dL_innerLetter_13 : decode cL_innerLetter 13 = .ok (.lastore, 1) := by decide +kernel
theorem dL_innerLetter_14 : decode cL_innerLetter 14 = .ok (.goto 11, 3) := by decide +kernel
theorem dL_innerLetter_17 : decode cL_innerLetter 17 = .ok (.astore 6, 2) := by decide +kernel
theorem dL_innerLetter_19 : decode cL_innerLetter 19 = .ok (.iconst 1, 1) := by decide +kernel
theorem dL_innerLetter_20 : decode cL_innerLetter 20 = .ok (.ireturn, 1) := by decide +kernel
theorem dL_innerLetter_21 : decode cL_innerLetter 21 = .ok (.astore 6, 2) := by decide +kernel
theorem dL_innerLetter_23 : decode cL_innerLetter 23 = .ok (.iconst 2, 1) := by decide +kernel
theorem dL_innerLetter_24 : decode cL_innerLetter 24 = .ok (.ireturn, 1) := by decide +kernel
theorem dL_innerLetter_25 : decode cL_innerLetter 25 = .ok (.iconst 0, 1) := by decide +kernel
theorem dL_innerLetter_26 : decode cL_innerLetter 26 = .ok (.ireturn, 1) := by decide +kernel
theorem dL_clause_0 : decode cL_clause 0 = .ok (.aload 4, 2) := by decide +kernel
theorem dL_clause_2 : decode cL_clause 2 = .ok (.iconst 0, 1) := by decide +kernel
theorem dL_clause_3 : decode cL_clause 3 = .ok (.aload_n 0, 1) := by decide +kernel
theorem dL_clause_4 : decode cL_clause 4 = .ok (.iload_n 1, 1) := by decide +kernel
theorem dL_clause_5 : decode cL_clause 5 = .ok (.iload_n 2, 1) := by decide +kernel
theorem dL_clause_6 : decode cL_clause 6 = .ok (.iload_n 3, 1) := by decide +kernel
theorem dL_clause_7 : decode cL_clause 7 = .ok (.invokevirtual 37, 3) := by decide +kernel
theorem dL_clause_10 : decode cL_clause 10 = .ok (.i2l, 1) := by decide +kernel
theorem dL_clause_11 : decode cL_clause 11 = .ok (.lastore, 1) := by decide +kernel
theorem dL_clause_12 : decode cL_clause 12 = .ok (.goto 15, 3) := by decide +kernel
theorem dL_clause_15 : decode cL_clause 15 = .ok (.astore 5, 2) := by decide +kernel
theorem dL_clause_17 : decode cL_clause 17 = .ok (.iconst 1, 1) := by decide +kernel
theorem dL_clause_18 : decode cL_clause 18 = .ok (.ireturn, 1) := by decide +kernel
theorem dL_clause_19 : decode cL_clause 19 = .ok (.astore 5, 2) := by decide +kernel
theorem dL_clause_21 : decode cL_clause 21 = .ok (.iconst 2, 1) := by decide +kernel
theorem dL_clause_22 : decode cL_clause 22 = .ok (.ireturn, 1) := by decide +kernel
theorem dL_clause_23 : decode cL_clause 23 = .ok (.astore 5, 2) := by decide +kernel
theorem dL_clause_25 : decode cL_clause 25 = .ok (.iconst 3, 1) := by decide +kernel
theorem dL_clause_26 : decode cL_clause 26 = .ok (.ireturn, 1) := by decide +kernel
theorem dL_clause_27 : decode cL_clause 27 = .ok (.iconst 0, 1) := by decide +kernel
theorem dL_clause_28 : decode cL_clause 28 = .ok (.ireturn, 1) := by decide +kernel
theorem dL_leaf_0 : decode cL_leaf 0 = .ok (.aload_n 3, 1) := by decide +kernel
theorem dL_leaf_1 : decode cL_leaf 1 = .ok (.iconst 0, 1) := by decide +kernel
theorem dL_leaf_2 : decode cL_leaf 2 = .ok (.aload_n 0, 1) := by decide +kernel
theorem dL_leaf_3 : decode cL_leaf 3 = .ok (.iload_n 1, 1) := by decide +kernel
theorem dL_leaf_4 : decode cL_leaf 4 = .ok (.iload_n 2, 1) := by decide +kernel
theorem dL_leaf_5 : decode cL_leaf 5 = .ok (.invokevirtual 40, 3) := by decide +kernel
theorem dL_leaf_8 : decode cL_leaf 8 = .ok (.i2l, 1) := by decide +kernel
theorem dL_leaf_9 : decode cL_leaf 9 = .ok (.lastore, 1) := by decide +kernel
theorem dL_leaf_10 : decode cL_leaf 10 = .ok (.goto 15, 3) := by decide +kernel
theorem dL_leaf_13 : decode cL_leaf 13 = .ok (.astore 4, 2) := by decide +kernel
theorem dL_leaf_15 : decode cL_leaf 15 = .ok (.iconst 1, 1) := by decide +kernel
theorem dL_leaf_16 : decode cL_leaf 16 = .ok (.ireturn, 1) := by decide +kernel
theorem dL_leaf_17 : decode cL_leaf 17 = .ok (.astore 4, 2) := by decide +kernel
theorem dL_leaf_19 : decode cL_leaf 19 = .ok (.iconst 2, 1) := by decide +kernel
theorem dL_leaf_20 : decode cL_leaf 20 = .ok (.ireturn, 1) := by decide +kernel
theorem dL_leaf_21 : decode cL_leaf 21 = .ok (.astore 4, 2) := by decide +kernel
theorem dL_leaf_23 : decode cL_leaf 23 = .ok (.iconst 3, 1) := by decide +kernel
theorem dL_leaf_24 : decode cL_leaf 24 = .ok (.ireturn, 1) := by decide +kernel
theorem dL_leaf_25 : decode cL_leaf 25 = .ok (.iconst 0, 1) := by decide +kernel
theorem dL_leaf_26 : decode cL_leaf 26 = .ok (.ireturn, 1) := by decide +kernel
theorem dL_copy_0 : decode cL_copy 0 = .ok (.aload_n 3, 1) := by decide +kernel
theorem dL_copy_1 : decode cL_copy 1 = .ok (.iconst 0, 1) := by decide +kernel
theorem dL_copy_2 : decode cL_copy 2 = .ok (.aload_n 0, 1) := by decide +kernel
theorem dL_copy_3 : decode cL_copy 3 = .ok (.iload_n 1, 1) := by decide +kernel
theorem dL_copy_4 : decode cL_copy 4 = .ok (.iload_n 2, 1) := by decide +kernel
theorem dL_copy_5 : decode cL_copy 5 = .ok (.invokevirtual 43, 3) := by decide +kernel
theorem dL_copy_8 : decode cL_copy 8 = .ok (.i2l, 1) := by decide +kernel
theorem dL_copy_9 : decode cL_copy 9 = .ok (.lastore, 1) := by decide +kernel
theorem dL_copy_10 : decode cL_copy 10 = .ok (.goto 15, 3) := by decide +kernel
theorem dL_copy_13 : decode cL_copy 13 = .ok (.astore 4, 2) := by decide +kernel
theorem dL_copy_15 : decode cL_copy 15 = .ok (.iconst 1, 1) := by decide +kernel
theorem dL_copy_16 : decode cL_copy 16 = .ok (.ireturn, 1) := by decide +kernel
theorem dL_copy_17 : decode cL_copy 17 = .ok (.astore 4, 2) := by decide +kernel
theorem dL_copy_19 : decode cL_copy 19 = .ok (.iconst 2, 1) := by decide +kernel
theorem dL_copy_20 : decode cL_copy 20 = .ok (.ireturn, 1) := by decide +kernel
theorem dL_copy_21 : decode cL_copy 21 = .ok (.astore 4, 2) := by decide +kernel
theorem dL_copy_23 : decode cL_copy 23 = .ok (.iconst 3, 1) := by decide +kernel
theorem dL_copy_24 : decode cL_copy 24 = .ok (.ireturn, 1) := by decide +kernel
theorem dL_copy_25 : decode cL_copy 25 = .ok (.iconst 0, 1) := by decide +kernel
theorem dL_copy_26 : decode cL_copy 26 = .ok (.ireturn, 1) := by decide +kernel
theorem dL_has_0 : decode cL_has 0 = .ok (.aload_n 3, 1) := by decide +kernel
theorem dL_has_1 : decode cL_has 1 = .ok (.iconst 0, 1) := by decide +kernel
theorem dL_has_2 : decode cL_has 2 = .ok (.aload_n 0, 1) := by decide +kernel
theorem dL_has_3 : decode cL_has 3 = .ok (.iload_n 1, 1) := by decide +kernel
theorem dL_has_4 : decode cL_has 4 = .ok (.iload_n 2, 1) := by decide +kernel
theorem dL_has_5 : decode cL_has 5 = .ok (.invokevirtual 46, 3) := by decide +kernel
theorem dL_has_8 : decode cL_has 8 = .ok (.ifCond .eq 7, 3) := by decide +kernel
theorem dL_has_11 : decode cL_has 11 = .ok (.lconst 1, 1) := by decide +kernel
theorem dL_has_12 : decode cL_has 12 = .ok (.goto 4, 3) := by decide +kernel
theorem dL_has_15 : decode cL_has 15 = .ok (.lconst 0, 1) := by decide +kernel
theorem dL_has_16 : decode cL_has 16 = .ok (.lastore, 1) := by decide +kernel
theorem dL_has_17 : decode cL_has 17 = .ok (.goto 11, 3) := by decide +kernel
theorem dL_has_20 : decode cL_has 20 = .ok (.astore 4, 2) := by decide +kernel
theorem dL_has_22 : decode cL_has 22 = .ok (.iconst 1, 1) := by decide +kernel
theorem dL_has_23 : decode cL_has 23 = .ok (.ireturn, 1) := by decide +kernel
theorem dL_has_24 : decode cL_has 24 = .ok (.astore 4, 2) := by decide +kernel
theorem dL_has_26 : decode cL_has 26 = .ok (.iconst 2, 1) := by decide +kernel
theorem dL_has_27 : decode cL_has 27 = .ok (.ireturn, 1) := by decide +kernel
theorem dL_has_28 : decode cL_has 28 = .ok (.iconst 0, 1) := by decide +kernel
theorem dL_has_29 : decode cL_has 29 = .ok (.ireturn, 1) := by decide +kernel
theorem dL_known_0 : decode cL_known 0 = .ok (.aload_n 2, 1) := by decide +kernel
theorem dL_known_1 : decode cL_known 1 = .ok (.iconst 0, 1) := by decide +kernel
theorem dL_known_2 : decode cL_known 2 = .ok (.aload_n 0, 1) := by decide +kernel
theorem dL_known_3 : decode cL_known 3 = .ok (.iload_n 1, 1) := by decide +kernel
theorem dL_known_4 : decode cL_known 4 = .ok (.invokevirtual 50, 3) := by decide +kernel
theorem dL_known_7 : decode cL_known 7 = .ok (.i2l, 1) := by decide +kernel
theorem dL_known_8 : decode cL_known 8 = .ok (.lastore, 1) := by decide +kernel
theorem dL_known_9 : decode cL_known 9 = .ok (.goto 9, 3) := by decide +kernel
theorem dL_known_12 : decode cL_known 12 = .ok (.astore_n 3, 1) := by decide +kernel
theorem dL_known_13 : decode cL_known 13 = .ok (.iconst 1, 1) := by decide +kernel
theorem dL_known_14 : decode cL_known 14 = .ok (.ireturn, 1) := by decide +kernel
theorem dL_known_15 : decode cL_known 15 = .ok (.astore_n 3, 1) := by decide +kernel
theorem dL_known_16 : decode cL_known 16 = .ok (.iconst 2, 1) := by decide +kernel
theorem dL_known_17 : decode cL_known 17 = .ok (.ireturn, 1) := by decide +kernel
theorem dL_known_18 : decode cL_known 18 = .ok (.iconst 0, 1) := by decide +kernel
theorem dL_known_19 : decode cL_known 19 = .ok (.ireturn, 1) := by decide +kernel
theorem dL_firstUnknown_0 : decode cL_firstUnknown 0 = .ok (.aload_n 2, 1) := by decide +kernel
theorem dL_firstUnknown_1 : decode cL_firstUnknown 1 = .ok (.iconst 0, 1) := by decide +kernel
theorem dL_firstUnknown_2 : decode cL_firstUnknown 2 = .ok (.aload_n 0, 1) := by decide +kernel
theorem dL_firstUnknown_3 : decode cL_firstUnknown 3 = .ok (.iload_n 1, 1) := by decide +kernel
theorem dL_firstUnknown_4 : decode cL_firstUnknown 4 = .ok (.invokevirtual 53, 3) := by decide +kernel
theorem dL_firstUnknown_7 : decode cL_firstUnknown 7 = .ok (.i2l, 1) := by decide +kernel
theorem dL_firstUnknown_8 : decode cL_firstUnknown 8 = .ok (.lastore, 1) := by decide +kernel
theorem dL_firstUnknown_9 : decode cL_firstUnknown 9 = .ok (.goto 9, 3) := by decide +kernel
theorem dL_firstUnknown_12 : decode cL_firstUnknown 12 = .ok (.astore_n 3, 1) := by decide +kernel
theorem dL_firstUnknown_13 : decode cL_firstUnknown 13 = .ok (.iconst 1, 1) := by decide +kernel
theorem dL_firstUnknown_14 : decode cL_firstUnknown 14 = .ok (.ireturn, 1) := by decide +kernel
theorem dL_firstUnknown_15 : decode cL_firstUnknown 15 = .ok (.astore_n 3, 1) := by decide +kernel
theorem dL_firstUnknown_16 : decode cL_firstUnknown 16 = .ok (.iconst 2, 1) := by decide +kernel
theorem dL_firstUnknown_17 : decode cL_firstUnknown 17 = .ok (.ireturn, 1) := by decide +kernel
theorem dL_firstUnknown_18 : decode cL_firstUnknown 18 = .ok (.iconst 0, 1) := by decide +kernel
theorem dL_firstUnknown_19 : decode cL_firstUnknown 19 = .ok (.ireturn, 1) := by decide +kernel
theorem dL_gap_0 : decode cL_gap 0 = .ok (.aload_n 1, 1) := by decide +kernel
theorem dL_gap_1 : decode cL_gap 1 = .ok (.iconst 0, 1) := by decide +kernel
theorem dL_gap_2 : decode cL_gap 2 = .ok (.aload_n 0, 1) := by decide +kernel
theorem dL_gap_3 : decode cL_gap 3 = .ok (.invokevirtual 56, 3) := by decide +kernel
theorem dL_gap_6 : decode cL_gap 6 = .ok (.i2l, 1) := by decide +kernel
theorem dL_gap_7 : decode cL_gap 7 = .ok (.lastore, 1) := by decide +kernel
theorem dL_gap_8 : decode cL_gap 8 = .ok (.goto 6, 3) := by decide +kernel
theorem dL_gap_11 : decode cL_gap 11 = .ok (.astore_n 2, 1) := by decide +kernel
theorem dL_gap_12 : decode cL_gap 12 = .ok (.iconst 1, 1) := by decide +kernel
theorem dL_gap_13 : decode cL_gap 13 = .ok (.ireturn, 1) := by decide +kernel
theorem dL_gap_14 : decode cL_gap 14 = .ok (.iconst 0, 1) := by decide +kernel
theorem dL_gap_15 : decode cL_gap 15 = .ok (.ireturn, 1) := by decide +kernel
theorem dL_whyNotSeal_0 : decode cL_whyNotSeal 0 = .ok (.aload_n 3, 1) := by decide +kernel
theorem dL_whyNotSeal_1 : decode cL_whyNotSeal 1 = .ok (.iconst 0, 1) := by decide +kernel
theorem dL_whyNotSeal_2 : decode cL_whyNotSeal 2 = .ok (.aload_n 0, 1) := by decide +kernel
theorem dL_whyNotSeal_3 : decode cL_whyNotSeal 3 = .ok (.iload_n 1, 1) := by decide +kernel
theorem dL_whyNotSeal_4 : decode cL_whyNotSeal 4 = .ok (.iload_n 2, 1) := by decide +kernel
theorem dL_whyNotSeal_5 : decode cL_whyNotSeal 5 = .ok (.invokevirtual 60, 3) := by decide +kernel
theorem dL_whyNotSeal_8 : decode cL_whyNotSeal 8 = .ok (.i2l, 1) := by decide +kernel
theorem dL_whyNotSeal_9 : decode cL_whyNotSeal 9 = .ok (.lastore, 1) := by decide +kernel
theorem dL_whyNotSeal_10 : decode cL_whyNotSeal 10 = .ok (.goto 11, 3) := by decide +kernel
theorem dL_whyNotSeal_13 : decode cL_whyNotSeal 13 = .ok (.astore 4, 2) := by decide +kernel
theorem dL_whyNotSeal_15 : decode cL_whyNotSeal 15 = .ok (.iconst 1, 1) := by decide +kernel
theorem dL_whyNotSeal_16 : decode cL_whyNotSeal 16 = .ok (.ireturn, 1) := by decide +kernel
theorem dL_whyNotSeal_17 : decode cL_whyNotSeal 17 = .ok (.astore 4, 2) := by decide +kernel
theorem dL_whyNotSeal_19 : decode cL_whyNotSeal 19 = .ok (.iconst 2, 1) := by decide +kernel
theorem dL_whyNotSeal_20 : decode cL_whyNotSeal 20 = .ok (.ireturn, 1) := by decide +kernel
theorem dL_whyNotSeal_21 : decode cL_whyNotSeal 21 = .ok (.iconst 0, 1) := by decide +kernel
theorem dL_whyNotSeal_22 : decode cL_whyNotSeal 22 = .ok (.ireturn, 1) := by decide +kernel
theorem dL_whyNotCopy_0 : decode cL_whyNotCopy 0 = .ok (.aload_n 3, 1) := by decide +kernel
theorem dL_whyNotCopy_1 : decode cL_whyNotCopy 1 = .ok (.iconst 0, 1) := by decide +kernel
theorem dL_whyNotCopy_2 : decode cL_whyNotCopy 2 = .ok (.aload_n 0, 1) := by decide +kernel
theorem dL_whyNotCopy_3 : decode cL_whyNotCopy 3 = .ok (.iload_n 1, 1) := by decide +kernel
theorem dL_whyNotCopy_4 : decode cL_whyNotCopy 4 = .ok (.iload_n 2, 1) := by decide +kernel
theorem dL_whyNotCopy_5 : decode cL_whyNotCopy 5 = .ok (.invokevirtual 63, 3) := by decide +kernel
theorem dL_whyNotCopy_8 : decode cL_whyNotCopy 8 = .ok (.i2l, 1) := by decide +kernel
theorem dL_whyNotCopy_9 : decode cL_whyNotCopy 9 = .ok (.lastore, 1) := by decide +kernel
theorem dL_whyNotCopy_10 : decode cL_whyNotCopy 10 = .ok (.goto 15, 3) := by decide +kernel
theorem dL_whyNotCopy_13 : decode cL_whyNotCopy 13 = .ok (.astore 4, 2) := by decide +kernel
theorem dL_whyNotCopy_15 : decode cL_whyNotCopy 15 = .ok (.iconst 1, 1) := by decide +kernel
theorem dL_whyNotCopy_16 : decode cL_whyNotCopy 16 = .ok (.ireturn, 1) := by decide +kernel
theorem dL_whyNotCopy_17 : decode cL_whyNotCopy 17 = .ok (.astore 4, 2) := by decide +kernel
theorem dL_whyNotCopy_19 : decode cL_whyNotCopy 19 = .ok (.iconst 2, 1) := by decide +kernel
theorem dL_whyNotCopy_20 : decode cL_whyNotCopy 20 = .ok (.ireturn, 1) := by decide +kernel
theorem dL_whyNotCopy_21 : decode cL_whyNotCopy 21 = .ok (.astore 4, 2) := by decide +kernel
theorem dL_whyNotCopy_23 : decode cL_whyNotCopy 23 = .ok (.iconst 3, 1) := by decide +kernel
theorem dL_whyNotCopy_24 : decode cL_whyNotCopy 24 = .ok (.ireturn, 1) := by decide +kernel
theorem dL_whyNotCopy_25 : decode cL_whyNotCopy 25 = .ok (.iconst 0, 1) := by decide +kernel
theorem dL_whyNotCopy_26 : decode cL_whyNotCopy 26 = .ok (.ireturn, 1) := by decide +kernel
theorem dL_whyNotStrike_0 : decode cL_whyNotStrike 0 = .ok (.aload_n 2, 1) := by decide +kernel
theorem dL_whyNotStrike_1 : decode cL_whyNotStrike 1 = .ok (.iconst 0, 1) := by decide +kernel
theorem dL_whyNotStrike_2 : decode cL_whyNotStrike 2 = .ok (.aload_n 0, 1) := by decide +kernel
theorem dL_whyNotStrike_3 : decode cL_whyNotStrike 3 = .ok (.iload_n 1, 1) := by decide +kernel
theorem dL_whyNotStrike_4 : decode cL_whyNotStrike 4 = .ok (.invokevirtual 66, 3) := by decide +kernel
theorem dL_whyNotStrike_7 : decode cL_whyNotStrike 7 = .ok (.i2l, 1) := by decide +kernel
theorem dL_whyNotStrike_8 : decode cL_whyNotStrike 8 = .ok (.lastore, 1) := by decide +kernel
theorem dL_whyNotStrike_9 : decode cL_whyNotStrike 9 = .ok (.goto 6, 3) := by decide +kernel
theorem dL_whyNotStrike_12 : decode cL_whyNotStrike 12 = .ok (.astore_n 3, 1) := by decide +kernel
theorem dL_whyNotStrike_13 : decode cL_whyNotStrike 13 = .ok (.iconst 1, 1) := by decide +kernel
theorem dL_whyNotStrike_14 : decode cL_whyNotStrike 14 = .ok (.ireturn, 1) := by decide +kernel
theorem dL_whyNotStrike_15 : decode cL_whyNotStrike 15 = .ok (.iconst 0, 1) := by decide +kernel
theorem dL_whyNotStrike_16 : decode cL_whyNotStrike 16 = .ok (.ireturn, 1) := by decide +kernel
theorem dL_unknownIf_0 : decode cL_unknownIf 0 = .ok (.aload_n 2, 1) := by decide +kernel
theorem dL_unknownIf_1 : decode cL_unknownIf 1 = .ok (.iconst 0, 1) := by decide +kernel
theorem dL_unknownIf_2 : decode cL_unknownIf 2 = .ok (.aload_n 0, 1) := by decide +kernel
theorem dL_unknownIf_3 : decode cL_unknownIf 3 = .ok (.iload_n 1, 1) := by decide +kernel
theorem dL_unknownIf_4 : decode cL_unknownIf 4 = .ok (.invokevirtual 69, 3) := by decide +kernel
theorem dL_unknownIf_7 : decode cL_unknownIf 7 = .ok (.i2l, 1) := by decide +kernel
theorem dL_unknownIf_8 : decode cL_unknownIf 8 = .ok (.lastore, 1) := by decide +kernel
theorem dL_unknownIf_9 : decode cL_unknownIf 9 = .ok (.goto 9, 3) := by decide +kernel
theorem dL_unknownIf_12 : decode cL_unknownIf 12 = .ok (.astore_n 3, 1) := by decide +kernel
theorem dL_unknownIf_13 : decode cL_unknownIf 13 = .ok (.iconst 1, 1) := by decide +kernel
theorem dL_unknownIf_14 : decode cL_unknownIf 14 = .ok (.ireturn, 1) := by decide +kernel
theorem dL_unknownIf_15 : decode cL_unknownIf 15 = .ok (.astore_n 3, 1) := by decide +kernel
theorem dL_unknownIf_16 : decode cL_unknownIf 16 = .ok (.iconst 2, 1) := by decide +kernel
theorem dL_unknownIf_17 : decode cL_unknownIf 17 = .ok (.ireturn, 1) := by decide +kernel
theorem dL_unknownIf_18 : decode cL_unknownIf 18 = .ok (.iconst 0, 1) := by decide +kernel
theorem dL_unknownIf_19 : decode cL_unknownIf 19 = .ok (.ireturn, 1) := by decide +kernel
theorem dL_worstLeaf_0 : decode cL_worstLeaf 0 = .ok (.aload_n 1, 1) := by decide +kernel
theorem dL_worstLeaf_1 : decode cL_worstLeaf 1 = .ok (.iconst 0, 1) := by decide +kernel
theorem dL_worstLeaf_2 : decode cL_worstLeaf 2 = .ok (.aload_n 0, 1) := by decide +kernel
theorem dL_worstLeaf_3 : decode cL_worstLeaf 3 = .ok (.invokevirtual 72, 3) := by decide +kernel
theorem dL_worstLeaf_6 : decode cL_worstLeaf 6 = .ok (.i2l, 1) := by decide +kernel
theorem dL_worstLeaf_7 : decode cL_worstLeaf 7 = .ok (.lastore, 1) := by decide +kernel
theorem dL_worstLeaf_8 : decode cL_worstLeaf 8 = .ok (.goto 6, 3) := by decide +kernel
theorem dL_worstLeaf_11 : decode cL_worstLeaf 11 = .ok (.astore_n 2, 1) := by decide +kernel
theorem dL_worstLeaf_12 : decode cL_worstLeaf 12 = .ok (.iconst 1, 1) := by decide +kernel
theorem dL_worstLeaf_13 : decode cL_worstLeaf 13 = .ok (.ireturn, 1) := by decide +kernel
theorem dL_worstLeaf_14 : decode cL_worstLeaf 14 = .ok (.iconst 0, 1) := by decide +kernel
theorem dL_worstLeaf_15 : decode cL_worstLeaf 15 = .ok (.ireturn, 1) := by decide +kernel
theorem dL_shakenOut_0 : decode cL_shakenOut 0 = .ok (.aload_n 1, 1) := by decide +kernel
theorem dL_shakenOut_1 : decode cL_shakenOut 1 = .ok (.iconst 0, 1) := by decide +kernel
theorem dL_shakenOut_2 : decode cL_shakenOut 2 = .ok (.aload_n 0, 1) := by decide +kernel
theorem dL_shakenOut_3 : decode cL_shakenOut 3 = .ok (.invokevirtual 75, 3) := by decide +kernel
theorem dL_shakenOut_6 : decode cL_shakenOut 6 = .ok (.i2l, 1) := by decide +kernel
theorem dL_shakenOut_7 : decode cL_shakenOut 7 = .ok (.lastore, 1) := by decide +kernel
theorem dL_shakenOut_8 : decode cL_shakenOut 8 = .ok (.goto 6, 3) := by decide +kernel
theorem dL_shakenOut_11 : decode cL_shakenOut 11 = .ok (.astore_n 2, 1) := by decide +kernel
theorem dL_shakenOut_12 : decode cL_shakenOut 12 = .ok (.iconst 1, 1) := by decide +kernel
theorem dL_shakenOut_13 : decode cL_shakenOut 13 = .ok (.ireturn, 1) := by decide +kernel
theorem dL_shakenOut_14 : decode cL_shakenOut 14 = .ok (.iconst 0, 1) := by decide +kernel
theorem dL_shakenOut_15 : decode cL_shakenOut 15 = .ok (.ireturn, 1) := by decide +kernel
theorem dL_leavesFor_0 : decode cL_leavesFor 0 = .ok (.aload_n 2, 1) := by decide +kernel
theorem dL_leavesFor_1 : decode cL_leavesFor 1 = .ok (.iconst 0, 1) := by decide +kernel
theorem dL_leavesFor_2 : decode cL_leavesFor 2 = .ok (.aload_n 0, 1) := by decide +kernel
theorem dL_leavesFor_3 : decode cL_leavesFor 3 = .ok (.iload_n 1, 1) := by decide +kernel
theorem dL_leavesFor_4 : decode cL_leavesFor 4 = .ok (.invokevirtual 78, 3) := by decide +kernel
theorem dL_leavesFor_7 : decode cL_leavesFor 7 = .ok (.i2l, 1) := by decide +kernel
theorem dL_leavesFor_8 : decode cL_leavesFor 8 = .ok (.lastore, 1) := by decide +kernel
theorem dL_leavesFor_9 : decode cL_leavesFor 9 = .ok (.goto 9, 3) := by decide +kernel
theorem dL_leavesFor_12 : decode cL_leavesFor 12 = .ok (.astore_n 3, 1) := by decide +kernel
theorem dL_leavesFor_13 : decode cL_leavesFor 13 = .ok (.iconst 1, 1) := by decide +kernel
theorem dL_leavesFor_14 : decode cL_leavesFor 14 = .ok (.ireturn, 1) := by decide +kernel
theorem dL_leavesFor_15 : decode cL_leavesFor 15 = .ok (.astore_n 3, 1) := by decide +kernel
theorem dL_leavesFor_16 : decode cL_leavesFor 16 = .ok (.iconst 2, 1) := by decide +kernel
theorem dL_leavesFor_17 : decode cL_leavesFor 17 = .ok (.ireturn, 1) := by decide +kernel
theorem dL_leavesFor_18 : decode cL_leavesFor 18 = .ok (.iconst 0, 1) := by decide +kernel
theorem dL_leavesFor_19 : decode cL_leavesFor 19 = .ok (.ireturn, 1) := by decide +kernel
theorem dL_copyWords_0 : decode cL_copyWords 0 = .ok (.aload_n 3, 1) := by decide +kernel
theorem dL_copyWords_1 : decode cL_copyWords 1 = .ok (.iconst 0, 1) := by decide +kernel
theorem dL_copyWords_2 : decode cL_copyWords 2 = .ok (.aload_n 0, 1) := by decide +kernel
theorem dL_copyWords_3 : decode cL_copyWords 3 = .ok (.iload_n 1, 1) := by decide +kernel
theorem dL_copyWords_4 : decode cL_copyWords 4 = .ok (.iload_n 2, 1) := by decide +kernel
theorem dL_copyWords_5 : decode cL_copyWords 5 = .ok (.invokevirtual 81, 3) := by decide +kernel
theorem dL_copyWords_8 : decode cL_copyWords 8 = .ok (.i2l, 1) := by decide +kernel
theorem dL_copyWords_9 : decode cL_copyWords 9 = .ok (.lastore, 1) := by decide +kernel
theorem dL_copyWords_10 : decode cL_copyWords 10 = .ok (.goto 15, 3) := by decide +kernel
theorem dL_copyWords_13 : decode cL_copyWords 13 = .ok (.astore 4, 2) := by decide +kernel
theorem dL_copyWords_15 : decode cL_copyWords 15 = .ok (.iconst 1, 1) := by decide +kernel
theorem dL_copyWords_16 : decode cL_copyWords 16 = .ok (.ireturn, 1) := by decide +kernel
theorem dL_copyWords_17 : decode cL_copyWords 17 = .ok (.astore 4, 2) := by decide +kernel
theorem dL_copyWords_19 : decode cL_copyWords 19 = .ok (.iconst 2, 1) := by decide +kernel
theorem dL_copyWords_20 : decode cL_copyWords 20 = .ok (.ireturn, 1) := by decide +kernel
theorem dL_copyWords_21 : decode cL_copyWords 21 = .ok (.astore 4, 2) := by decide +kernel
theorem dL_copyWords_23 : decode cL_copyWords 23 = .ok (.iconst 3, 1) := by decide +kernel
theorem dL_copyWords_24 : decode cL_copyWords 24 = .ok (.ireturn, 1) := by decide +kernel
theorem dL_copyWords_25 : decode cL_copyWords 25 = .ok (.iconst 0, 1) := by decide +kernel
theorem dL_copyWords_26 : decode cL_copyWords 26 = .ok (.ireturn, 1) := by decide +kernel
theorem dL_bestCopy_0 : decode cL_bestCopy 0 = .ok (.aload_n 2, 1) := by decide +kernel
theorem dL_bestCopy_1 : decode cL_bestCopy 1 = .ok (.iconst 0, 1) := by decide +kernel
theorem dL_bestCopy_2 : decode cL_bestCopy 2 = .ok (.aload_n 0, 1) := by decide +kernel
theorem dL_bestCopy_3 : decode cL_bestCopy 3 = .ok (.iload_n 1, 1) := by decide +kernel
theorem dL_bestCopy_4 : decode cL_bestCopy 4 = .ok (.invokevirtual 84, 3) := by decide +kernel
theorem dL_bestCopy_7 : decode cL_bestCopy 7 = .ok (.i2l, 1) := by decide +kernel
theorem dL_bestCopy_8 : decode cL_bestCopy 8 = .ok (.lastore, 1) := by decide +kernel
theorem dL_bestCopy_9 : decode cL_bestCopy 9 = .ok (.goto 9, 3) := by decide +kernel
theorem dL_bestCopy_12 : decode cL_bestCopy 12 = .ok (.astore_n 3, 1) := by decide +kernel
theorem dL_bestCopy_13 : decode cL_bestCopy 13 = .ok (.iconst 1, 1) := by decide +kernel
theorem dL_bestCopy_14 : decode cL_bestCopy 14 = .ok (.ireturn, 1) := by decide +kernel
theorem dL_bestCopy_15 : decode cL_bestCopy 15 = .ok (.astore_n 3, 1) := by decide +kernel
theorem dL_bestCopy_16 : decode cL_bestCopy 16 = .ok (.iconst 2, 1) := by decide +kernel
theorem dL_bestCopy_17 : decode cL_bestCopy 17 = .ok (.ireturn, 1) := by decide +kernel
theorem dL_bestCopy_18 : decode cL_bestCopy 18 = .ok (.iconst 0, 1) := by decide +kernel
theorem dL_bestCopy_19 : decode cL_bestCopy 19 = .ok (.ireturn, 1) := by decide +kernel
theorem dL_standingIf_0 : decode cL_standingIf 0 = .ok (.aload_n 3, 1) := by decide +kernel
theorem dL_standingIf_1 : decode cL_standingIf 1 = .ok (.iconst 0, 1) := by decide +kernel
theorem dL_standingIf_2 : decode cL_standingIf 2 = .ok (.aload_n 0, 1) := by decide +kernel
theorem dL_standingIf_3 : decode cL_standingIf 3 = .ok (.iload_n 1, 1) := by decide +kernel
theorem dL_standingIf_4 : decode cL_standingIf 4 = .ok (.iload_n 2, 1) := by decide +kernel
theorem dL_standingIf_5 : decode cL_standingIf 5 = .ok (.invokevirtual 87, 3) := by decide +kernel
theorem dL_standingIf_8 : decode cL_standingIf 8 = .ok (.i2l, 1) := by decide +kernel
theorem dL_standingIf_9 : decode cL_standingIf 9 = .ok (.lastore, 1) := by decide +kernel
theorem dL_standingIf_10 : decode cL_standingIf 10 = .ok (.goto 11, 3) := by decide +kernel
theorem dL_standingIf_13 : decode cL_standingIf 13 = .ok (.astore 4, 2) := by decide +kernel
theorem dL_standingIf_15 : decode cL_standingIf 15 = .ok (.iconst 1, 1) := by decide +kernel
theorem dL_standingIf_16 : decode cL_standingIf 16 = .ok (.ireturn, 1) := by decide +kernel
theorem dL_standingIf_17 : decode cL_standingIf 17 = .ok (.astore 4, 2) := by decide +kernel
theorem dL_standingIf_19 : decode cL_standingIf 19 = .ok (.iconst 2, 1) := by decide +kernel
theorem dL_standingIf_20 : decode cL_standingIf 20 = .ok (.ireturn, 1) := by decide +kernel
theorem dL_standingIf_21 : decode cL_standingIf 21 = .ok (.iconst 0, 1) := by decide +kernel
theorem dL_standingIf_22 : decode cL_standingIf 22 = .ok (.ireturn, 1) := by decide +kernel
theorem dL_findWord_0 : decode cL_findWord 0 = .ok (.aload_n 2, 1) := by decide +kernel
theorem dL_findWord_1 : decode cL_findWord 1 = .ok (.iconst 0, 1) := by decide +kernel
theorem dL_findWord_2 : decode cL_findWord 2 = .ok (.aload_n 0, 1) := by decide +kernel
theorem dL_findWord_3 : decode cL_findWord 3 = .ok (.iload_n 1, 1) := by decide +kernel
theorem dL_findWord_4 : decode cL_findWord 4 = .ok (.invokevirtual 91, 3) := by decide +kernel
theorem dL_findWord_7 : decode cL_findWord 7 = .ok (.i2l, 1) := by decide +kernel
theorem dL_findWord_8 : decode cL_findWord 8 = .ok (.lastore, 1) := by decide +kernel
theorem dL_findWord_9 : decode cL_findWord 9 = .ok (.goto 9, 3) := by decide +kernel
theorem dL_findWord_12 : decode cL_findWord 12 = .ok (.astore_n 3, 1) := by decide +kernel
theorem dL_findWord_13 : decode cL_findWord 13 = .ok (.iconst 1, 1) := by decide +kernel
theorem dL_findWord_14 : decode cL_findWord 14 = .ok (.ireturn, 1) := by decide +kernel
theorem dL_findWord_15 : decode cL_findWord 15 = .ok (.astore_n 3, 1) := by decide +kernel
theorem dL_findWord_16 : decode cL_findWord 16 = .ok (.iconst 2, 1) := by decide +kernel
theorem dL_findWord_17 : decode cL_findWord 17 = .ok (.ireturn, 1) := by decide +kernel
theorem dL_findWord_18 : decode cL_findWord 18 = .ok (.iconst 0, 1) := by decide +kernel
theorem dL_findWord_19 : decode cL_findWord 19 = .ok (.ireturn, 1) := by decide +kernel
theorem dL_longest_0 : decode cL_longest 0 = .ok (.aload_n 2, 1) := by decide +kernel
theorem dL_longest_1 : decode cL_longest 1 = .ok (.iconst 0, 1) := by decide +kernel
theorem dL_longest_2 : decode cL_longest 2 = .ok (.aload_n 0, 1) := by decide +kernel
theorem dL_longest_3 : decode cL_longest 3 = .ok (.iload_n 1, 1) := by decide +kernel
theorem dL_longest_4 : decode cL_longest 4 = .ok (.invokevirtual 94, 3) := by decide +kernel
theorem dL_longest_7 : decode cL_longest 7 = .ok (.i2l, 1) := by decide +kernel
theorem dL_longest_8 : decode cL_longest 8 = .ok (.lastore, 1) := by decide +kernel
theorem dL_longest_9 : decode cL_longest 9 = .ok (.goto 9, 3) := by decide +kernel
theorem dL_longest_12 : decode cL_longest 12 = .ok (.astore_n 3, 1) := by decide +kernel
theorem dL_longest_13 : decode cL_longest 13 = .ok (.iconst 1, 1) := by decide +kernel
theorem dL_longest_14 : decode cL_longest 14 = .ok (.ireturn, 1) := by decide +kernel
theorem dL_longest_15 : decode cL_longest 15 = .ok (.astore_n 3, 1) := by decide +kernel
theorem dL_longest_16 : decode cL_longest 16 = .ok (.iconst 2, 1) := by decide +kernel
theorem dL_longest_17 : decode cL_longest 17 = .ok (.ireturn, 1) := by decide +kernel
theorem dL_longest_18 : decode cL_longest 18 = .ok (.iconst 0, 1) := by decide +kernel
theorem dL_longest_19 : decode cL_longest 19 = .ok (.ireturn, 1) := by decide +kernel
theorem dL_common_0 : decode cL_common 0 = .ok (.aload_n 3, 1) := by decide +kernel
theorem dL_common_1 : decode cL_common 1 = .ok (.iconst 0, 1) := by decide +kernel
theorem dL_common_2 : decode cL_common 2 = .ok (.aload_n 0, 1) := by decide +kernel
theorem dL_common_3 : decode cL_common 3 = .ok (.iload_n 1, 1) := by decide +kernel
theorem dL_common_4 : decode cL_common 4 = .ok (.iload_n 2, 1) := by decide +kernel
theorem dL_common_5 : decode cL_common 5 = .ok (.invokevirtual 97, 3) := by decide +kernel
theorem dL_common_8 : decode cL_common 8 = .ok (.i2l, 1) := by decide +kernel
theorem dL_common_9 : decode cL_common 9 = .ok (.lastore, 1) := by decide +kernel
theorem dL_common_10 : decode cL_common 10 = .ok (.goto 11, 3) := by decide +kernel
theorem dL_common_13 : decode cL_common 13 = .ok (.astore 4, 2) := by decide +kernel
theorem dL_common_15 : decode cL_common 15 = .ok (.iconst 1, 1) := by decide +kernel
theorem dL_common_16 : decode cL_common 16 = .ok (.ireturn, 1) := by decide +kernel
theorem dL_common_17 : decode cL_common 17 = .ok (.astore 4, 2) := by decide +kernel
theorem dL_common_19 : decode cL_common 19 = .ok (.iconst 2, 1) := by decide +kernel
theorem dL_common_20 : decode cL_common 20 = .ok (.ireturn, 1) := by decide +kernel
theorem dL_common_21 : decode cL_common 21 = .ok (.iconst 0, 1) := by decide +kernel
theorem dL_common_22 : decode cL_common 22 = .ok (.ireturn, 1) := by decide +kernel
theorem dL_knownShare_0 : decode cL_knownShare 0 = .ok (.aload_n 1, 1) := by decide +kernel
theorem dL_knownShare_1 : decode cL_knownShare 1 = .ok (.iconst 0, 1) := by decide +kernel
theorem dL_knownShare_2 : decode cL_knownShare 2 = .ok (.aload_n 0, 1) := by decide +kernel
theorem dL_knownShare_3 : decode cL_knownShare 3 = .ok (.invokevirtual 100, 3) := by decide +kernel
theorem dL_knownShare_6 : decode cL_knownShare 6 = .ok (.f2d, 1) := by decide +kernel
theorem dL_knownShare_7 : decode cL_knownShare 7 = .ok (.dastore, 1) := by decide +kernel
theorem dL_knownShare_8 : decode cL_knownShare 8 = .ok (.goto 6, 3) := by decide +kernel
theorem dL_knownShare_11 : decode cL_knownShare 11 = .ok (.astore_n 2, 1) := by decide +kernel
theorem dL_knownShare_12 : decode cL_knownShare 12 = .ok (.iconst 1, 1) := by decide +kernel
theorem dL_knownShare_13 : decode cL_knownShare 13 = .ok (.ireturn, 1) := by decide +kernel
theorem dL_knownShare_14 : decode cL_knownShare 14 = .ok (.iconst 0, 1) := by decide +kernel
theorem dL_knownShare_15 : decode cL_knownShare 15 = .ok (.ireturn, 1) := by decide +kernel
theorem dL_meanWords_0 : decode cL_meanWords 0 = .ok (.aload_n 1, 1) := by decide +kernel
theorem dL_meanWords_1 : decode cL_meanWords 1 = .ok (.iconst 0, 1) := by decide +kernel
theorem dL_meanWords_2 : decode cL_meanWords 2 = .ok (.aload_n 0, 1) := by decide +kernel
theorem dL_meanWords_3 : decode cL_meanWords 3 = .ok (.invokevirtual 104, 3) := by decide +kernel
theorem dL_meanWords_6 : decode cL_meanWords 6 = .ok (.dastore, 1) := by decide +kernel
theorem dL_meanWords_7 : decode cL_meanWords 7 = .ok (.goto 6, 3) := by decide +kernel
theorem dL_meanWords_10 : decode cL_meanWords 10 = .ok (.astore_n 2, 1) := by decide +kernel
theorem dL_meanWords_11 : decode cL_meanWords 11 = .ok (.iconst 1, 1) := by decide +kernel
theorem dL_meanWords_12 : decode cL_meanWords 12 = .ok (.ireturn, 1) := by decide +kernel
theorem dL_meanWords_13 : decode cL_meanWords 13 = .ok (.iconst 0, 1) := by decide +kernel
theorem dL_meanWords_14 : decode cL_meanWords 14 = .ok (.ireturn, 1) := by decide +kernel
theorem dL_writeAct_0 : decode cL_writeAct 0 = .ok (.aload_n 2, 1) := by decide +kernel
theorem dL_writeAct_1 : decode cL_writeAct 1 = .ok (.iconst 0, 1) := by decide +kernel
theorem dL_writeAct_2 : decode cL_writeAct 2 = .ok (.aload_n 0, 1) := by decide +kernel
theorem dL_writeAct_3 : decode cL_writeAct 3 = .ok (.iload_n 1, 1) := by decide +kernel
theorem dL_writeAct_4 : decode cL_writeAct 4 = .ok (.invokevirtual 108, 3) := by decide +kernel
theorem dL_writeAct_7 : decode cL_writeAct 7 = .ok (.i2l, 1) := by decide +kernel
theorem dL_writeAct_8 : decode cL_writeAct 8 = .ok (.lastore, 1) := by decide +kernel
theorem dL_writeAct_9 : decode cL_writeAct 9 = .ok (.goto 9, 3) := by decide +kernel
theorem dL_writeAct_12 : decode cL_writeAct 12 = .ok (.astore_n 3, 1) := by decide +kernel
theorem dL_writeAct_13 : decode cL_writeAct 13 = .ok (.iconst 1, 1) := by decide +kernel
theorem dL_writeAct_14 : decode cL_writeAct 14 = .ok (.ireturn, 1) := by decide +kernel
theorem dL_writeAct_15 : decode cL_writeAct 15 = .ok (.astore_n 3, 1) := by decide +kernel
theorem dL_writeAct_16 : decode cL_writeAct 16 = .ok (.iconst 2, 1) := by decide +kernel
theorem dL_writeAct_17 : decode cL_writeAct 17 = .ok (.ireturn, 1) := by decide +kernel
theorem dL_writeAct_18 : decode cL_writeAct 18 = .ok (.iconst 0, 1) := by decide +kernel
theorem dL_writeAct_19 : decode cL_writeAct 19 = .ok (.ireturn, 1) := by decide +kernel
theorem dL_writeStanding_0 : decode cL_writeStanding 0 = .ok (.aload_n 2, 1) := by decide +kernel
theorem dL_writeStanding_1 : decode cL_writeStanding 1 = .ok (.iconst 0, 1) := by decide +kernel
theorem dL_writeStanding_2 : decode cL_writeStanding 2 = .ok (.aload_n 0, 1) := by decide +kernel
theorem dL_writeStanding_3 : decode cL_writeStanding 3 = .ok (.iload_n 1, 1) := by decide +kernel
theorem dL_writeStanding_4 : decode cL_writeStanding 4 = .ok (.invokevirtual 111, 3) := by decide +kernel
theorem dL_writeStanding_7 : decode cL_writeStanding 7 = .ok (.i2l, 1) := by decide +kernel
theorem dL_writeStanding_8 : decode cL_writeStanding 8 = .ok (.lastore, 1) := by decide +kernel
theorem dL_writeStanding_9 : decode cL_writeStanding 9 = .ok (.goto 9, 3) := by decide +kernel
theorem dL_writeStanding_12 : decode cL_writeStanding 12 = .ok (.astore_n 3, 1) := by decide +kernel
theorem dL_writeStanding_13 : decode cL_writeStanding 13 = .ok (.iconst 1, 1) := by decide +kernel
theorem dL_writeStanding_14 : decode cL_writeStanding 14 = .ok (.ireturn, 1) := by decide +kernel
theorem dL_writeStanding_15 : decode cL_writeStanding 15 = .ok (.astore_n 3, 1) := by decide +kernel
theorem dL_writeStanding_16 : decode cL_writeStanding 16 = .ok (.iconst 2, 1) := by decide +kernel
theorem dL_writeStanding_17 : decode cL_writeStanding 17 = .ok (.ireturn, 1) := by decide +kernel
theorem dL_writeStanding_18 : decode cL_writeStanding 18 = .ok (.iconst 0, 1) := by decide +kernel
theorem dL_writeStanding_19 : decode cL_writeStanding 19 = .ok (.ireturn, 1) := by decide +kernel
theorem dL_writeLeaf_0 : decode cL_writeLeaf 0 = .ok (.aload_n 2, 1) := by decide +kernel
theorem dL_writeLeaf_1 : decode cL_writeLeaf 1 = .ok (.iconst 0, 1) := by decide +kernel
theorem dL_writeLeaf_2 : decode cL_writeLeaf 2 = .ok (.aload_n 0, 1) := by decide +kernel
theorem dL_writeLeaf_3 : decode cL_writeLeaf 3 = .ok (.iload_n 1, 1) := by decide +kernel
theorem dL_writeLeaf_4 : decode cL_writeLeaf 4 = .ok (.invokevirtual 114, 3) := by decide +kernel
theorem dL_writeLeaf_7 : decode cL_writeLeaf 7 = .ok (.i2l, 1) := by decide +kernel
theorem dL_writeLeaf_8 : decode cL_writeLeaf 8 = .ok (.lastore, 1) := by decide +kernel
theorem dL_writeLeaf_9 : decode cL_writeLeaf 9 = .ok (.goto 9, 3) := by decide +kernel
theorem dL_writeLeaf_12 : decode cL_writeLeaf 12 = .ok (.astore_n 3, 1) := by decide +kernel
theorem dL_writeLeaf_13 : decode cL_writeLeaf 13 = .ok (.iconst 1, 1) := by decide +kernel
theorem dL_writeLeaf_14 : decode cL_writeLeaf 14 = .ok (.ireturn, 1) := by decide +kernel
theorem dL_writeLeaf_15 : decode cL_writeLeaf 15 = .ok (.astore_n 3, 1) := by decide +kernel
theorem dL_writeLeaf_16 : decode cL_writeLeaf 16 = .ok (.iconst 2, 1) := by decide +kernel
theorem dL_writeLeaf_17 : decode cL_writeLeaf 17 = .ok (.ireturn, 1) := by decide +kernel
theorem dL_writeLeaf_18 : decode cL_writeLeaf 18 = .ok (.iconst 0, 1) := by decide +kernel
theorem dL_writeLeaf_19 : decode cL_writeLeaf 19 = .ok (.ireturn, 1) := by decide +kernel
theorem dL_writeCopy_0 : decode cL_writeCopy 0 = .ok (.aload_n 2, 1) := by decide +kernel
theorem dL_writeCopy_1 : decode cL_writeCopy 1 = .ok (.iconst 0, 1) := by decide +kernel
theorem dL_writeCopy_2 : decode cL_writeCopy 2 = .ok (.aload_n 0, 1) := by decide +kernel
theorem dL_writeCopy_3 : decode cL_writeCopy 3 = .ok (.iload_n 1, 1) := by decide +kernel
theorem dL_writeCopy_4 : decode cL_writeCopy 4 = .ok (.invokevirtual 117, 3) := by decide +kernel
theorem dL_writeCopy_7 : decode cL_writeCopy 7 = .ok (.i2l, 1) := by decide +kernel
theorem dL_writeCopy_8 : decode cL_writeCopy 8 = .ok (.lastore, 1) := by decide +kernel
theorem dL_writeCopy_9 : decode cL_writeCopy 9 = .ok (.goto 9, 3) := by decide +kernel
theorem dL_writeCopy_12 : decode cL_writeCopy 12 = .ok (.astore_n 3, 1) := by decide +kernel
theorem dL_writeCopy_13 : decode cL_writeCopy 13 = .ok (.iconst 1, 1) := by decide +kernel
theorem dL_writeCopy_14 : decode cL_writeCopy 14 = .ok (.ireturn, 1) := by decide +kernel
theorem dL_writeCopy_15 : decode cL_writeCopy 15 = .ok (.astore_n 3, 1) := by decide +kernel
theorem dL_writeCopy_16 : decode cL_writeCopy 16 = .ok (.iconst 2, 1) := by decide +kernel
theorem dL_writeCopy_17 : decode cL_writeCopy 17 = .ok (.ireturn, 1) := by decide +kernel
theorem dL_writeCopy_18 : decode cL_writeCopy 18 = .ok (.iconst 0, 1) := by decide +kernel
theorem dL_writeCopy_19 : decode cL_writeCopy 19 = .ok (.ireturn, 1) := by decide +kernel
theorem dL_textByte_0 : decode cL_textByte 0 = .ok (.aload_n 2, 1) := by decide +kernel
theorem dL_textByte_1 : decode cL_textByte 1 = .ok (.iconst 0, 1) := by decide +kernel
theorem dL_textByte_2 : decode cL_textByte 2 = .ok (.aload_n 0, 1) := by decide +kernel
theorem dL_textByte_3 : decode cL_textByte 3 = .ok (.iload_n 1, 1) := by decide +kernel
theorem dL_textByte_4 : decode cL_textByte 4 = .ok (.invokevirtual 120, 3) := by decide +kernel
theorem dL_textByte_7 : decode cL_textByte 7 = .ok (.i2l, 1) := by decide +kernel
theorem dL_textByte_8 : decode cL_textByte 8 = .ok (.lastore, 1) := by decide +kernel
theorem dL_textByte_9 : decode cL_textByte 9 = .ok (.goto 6, 3) := by decide +kernel
theorem dL_textByte_12 : decode cL_textByte 12 = .ok (.astore_n 3, 1) := by decide +kernel
theorem dL_textByte_13 : decode cL_textByte 13 = .ok (.iconst 1, 1) := by decide +kernel
theorem dL_textByte_14 : decode cL_textByte 14 = .ok (.ireturn, 1) := by decide +kernel
theorem dL_textByte_15 : decode cL_textByte 15 = .ok (.iconst 0, 1) := by decide +kernel
theorem dL_textByte_16 : decode cL_textByte 16 = .ok (.ireturn, 1) := by decide +kernel
theorem dL_begin_0 : decode cL_begin 0 = .ok (.aload_n 3, 1) := by decide +kernel
theorem dL_begin_1 : decode cL_begin 1 = .ok (.iconst 0, 1) := by decide +kernel
theorem dL_begin_2 : decode cL_begin 2 = .ok (.aload_n 0, 1) := by decide +kernel
theorem dL_begin_3 : decode cL_begin 3 = .ok (.iload_n 1, 1) := by decide +kernel
theorem dL_begin_4 : decode cL_begin 4 = .ok (.iload_n 2, 1) := by decide +kernel
theorem dL_begin_5 : decode cL_begin 5 = .ok (.invokevirtual 123, 3) := by decide +kernel
theorem dL_begin_8 : decode cL_begin 8 = .ok (.i2l, 1) := by decide +kernel
theorem dL_begin_9 : decode cL_begin 9 = .ok (.lastore, 1) := by decide +kernel
theorem dL_begin_10 : decode cL_begin 10 = .ok (.goto 15, 3) := by decide +kernel
theorem dL_begin_13 : decode cL_begin 13 = .ok (.astore 4, 2) := by decide +kernel
theorem dL_begin_15 : decode cL_begin 15 = .ok (.iconst 1, 1) := by decide +kernel
theorem dL_begin_16 : decode cL_begin 16 = .ok (.ireturn, 1) := by decide +kernel
theorem dL_begin_17 : decode cL_begin 17 = .ok (.astore 4, 2) := by decide +kernel
theorem dL_begin_19 : decode cL_begin 19 = .ok (.iconst 2, 1) := by decide +kernel
theorem dL_begin_20 : decode cL_begin 20 = .ok (.ireturn, 1) := by decide +kernel
theorem dL_begin_21 : decode cL_begin 21 = .ok (.astore 4, 2) := by decide +kernel
theorem dL_begin_23 : decode cL_begin 23 = .ok (.iconst 3, 1) := by decide +kernel
theorem dL_begin_24 : decode cL_begin 24 = .ok (.ireturn, 1) := by decide +kernel
theorem dL_begin_25 : decode cL_begin 25 = .ok (.iconst 0, 1) := by decide +kernel
theorem dL_begin_26 : decode cL_begin 26 = .ok (.ireturn, 1) := by decide +kernel
theorem dL_strike_0 : decode cL_strike 0 = .ok (.aload_n 2, 1) := by decide +kernel
theorem dL_strike_1 : decode cL_strike 1 = .ok (.iconst 0, 1) := by decide +kernel
theorem dL_strike_2 : decode cL_strike 2 = .ok (.aload_n 0, 1) := by decide +kernel
theorem dL_strike_3 : decode cL_strike 3 = .ok (.iload_n 1, 1) := by decide +kernel
theorem dL_strike_4 : decode cL_strike 4 = .ok (.invokevirtual 126, 3) := by decide +kernel
theorem dL_strike_7 : decode cL_strike 7 = .ok (.i2l, 1) := by decide +kernel
theorem dL_strike_8 : decode cL_strike 8 = .ok (.lastore, 1) := by decide +kernel
theorem dL_strike_9 : decode cL_strike 9 = .ok (.goto 9, 3) := by decide +kernel
theorem dL_strike_12 : decode cL_strike 12 = .ok (.astore_n 3, 1) := by decide +kernel
theorem dL_strike_13 : decode cL_strike 13 = .ok (.iconst 1, 1) := by decide +kernel
theorem dL_strike_14 : decode cL_strike 14 = .ok (.ireturn, 1) := by decide +kernel
theorem dL_strike_15 : decode cL_strike 15 = .ok (.astore_n 3, 1) := by decide +kernel
theorem dL_strike_16 : decode cL_strike 16 = .ok (.iconst 2, 1) := by decide +kernel
theorem dL_strike_17 : decode cL_strike 17 = .ok (.ireturn, 1) := by decide +kernel
theorem dL_strike_18 : decode cL_strike 18 = .ok (.iconst 0, 1) := by decide +kernel
theorem dL_strike_19 : decode cL_strike 19 = .ok (.ireturn, 1) := by decide +kernel
theorem dL_strikeClause_0 : decode cL_strikeClause 0 = .ok (.aload_n 2, 1) := by decide +kernel
theorem dL_strikeClause_1 : decode cL_strikeClause 1 = .ok (.iconst 0, 1) := by decide +kernel
theorem dL_strikeClause_2 : decode cL_strikeClause 2 = .ok (.aload_n 0, 1) := by decide +kernel
theorem dL_strikeClause_3 : decode cL_strikeClause 3 = .ok (.iload_n 1, 1) := by decide +kernel
theorem dL_strikeClause_4 : decode cL_strikeClause 4 = .ok (.invokevirtual 129, 3) := by decide +kernel
theorem dL_strikeClause_7 : decode cL_strikeClause 7 = .ok (.i2l, 1) := by decide +kernel
theorem dL_strikeClause_8 : decode cL_strikeClause 8 = .ok (.lastore, 1) := by decide +kernel
theorem dL_strikeClause_9 : decode cL_strikeClause 9 = .ok (.goto 9, 3) := by decide +kernel
theorem dL_strikeClause_12 : decode cL_strikeClause 12 = .ok (.astore_n 3, 1) := by decide +kernel
theorem dL_strikeClause_13 : decode cL_strikeClause 13 = .ok (.iconst 1, 1) := by decide +kernel
theorem dL_strikeClause_14 : decode cL_strikeClause 14 = .ok (.ireturn, 1) := by decide +kernel
theorem dL_strikeClause_15 : decode cL_strikeClause 15 = .ok (.astore_n 3, 1) := by decide +kernel
theorem dL_strikeClause_16 : decode cL_strikeClause 16 = .ok (.iconst 2, 1) := by decide +kernel
theorem dL_strikeClause_17 : decode cL_strikeClause 17 = .ok (.ireturn, 1) := by decide +kernel
theorem dL_strikeClause_18 : decode cL_strikeClause 18 = .ok (.iconst 0, 1) := by decide +kernel
theorem dL_strikeClause_19 : decode cL_strikeClause 19 = .ok (.ireturn, 1) := by decide +kernel
theorem dL_interline_0 : decode cL_interline 0 = .ok (.aload_n 3, 1) := by decide +kernel
theorem dL_interline_1 : decode cL_interline 1 = .ok (.iconst 0, 1) := by decide +kernel
theorem dL_interline_2 : decode cL_interline 2 = .ok (.aload_n 0, 1) := by decide +kernel
theorem dL_interline_3 : decode cL_interline 3 = .ok (.iload_n 1, 1) := by decide +kernel
theorem dL_interline_4 : decode cL_interline 4 = .ok (.iload_n 2, 1) := by decide +kernel
theorem dL_interline_5 : decode cL_interline 5 = .ok (.invokevirtual 132, 3) := by decide +kernel
theorem dL_interline_8 : decode cL_interline 8 = .ok (.i2l, 1) := by decide +kernel
theorem dL_interline_9 : decode cL_interline 9 = .ok (.lastore, 1) := by decide +kernel
theorem dL_interline_10 : decode cL_interline 10 = .ok (.goto 15, 3) := by decide +kernel
theorem dL_interline_13 : decode cL_interline 13 = .ok (.astore 4, 2) := by decide +kernel
theorem dL_interline_15 : decode cL_interline 15 = .ok (.iconst 1, 1) := by decide +kernel
theorem dL_interline_16 : decode cL_interline 16 = .ok (.ireturn, 1) := by decide +kernel
theorem dL_interline_17 : decode cL_interline 17 = .ok (.astore 4, 2) := by decide +kernel
theorem dL_interline_19 : decode cL_interline 19 = .ok (.iconst 2, 1) := by decide +kernel
theorem dL_interline_20 : decode cL_interline 20 = .ok (.ireturn, 1) := by decide +kernel
theorem dL_interline_21 : decode cL_interline 21 = .ok (.astore 4, 2) := by decide +kernel
theorem dL_interline_23 : decode cL_interline 23 = .ok (.iconst 3, 1) := by decide +kernel
theorem dL_interline_24 : decode cL_interline 24 = .ok (.ireturn, 1) := by decide +kernel
theorem dL_interline_25 : decode cL_interline 25 = .ok (.iconst 0, 1) := by decide +kernel
theorem dL_interline_26 : decode cL_interline 26 = .ok (.ireturn, 1) := by decide +kernel
theorem dL_seal_0 : decode cL_seal 0 = .ok (.aload_n 3, 1) := by decide +kernel
theorem dL_seal_1 : decode cL_seal 1 = .ok (.iconst 0, 1) := by decide +kernel
theorem dL_seal_2 : decode cL_seal 2 = .ok (.aload_n 0, 1) := by decide +kernel
theorem dL_seal_3 : decode cL_seal 3 = .ok (.iload_n 1, 1) := by decide +kernel
theorem dL_seal_4 : decode cL_seal 4 = .ok (.iload_n 2, 1) := by decide +kernel
theorem dL_seal_5 : decode cL_seal 5 = .ok (.invokevirtual 135, 3) := by decide +kernel
theorem dL_seal_8 : decode cL_seal 8 = .ok (.i2l, 1) := by decide +kernel
theorem dL_seal_9 : decode cL_seal 9 = .ok (.lastore, 1) := by decide +kernel
theorem dL_seal_10 : decode cL_seal 10 = .ok (.goto 11, 3) := by decide +kernel
theorem dL_seal_13 : decode cL_seal 13 = .ok (.astore 4, 2) := by decide +kernel
theorem dL_seal_15 : decode cL_seal 15 = .ok (.iconst 1, 1) := by decide +kernel
theorem dL_seal_16 : decode cL_seal 16 = .ok (.ireturn, 1) := by decide +kernel
theorem dL_seal_17 : decode cL_seal 17 = .ok (.astore 4, 2) := by decide +kernel
theorem dL_seal_19 : decode cL_seal 19 = .ok (.iconst 2, 1) := by decide +kernel
theorem dL_seal_20 : decode cL_seal 20 = .ok (.ireturn, 1) := by decide +kernel
theorem dL_seal_21 : decode cL_seal 21 = .ok (.iconst 0, 1) := by decide +kernel
theorem dL_seal_22 : decode cL_seal 22 = .ok (.ireturn, 1) := by decide +kernel
theorem dL_cancel_0 : decode cL_cancel 0 = .ok (.aload_n 1, 1) := by decide +kernel
theorem dL_cancel_1 : decode cL_cancel 1 = .ok (.iconst 0, 1) := by decide +kernel
theorem dL_cancel_2 : decode cL_cancel 2 = .ok (.aload_n 0, 1) := by decide +kernel
theorem dL_cancel_3 : decode cL_cancel 3 = .ok (.invokevirtual 138, 3) := by decide +kernel
theorem dL_cancel_6 : decode cL_cancel 6 = .ok (.i2l, 1) := by decide +kernel
theorem dL_cancel_7 : decode cL_cancel 7 = .ok (.lastore, 1) := by decide +kernel
theorem dL_cancel_8 : decode cL_cancel 8 = .ok (.goto 9, 3) := by decide +kernel
theorem dL_cancel_11 : decode cL_cancel 11 = .ok (.astore_n 2, 1) := by decide +kernel
theorem dL_cancel_12 : decode cL_cancel 12 = .ok (.iconst 1, 1) := by decide +kernel
theorem dL_cancel_13 : decode cL_cancel 13 = .ok (.ireturn, 1) := by decide +kernel
theorem dL_cancel_14 : decode cL_cancel 14 = .ok (.astore_n 2, 1) := by decide +kernel
theorem dL_cancel_15 : decode cL_cancel 15 = .ok (.iconst 2, 1) := by decide +kernel
theorem dL_cancel_16 : decode cL_cancel 16 = .ok (.ireturn, 1) := by decide +kernel
theorem dL_cancel_17 : decode cL_cancel 17 = .ok (.iconst 0, 1) := by decide +kernel
theorem dL_cancel_18 : decode cL_cancel 18 = .ok (.ireturn, 1) := by decide +kernel
theorem dL_addCopy_0 : decode cL_addCopy 0 = .ok (.aload_n 3, 1) := by decide +kernel
theorem dL_addCopy_1 : decode cL_addCopy 1 = .ok (.iconst 0, 1) := by decide +kernel
theorem dL_addCopy_2 : decode cL_addCopy 2 = .ok (.aload_n 0, 1) := by decide +kernel
theorem dL_addCopy_3 : decode cL_addCopy 3 = .ok (.iload_n 1, 1) := by decide +kernel
theorem dL_addCopy_4 : decode cL_addCopy 4 = .ok (.iload_n 2, 1) := by decide +kernel
theorem dL_addCopy_5 : decode cL_addCopy 5 = .ok (.invokevirtual 141, 3) := by decide +kernel
theorem dL_addCopy_8 : decode cL_addCopy 8 = .ok (.i2l, 1) := by decide +kernel
theorem dL_addCopy_9 : decode cL_addCopy 9 = .ok (.lastore, 1) := by decide +kernel
theorem dL_addCopy_10 : decode cL_addCopy 10 = .ok (.goto 15, 3) := by decide +kernel
theorem dL_addCopy_13 : decode cL_addCopy 13 = .ok (.astore 4, 2) := by decide +kernel
theorem dL_addCopy_15 : decode cL_addCopy 15 = .ok (.iconst 1, 1) := by decide +kernel
theorem dL_addCopy_16 : decode cL_addCopy 16 = .ok (.ireturn, 1) := by decide +kernel
theorem dL_addCopy_17 : decode cL_addCopy 17 = .ok (.astore 4, 2) := by decide +kernel
theorem dL_addCopy_19 : decode cL_addCopy 19 = .ok (.iconst 2, 1) := by decide +kernel
theorem dL_addCopy_20 : decode cL_addCopy 20 = .ok (.ireturn, 1) := by decide +kernel
theorem dL_addCopy_21 : decode cL_addCopy 21 = .ok (.astore 4, 2) := by decide +kernel
theorem dL_addCopy_23 : decode cL_addCopy 23 = .ok (.iconst 3, 1) := by decide +kernel
theorem dL_addCopy_24 : decode cL_addCopy 24 = .ok (.ireturn, 1) := by decide +kernel
theorem dL_addCopy_25 : decode cL_addCopy 25 = .ok (.iconst 0, 1) := by decide +kernel
theorem dL_addCopy_26 : decode cL_addCopy 26 = .ok (.ireturn, 1) := by decide +kernel
theorem dL_burn_0 : decode cL_burn 0 = .ok (.aload_n 2, 1) := by decide +kernel
theorem dL_burn_1 : decode cL_burn 1 = .ok (.iconst 0, 1) := by decide +kernel
theorem dL_burn_2 : decode cL_burn 2 = .ok (.aload_n 0, 1) := by decide +kernel
theorem dL_burn_3 : decode cL_burn 3 = .ok (.iload_n 1, 1) := by decide +kernel
theorem dL_burn_4 : decode cL_burn 4 = .ok (.invokevirtual 144, 3) := by decide +kernel
theorem dL_burn_7 : decode cL_burn 7 = .ok (.i2l, 1) := by decide +kernel
theorem dL_burn_8 : decode cL_burn 8 = .ok (.lastore, 1) := by decide +kernel
theorem dL_burn_9 : decode cL_burn 9 = .ok (.goto 9, 3) := by decide +kernel
theorem dL_burn_12 : decode cL_burn 12 = .ok (.astore_n 3, 1) := by decide +kernel
theorem dL_burn_13 : decode cL_burn 13 = .ok (.iconst 1, 1) := by decide +kernel
theorem dL_burn_14 : decode cL_burn 14 = .ok (.ireturn, 1) := by decide +kernel
theorem dL_burn_15 : decode cL_burn 15 = .ok (.astore_n 3, 1) := by decide +kernel
theorem dL_burn_16 : decode cL_burn 16 = .ok (.iconst 2, 1) := by decide +kernel
theorem dL_burn_17 : decode cL_burn 17 = .ok (.ireturn, 1) := by decide +kernel
theorem dL_burn_18 : decode cL_burn 18 = .ok (.iconst 0, 1) := by decide +kernel
theorem dL_burn_19 : decode cL_burn 19 = .ok (.ireturn, 1) := by decide +kernel
theorem dL_lose_0 : decode cL_lose 0 = .ok (.aload_n 2, 1) := by decide +kernel
theorem dL_lose_1 : decode cL_lose 1 = .ok (.iconst 0, 1) := by decide +kernel
theorem dL_lose_2 : decode cL_lose 2 = .ok (.aload_n 0, 1) := by decide +kernel
theorem dL_lose_3 : decode cL_lose 3 = .ok (.iload_n 1, 1) := by decide +kernel
theorem dL_lose_4 : decode cL_lose 4 = .ok (.invokevirtual 147, 3) := by decide +kernel
theorem dL_lose_7 : decode cL_lose 7 = .ok (.i2l, 1) := by decide +kernel
theorem dL_lose_8 : decode cL_lose 8 = .ok (.lastore, 1) := by decide +kernel
theorem dL_lose_9 : decode cL_lose 9 = .ok (.goto 12, 3) := by decide +kernel
theorem dL_lose_12 : decode cL_lose 12 = .ok (.astore_n 3, 1) := by decide +kernel
theorem dL_lose_13 : decode cL_lose 13 = .ok (.iconst 1, 1) := by decide +kernel
theorem dL_lose_14 : decode cL_lose 14 = .ok (.ireturn, 1) := by decide +kernel
theorem dL_lose_15 : decode cL_lose 15 = .ok (.astore_n 3, 1) := by decide +kernel
theorem dL_lose_16 : decode cL_lose 16 = .ok (.iconst 2, 1) := by decide +kernel
theorem dL_lose_17 : decode cL_lose 17 = .ok (.ireturn, 1) := by decide +kernel
theorem dL_lose_18 : decode cL_lose 18 = .ok (.astore_n 3, 1) := by decide +kernel
theorem dL_lose_19 : decode cL_lose 19 = .ok (.iconst 3, 1) := by decide +kernel
theorem dL_lose_20 : decode cL_lose 20 = .ok (.ireturn, 1) := by decide +kernel
theorem dL_lose_21 : decode cL_lose 21 = .ok (.iconst 0, 1) := by decide +kernel
theorem dL_lose_22 : decode cL_lose 22 = .ok (.ireturn, 1) := by decide +kernel
theorem dL_recover_0 : decode cL_recover 0 = .ok (.aload_n 2, 1) := by decide +kernel
theorem dL_recover_1 : decode cL_recover 1 = .ok (.iconst 0, 1) := by decide +kernel
theorem dL_recover_2 : decode cL_recover 2 = .ok (.aload_n 0, 1) := by decide +kernel
theorem dL_recover_3 : decode cL_recover 3 = .ok (.iload_n 1, 1) := by decide +kernel
theorem dL_recover_4 : decode cL_recover 4 = .ok (.invokevirtual 150, 3) := by decide +kernel
theorem dL_recover_7 : decode cL_recover 7 = .ok (.i2l, 1) := by decide +kernel
theorem dL_recover_8 : decode cL_recover 8 = .ok (.lastore, 1) := by decide +kernel
theorem dL_recover_9 : decode cL_recover 9 = .ok (.goto 12, 3) := by decide +kernel
theorem dL_recover_12 : decode cL_recover 12 = .ok (.astore_n 3, 1) := by decide +kernel
theorem dL_recover_13 : decode cL_recover 13 = .ok (.iconst 1, 1) := by decide +kernel
theorem dL_recover_14 : decode cL_recover 14 = .ok (.ireturn, 1) := by decide +kernel
theorem dL_recover_15 : decode cL_recover 15 = .ok (.astore_n 3, 1) := by decide +kernel
theorem dL_recover_16 : decode cL_recover 16 = .ok (.iconst 2, 1) := by decide +kernel
theorem dL_recover_17 : decode cL_recover 17 = .ok (.ireturn, 1) := by decide +kernel
theorem dL_recover_18 : decode cL_recover 18 = .ok (.astore_n 3, 1) := by decide +kernel
theorem dL_recover_19 : decode cL_recover 19 = .ok (.iconst 3, 1) := by decide +kernel
theorem dL_recover_20 : decode cL_recover 20 = .ok (.ireturn, 1) := by decide +kernel
theorem dL_recover_21 : decode cL_recover 21 = .ok (.iconst 0, 1) := by decide +kernel
theorem dL_recover_22 : decode cL_recover 22 = .ok (.ireturn, 1) := by decide +kernel
theorem dL_sew_0 : decode cL_sew 0 = .ok (.aload_n 2, 1) := by decide +kernel
theorem dL_sew_1 : decode cL_sew 1 = .ok (.iconst 0, 1) := by decide +kernel
theorem dL_sew_2 : decode cL_sew 2 = .ok (.aload_n 0, 1) := by decide +kernel
theorem dL_sew_3 : decode cL_sew 3 = .ok (.iload_n 1, 1) := by decide +kernel
theorem dL_sew_4 : decode cL_sew 4 = .ok (.invokevirtual 153, 3) := by decide +kernel
theorem dL_sew_7 : decode cL_sew 7 = .ok (.i2l, 1) := by decide +kernel
theorem dL_sew_8 : decode cL_sew 8 = .ok (.lastore, 1) := by decide +kernel
theorem dL_sew_9 : decode cL_sew 9 = .ok (.goto 12, 3) := by decide +kernel
theorem dL_sew_12 : decode cL_sew 12 = .ok (.astore_n 3, 1) := by decide +kernel
theorem dL_sew_13 : decode cL_sew 13 = .ok (.iconst 1, 1) := by decide +kernel
theorem dL_sew_14 : decode cL_sew 14 = .ok (.ireturn, 1) := by decide +kernel
theorem dL_sew_15 : decode cL_sew 15 = .ok (.astore_n 3, 1) := by decide +kernel
theorem dL_sew_16 : decode cL_sew 16 = .ok (.iconst 2, 1) := by decide +kernel
theorem dL_sew_17 : decode cL_sew 17 = .ok (.ireturn, 1) := by decide +kernel
theorem dL_sew_18 : decode cL_sew 18 = .ok (.astore_n 3, 1) := by decide +kernel
theorem dL_sew_19 : decode cL_sew 19 = .ok (.iconst 3, 1) := by decide +kernel
theorem dL_sew_20 : decode cL_sew 20 = .ok (.ireturn, 1) := by decide +kernel
theorem dL_sew_21 : decode cL_sew 21 = .ok (.iconst 0, 1) := by decide +kernel
theorem dL_sew_22 : decode cL_sew 22 = .ok (.ireturn, 1) := by decide +kernel
theorem dL_shake_0 : decode cL_shake 0 = .ok (.aload_n 1, 1) := by decide +kernel
theorem dL_shake_1 : decode cL_shake 1 = .ok (.iconst 0, 1) := by decide +kernel
theorem dL_shake_2 : decode cL_shake 2 = .ok (.aload_n 0, 1) := by decide +kernel
theorem dL_shake_3 : decode cL_shake 3 = .ok (.invokevirtual 156, 3) := by decide +kernel
theorem dL_shake_6 : decode cL_shake 6 = .ok (.i2l, 1) := by decide +kernel
theorem dL_shake_7 : decode cL_shake 7 = .ok (.lastore, 1) := by decide +kernel
theorem dL_shake_8 : decode cL_shake 8 = .ok (.goto 6, 3) := by decide +kernel
theorem dL_shake_11 : decode cL_shake 11 = .ok (.astore_n 2, 1) := by decide +kernel
theorem dL_shake_12 : decode cL_shake 12 = .ok (.iconst 1, 1) := by decide +kernel
theorem dL_shake_13 : decode cL_shake 13 = .ok (.ireturn, 1) := by decide +kernel
theorem dL_shake_14 : decode cL_shake 14 = .ok (.iconst 0, 1) := by decide +kernel
theorem dL_shake_15 : decode cL_shake 15 = .ok (.ireturn, 1) := by decide +kernel
theorem dL_undo_0 : decode cL_undo 0 = .ok (.aload_n 1, 1) := by decide +kernel
theorem dL_undo_1 : decode cL_undo 1 = .ok (.iconst 0, 1) := by decide +kernel
theorem dL_undo_2 : decode cL_undo 2 = .ok (.aload_n 0, 1) := by decide +kernel
theorem dL_undo_3 : decode cL_undo 3 = .ok (.invokevirtual 159, 3) := by decide +kernel
theorem dL_undo_6 : decode cL_undo 6 = .ok (.i2l, 1) := by decide +kernel
theorem dL_undo_7 : decode cL_undo 7 = .ok (.lastore, 1) := by decide +kernel
theorem dL_undo_8 : decode cL_undo 8 = .ok (.goto 6, 3) := by decide +kernel
theorem dL_undo_11 : decode cL_undo 11 = .ok (.astore_n 2, 1) := by decide +kernel
theorem dL_undo_12 : decode cL_undo 12 = .ok (.iconst 1, 1) := by decide +kernel
theorem dL_undo_13 : decode cL_undo 13 = .ok (.ireturn, 1) := by decide +kernel
theorem dL_undo_14 : decode cL_undo 14 = .ok (.iconst 0, 1) := by decide +kernel
theorem dL_undo_15 : decode cL_undo 15 = .ok (.ireturn, 1) := by decide +kernel
theorem dL_save_0 : decode cL_save 0 = .ok (.aload_n 2, 1) := by decide +kernel
theorem dL_save_1 : decode cL_save 1 = .ok (.iconst 0, 1) := by decide +kernel
theorem dL_save_2 : decode cL_save 2 = .ok (.aload_n 0, 1) := by decide +kernel
theorem dL_save_3 : decode cL_save 3 = .ok (.iload_n 1, 1) := by decide +kernel
theorem dL_save_4 : decode cL_save 4 = .ok (.invokevirtual 162, 3) := by decide +kernel
theorem dL_save_7 : decode cL_save 7 = .ok (.i2l, 1) := by decide +kernel
theorem dL_save_8 : decode cL_save 8 = .ok (.lastore, 1) := by decide +kernel
theorem dL_save_9 : decode cL_save 9 = .ok (.goto 9, 3) := by decide +kernel
theorem dL_save_12 : decode cL_save 12 = .ok (.astore_n 3, 1) := by decide +kernel
theorem dL_save_13 : decode cL_save 13 = .ok (.iconst 1, 1) := by decide +kernel
theorem dL_save_14 : decode cL_save 14 = .ok (.ireturn, 1) := by decide +kernel
theorem dL_save_15 : decode cL_save 15 = .ok (.astore_n 3, 1) := by decide +kernel
theorem dL_save_16 : decode cL_save 16 = .ok (.iconst 2, 1) := by decide +kernel
theorem dL_save_17 : decode cL_save 17 = .ok (.ireturn, 1) := by decide +kernel
theorem dL_save_18 : decode cL_save 18 = .ok (.iconst 0, 1) := by decide +kernel
theorem dL_save_19 : decode cL_save 19 = .ok (.ireturn, 1) := by decide +kernel
theorem dL_restore_0 : decode cL_restore 0 = .ok (.aload_n 2, 1) := by decide +kernel
theorem dL_restore_1 : decode cL_restore 1 = .ok (.iconst 0, 1) := by decide +kernel
theorem dL_restore_2 : decode cL_restore 2 = .ok (.aload_n 0, 1) := by decide +kernel
theorem dL_restore_3 : decode cL_restore 3 = .ok (.iload_n 1, 1) := by decide +kernel
theorem dL_restore_4 : decode cL_restore 4 = .ok (.invokevirtual 165, 3) := by decide +kernel
theorem dL_restore_7 : decode cL_restore 7 = .ok (.i2l, 1) := by decide +kernel
theorem dL_restore_8 : decode cL_restore 8 = .ok (.lastore, 1) := by decide +kernel
theorem dL_restore_9 : decode cL_restore 9 = .ok (.goto 9, 3) := by decide +kernel
theorem dL_restore_12 : decode cL_restore 12 = .ok (.astore_n 3, 1) := by decide +kernel
theorem dL_restore_13 : decode cL_restore 13 = .ok (.iconst 1, 1) := by decide +kernel
theorem dL_restore_14 : decode cL_restore 14 = .ok (.ireturn, 1) := by decide +kernel
theorem dL_restore_15 : decode cL_restore 15 = .ok (.astore_n 3, 1) := by decide +kernel
theorem dL_restore_16 : decode cL_restore 16 = .ok (.iconst 2, 1) := by decide +kernel
theorem dL_restore_17 : decode cL_restore 17 = .ok (.ireturn, 1) := by decide +kernel
theorem dL_restore_18 : decode cL_restore 18 = .ok (.iconst 0, 1) := by decide +kernel
theorem dL_restore_19 : decode cL_restore 19 = .ok (.ireturn, 1) := by decide +kernel
def fL_load (v0 : Option Nat) (v1 : Int32) (v2 : Option Nat) (σ : HpT) : AT (Int32) := bnC (fX9_load v0 v1 σ) (fun x1 s2 => bnP (sJ s2 v2 0 ((x1).toInt64)) (fun s11 => some (.ok 0, s11, 0, 0))) (fun n3 s2 => if n3 = 1 then some (.ok 1, s2, 0, 0) else if n3 = 2 then some (.ok 2, s2, 0, 0) else none)
def fL_count (v0 : Option Nat) (v1 : Int32) (v2 : Option Nat) (σ : HpT) : AT (Int32) := bnC (xA σ (fX9_count v0 v1 σ)) (fun x1 s2 => bnP (sJ s2 v2 0 ((x1).toInt64)) (fun s11 => some (.ok 0, s11, 0, 0))) (fun n3 s2 => if n3 = 0 then some (.ok 1, s2, 0, 0) else if n3 = 2 then some (.ok 2, s2, 0, 0) else none)
def fL_act (v0 : Option Nat) (v1 : Int32) (v2 : Int32) (v3 : Option Nat) (σ : HpT) : AT (Int32) := bnC (xA σ (fX9_act v0 v1 v2 σ)) (fun x1 s2 => bnP (sJ s2 v3 0 ((x1).toInt64)) (fun s11 => some (.ok 0, s11, 0, 0))) (fun n3 s2 => if n3 = 0 then some (.ok 1, s2, 0, 0) else if n3 = 1 then some (.ok 2, s2, 0, 0) else if n3 = 2 then some (.ok 3, s2, 0, 0) else none)
def fL_word (v0 : Option Nat) (v1 : Int32) (v2 : Int32) (v3 : Int32) (v4 : Option Nat) (σ : HpT) : AT (Int32) := bnC (xA σ (fX9_word v0 v1 v2 v3 σ)) (fun x1 s2 => bnP (sJ s2 v4 0 ((x1).toInt64)) (fun s11 => some (.ok 0, s11, 0, 0))) (fun n3 s2 => if n3 = 0 then some (.ok 1, s2, 0, 0) else if n3 = 1 then some (.ok 2, s2, 0, 0) else if n3 = 2 then some (.ok 3, s2, 0, 0) else none)
def fL_letter (v0 : Option Nat) (v1 : Int32) (v2 : Int32) (v3 : Int32) (v4 : Option Nat) (σ : HpT) : AT (Int32) := bnC (xA σ (fX9_letter v0 v1 v2 v3 σ)) (fun x1 s2 => bnP (sJ s2 v4 0 ((x1).toInt64)) (fun s11 => some (.ok 0, s11, 0, 0))) (fun n3 s2 => if n3 = 0 then some (.ok 1, s2, 0, 0) else if n3 = 1 then some (.ok 2, s2, 0, 0) else none)
def fL_innerLetter (v0 : Option Nat) (v1 : Int32) (v2 : Int32) (v3 : Int32) (v4 : Int32) (v5 : Option Nat) (σ : HpT) : AT (Int32) := bnC (xA σ (fX9_innerLetter v0 v1 v2 v3 v4 σ)) (fun x1 s2 => bnP (sJ s2 v5 0 ((x1).toInt64)) (fun s11 => some (.ok 0, s11, 0, 0))) (fun n3 s2 => if n3 = 0 then some (.ok 1, s2, 0, 0) else if n3 = 1 then some (.ok 2, s2, 0, 0) else none)
def fL_clause (v0 : Option Nat) (v1 : Int32) (v2 : Int32) (v3 : Int32) (v4 : Option Nat) (σ : HpT) : AT (Int32) := bnC (fX9_clause v0 v1 v2 v3 σ) (fun x1 s2 => bnP (sJ s2 v4 0 ((x1).toInt64)) (fun s11 => some (.ok 0, s11, 0, 0))) (fun n3 s2 => if n3 = 0 then some (.ok 1, s2, 0, 0) else if n3 = 1 then some (.ok 2, s2, 0, 0) else if n3 = 2 then some (.ok 3, s2, 0, 0) else none)
def fL_leaf (v0 : Option Nat) (v1 : Int32) (v2 : Int32) (v3 : Option Nat) (σ : HpT) : AT (Int32) := bnC (xA σ (fX9_leaf v0 v1 v2 σ)) (fun x1 s2 => bnP (sJ s2 v3 0 ((x1).toInt64)) (fun s11 => some (.ok 0, s11, 0, 0))) (fun n3 s2 => if n3 = 0 then some (.ok 1, s2, 0, 0) else if n3 = 1 then some (.ok 2, s2, 0, 0) else if n3 = 2 then some (.ok 3, s2, 0, 0) else none)
def fL_copy (v0 : Option Nat) (v1 : Int32) (v2 : Int32) (v3 : Option Nat) (σ : HpT) : AT (Int32) := bnC (xA σ (fX9_copy v0 v1 v2 σ)) (fun x1 s2 => bnP (sJ s2 v3 0 ((x1).toInt64)) (fun s11 => some (.ok 0, s11, 0, 0))) (fun n3 s2 => if n3 = 0 then some (.ok 1, s2, 0, 0) else if n3 = 1 then some (.ok 2, s2, 0, 0) else if n3 = 2 then some (.ok 3, s2, 0, 0) else none)
def fL_has (v0 : Option Nat) (v1 : Int32) (v2 : Int32) (v3 : Option Nat) (σ : HpT) : AT (Int32) := bnC (xA σ (fX9_has v0 v1 v2 σ)) (fun x1 s2 => bnP ((if x1 = true then some (v3, 0, 1) else some (v3, 0, 0))) (fun (j9 : Option Nat × Int32 × Int64) => bnP (sJ s2 j9.1 j9.2.1 j9.2.2) (fun s16 => some (.ok 0, s16, 0, 0)))) (fun n3 s2 => if n3 = 0 then some (.ok 1, s2, 0, 0) else if n3 = 1 then some (.ok 2, s2, 0, 0) else none)
def fL_known (v0 : Option Nat) (v1 : Int32) (v2 : Option Nat) (σ : HpT) : AT (Int32) := bnC (xA σ (fX9_known v0 v1 σ)) (fun x1 s2 => bnP (sJ s2 v2 0 ((x1).toInt64)) (fun s11 => some (.ok 0, s11, 0, 0))) (fun n3 s2 => if n3 = 0 then some (.ok 1, s2, 0, 0) else if n3 = 1 then some (.ok 2, s2, 0, 0) else none)
def fL_firstUnknown (v0 : Option Nat) (v1 : Int32) (v2 : Option Nat) (σ : HpT) : AT (Int32) := bnC (xA σ (fX9_firstUnknown v0 v1 σ)) (fun x1 s2 => bnP (sJ s2 v2 0 ((x1).toInt64)) (fun s11 => some (.ok 0, s11, 0, 0))) (fun n3 s2 => if n3 = 0 then some (.ok 1, s2, 0, 0) else if n3 = 1 then some (.ok 2, s2, 0, 0) else none)
def fL_gap (v0 : Option Nat) (v1 : Option Nat) (σ : HpT) : AT (Int32) := bnC (xA σ (fX9_gap v0 σ)) (fun x1 s2 => bnP (sJ s2 v1 0 ((x1).toInt64)) (fun s11 => some (.ok 0, s11, 0, 0))) (fun n3 s2 => if n3 = 0 then some (.ok 1, s2, 0, 0) else none)
def fL_whyNotSeal (v0 : Option Nat) (v1 : Int32) (v2 : Int32) (v3 : Option Nat) (σ : HpT) : AT (Int32) := bnC (xA σ (fX9_whyNotSeal v0 v1 v2 σ)) (fun x1 s2 => bnP (sJ s2 v3 0 ((x1).toInt64)) (fun s11 => some (.ok 0, s11, 0, 0))) (fun n3 s2 => if n3 = 0 then some (.ok 1, s2, 0, 0) else if n3 = 2 then some (.ok 2, s2, 0, 0) else none)
def fL_whyNotCopy (v0 : Option Nat) (v1 : Int32) (v2 : Int32) (v3 : Option Nat) (σ : HpT) : AT (Int32) := bnC (fX9_whyNotCopy v0 v1 v2 σ) (fun x1 s2 => bnP (sJ s2 v3 0 ((x1).toInt64)) (fun s11 => some (.ok 0, s11, 0, 0))) (fun n3 s2 => if n3 = 0 then some (.ok 1, s2, 0, 0) else if n3 = 1 then some (.ok 2, s2, 0, 0) else if n3 = 2 then some (.ok 3, s2, 0, 0) else none)
def fL_whyNotStrike (v0 : Option Nat) (v1 : Int32) (v2 : Option Nat) (σ : HpT) : AT (Int32) := bnC (xA σ (fX9_whyNotStrike v0 v1 σ)) (fun x1 s2 => bnP (sJ s2 v2 0 ((x1).toInt64)) (fun s11 => some (.ok 0, s11, 0, 0))) (fun n3 s2 => if n3 = 0 then some (.ok 1, s2, 0, 0) else none)
def fL_unknownIf (v0 : Option Nat) (v1 : Int32) (v2 : Option Nat) (σ : HpT) : AT (Int32) := bnC (xA σ (fX9_unknownIf v0 v1 σ)) (fun x1 s2 => bnP (sJ s2 v2 0 ((x1).toInt64)) (fun s11 => some (.ok 0, s11, 0, 0))) (fun n3 s2 => if n3 = 0 then some (.ok 1, s2, 0, 0) else if n3 = 1 then some (.ok 2, s2, 0, 0) else none)
def fL_worstLeaf (v0 : Option Nat) (v1 : Option Nat) (σ : HpT) : AT (Int32) := bnC (xA σ (fX9_worstLeaf v0 σ)) (fun x1 s2 => bnP (sJ s2 v1 0 ((x1).toInt64)) (fun s11 => some (.ok 0, s11, 0, 0))) (fun n3 s2 => if n3 = 0 then some (.ok 1, s2, 0, 0) else none)
def fL_shakenOut (v0 : Option Nat) (v1 : Option Nat) (σ : HpT) : AT (Int32) := bnC (fX9_shakenOut v0 σ) (fun x1 s2 => bnP (sJ s2 v1 0 ((x1).toInt64)) (fun s11 => some (.ok 0, s11, 0, 0))) (fun n3 s2 => if n3 = 0 then some (.ok 1, s2, 0, 0) else none)
def fL_leavesFor (v0 : Option Nat) (v1 : Int32) (v2 : Option Nat) (σ : HpT) : AT (Int32) := bnC (xA σ (fX9_leavesFor v0 v1 σ)) (fun x1 s2 => bnP (sJ s2 v2 0 ((x1).toInt64)) (fun s11 => some (.ok 0, s11, 0, 0))) (fun n3 s2 => if n3 = 0 then some (.ok 1, s2, 0, 0) else if n3 = 2 then some (.ok 2, s2, 0, 0) else none)
def fL_copyWords (v0 : Option Nat) (v1 : Int32) (v2 : Int32) (v3 : Option Nat) (σ : HpT) : AT (Int32) := bnC (fX9_copyWords v0 v1 v2 σ) (fun x1 s2 => bnP (sJ s2 v3 0 ((x1).toInt64)) (fun s11 => some (.ok 0, s11, 0, 0))) (fun n3 s2 => if n3 = 0 then some (.ok 1, s2, 0, 0) else if n3 = 1 then some (.ok 2, s2, 0, 0) else if n3 = 2 then some (.ok 3, s2, 0, 0) else none)
def fL_bestCopy (v0 : Option Nat) (v1 : Int32) (v2 : Option Nat) (σ : HpT) : AT (Int32) := bnC (fX9_bestCopy v0 v1 σ) (fun x1 s2 => bnP (sJ s2 v2 0 ((x1).toInt64)) (fun s11 => some (.ok 0, s11, 0, 0))) (fun n3 s2 => if n3 = 0 then some (.ok 1, s2, 0, 0) else if n3 = 1 then some (.ok 2, s2, 0, 0) else none)
def fL_standingIf (v0 : Option Nat) (v1 : Int32) (v2 : Int32) (v3 : Option Nat) (σ : HpT) : AT (Int32) := bnC (fX9_standingIf v0 v1 v2 σ) (fun x1 s2 => bnP (sJ s2 v3 0 ((x1).toInt64)) (fun s11 => some (.ok 0, s11, 0, 0))) (fun n3 s2 => if n3 = 0 then some (.ok 1, s2, 0, 0) else if n3 = 2 then some (.ok 2, s2, 0, 0) else none)
def fL_findWord (v0 : Option Nat) (v1 : Int32) (v2 : Option Nat) (σ : HpT) : AT (Int32) := bnC (fX9_findWord v0 v1 σ) (fun x1 s2 => bnP (sJ s2 v2 0 ((x1).toInt64)) (fun s11 => some (.ok 0, s11, 0, 0))) (fun n3 s2 => if n3 = 0 then some (.ok 1, s2, 0, 0) else if n3 = 1 then some (.ok 2, s2, 0, 0) else none)
def fL_longest (v0 : Option Nat) (v1 : Int32) (v2 : Option Nat) (σ : HpT) : AT (Int32) := bnC (xA σ (fX9_longest v0 v1 σ)) (fun x1 s2 => bnP (sJ s2 v2 0 ((x1).toInt64)) (fun s11 => some (.ok 0, s11, 0, 0))) (fun n3 s2 => if n3 = 0 then some (.ok 1, s2, 0, 0) else if n3 = 1 then some (.ok 2, s2, 0, 0) else none)
def fL_common (v0 : Option Nat) (v1 : Int32) (v2 : Int32) (v3 : Option Nat) (σ : HpT) : AT (Int32) := bnC (xA σ (fX9_common v0 v1 v2 σ)) (fun x1 s2 => bnP (sJ s2 v3 0 ((x1).toInt64)) (fun s11 => some (.ok 0, s11, 0, 0))) (fun n3 s2 => if n3 = 0 then some (.ok 1, s2, 0, 0) else if n3 = 1 then some (.ok 2, s2, 0, 0) else none)
def fL_knownShare (v0 : Option Nat) (v1 : Option Nat) (σ : HpT) : AT (Int32) := bnC (xA σ (fX9_knownShare v0 σ)) (fun x1 s2 => bnP (chD (FP.f2d x1)) (fun u9 => bnP (sD s2 v1 0 (FP.f2d x1)) (fun s13 => some (.ok 0, s13, 0, 0)))) (fun n3 s2 => if n3 = 0 then some (.ok 1, s2, 0, 0) else none)
def fL_meanWords (v0 : Option Nat) (v1 : Option Nat) (σ : HpT) : AT (Int32) := bnC (xA σ (fX9_meanWords v0 σ)) (fun x1 s2 => bnP (sD s2 v1 0 x1) (fun s11 => some (.ok 0, s11, 0, 0))) (fun n3 s2 => if n3 = 0 then some (.ok 1, s2, 0, 0) else none)
def fL_writeAct (v0 : Option Nat) (v1 : Int32) (v2 : Option Nat) (σ : HpT) : AT (Int32) := bnC (fX9_writeAct v0 v1 σ) (fun x1 s2 => bnP (sJ s2 v2 0 ((x1).toInt64)) (fun s11 => some (.ok 0, s11, 0, 0))) (fun n3 s2 => if n3 = 0 then some (.ok 1, s2, 0, 0) else if n3 = 1 then some (.ok 2, s2, 0, 0) else none)
def fL_writeStanding (v0 : Option Nat) (v1 : Int32) (v2 : Option Nat) (σ : HpT) : AT (Int32) := bnC (fX9_writeStanding v0 v1 σ) (fun x1 s2 => bnP (sJ s2 v2 0 ((x1).toInt64)) (fun s11 => some (.ok 0, s11, 0, 0))) (fun n3 s2 => if n3 = 0 then some (.ok 1, s2, 0, 0) else if n3 = 1 then some (.ok 2, s2, 0, 0) else none)
def fL_writeLeaf (v0 : Option Nat) (v1 : Int32) (v2 : Option Nat) (σ : HpT) : AT (Int32) := bnC (fX9_writeLeaf v0 v1 σ) (fun x1 s2 => bnP (sJ s2 v2 0 ((x1).toInt64)) (fun s11 => some (.ok 0, s11, 0, 0))) (fun n3 s2 => if n3 = 0 then some (.ok 1, s2, 0, 0) else if n3 = 1 then some (.ok 2, s2, 0, 0) else none)
def fL_writeCopy (v0 : Option Nat) (v1 : Int32) (v2 : Option Nat) (σ : HpT) : AT (Int32) := bnC (fX9_writeCopy v0 v1 σ) (fun x1 s2 => bnP (sJ s2 v2 0 ((x1).toInt64)) (fun s11 => some (.ok 0, s11, 0, 0))) (fun n3 s2 => if n3 = 0 then some (.ok 1, s2, 0, 0) else if n3 = 1 then some (.ok 2, s2, 0, 0) else none)
def fL_textByte (v0 : Option Nat) (v1 : Int32) (v2 : Option Nat) (σ : HpT) : AT (Int32) := bnC (xA σ (fX9_textByte v0 v1 σ)) (fun x1 s2 => bnP (sJ s2 v2 0 ((x1).toInt64)) (fun s11 => some (.ok 0, s11, 0, 0))) (fun n3 s2 => if n3 = 1 then some (.ok 1, s2, 0, 0) else none)
def fL_begin (v0 : Option Nat) (v1 : Int32) (v2 : Int32) (v3 : Option Nat) (σ : HpT) : AT (Int32) := bnC (fX9_begin v0 v1 v2 σ) (fun x1 s2 => bnP (sJ s2 v3 0 ((x1).toInt64)) (fun s11 => some (.ok 0, s11, 0, 0))) (fun n3 s2 => if n3 = 0 then some (.ok 1, s2, 0, 0) else if n3 = 1 then some (.ok 2, s2, 0, 0) else if n3 = 2 then some (.ok 3, s2, 0, 0) else none)
def fL_strike (v0 : Option Nat) (v1 : Int32) (v2 : Option Nat) (σ : HpT) : AT (Int32) := bnC (fX9_strike v0 v1 σ) (fun x1 s2 => bnP (sJ s2 v2 0 ((x1).toInt64)) (fun s11 => some (.ok 0, s11, 0, 0))) (fun n3 s2 => if n3 = 0 then some (.ok 1, s2, 0, 0) else if n3 = 2 then some (.ok 2, s2, 0, 0) else none)
def fL_strikeClause (v0 : Option Nat) (v1 : Int32) (v2 : Option Nat) (σ : HpT) : AT (Int32) := bnC (fX9_strikeClause v0 v1 σ) (fun x1 s2 => bnP (sJ s2 v2 0 ((x1).toInt64)) (fun s11 => some (.ok 0, s11, 0, 0))) (fun n3 s2 => if n3 = 0 then some (.ok 1, s2, 0, 0) else if n3 = 2 then some (.ok 2, s2, 0, 0) else none)
def fL_interline (v0 : Option Nat) (v1 : Int32) (v2 : Int32) (v3 : Option Nat) (σ : HpT) : AT (Int32) := bnC (fX9_interline v0 v1 v2 σ) (fun x1 s2 => bnP (sJ s2 v3 0 ((x1).toInt64)) (fun s11 => some (.ok 0, s11, 0, 0))) (fun n3 s2 => if n3 = 0 then some (.ok 1, s2, 0, 0) else if n3 = 1 then some (.ok 2, s2, 0, 0) else if n3 = 2 then some (.ok 3, s2, 0, 0) else none)
def fL_seal (v0 : Option Nat) (v1 : Int32) (v2 : Int32) (v3 : Option Nat) (σ : HpT) : AT (Int32) := bnC (fX9_seal v0 v1 v2 σ) (fun x1 s2 => bnP (sJ s2 v3 0 ((x1).toInt64)) (fun s11 => some (.ok 0, s11, 0, 0))) (fun n3 s2 => if n3 = 0 then some (.ok 1, s2, 0, 0) else if n3 = 2 then some (.ok 2, s2, 0, 0) else none)
def fL_cancel (v0 : Option Nat) (v1 : Option Nat) (σ : HpT) : AT (Int32) := bnC (fX9_cancel v0 σ) (fun x1 s2 => bnP (sJ s2 v1 0 ((x1).toInt64)) (fun s11 => some (.ok 0, s11, 0, 0))) (fun n3 s2 => if n3 = 0 then some (.ok 1, s2, 0, 0) else if n3 = 2 then some (.ok 2, s2, 0, 0) else none)
def fL_addCopy (v0 : Option Nat) (v1 : Int32) (v2 : Int32) (v3 : Option Nat) (σ : HpT) : AT (Int32) := bnC (fX9_addCopy v0 v1 v2 σ) (fun x1 s2 => bnP (sJ s2 v3 0 ((x1).toInt64)) (fun s11 => some (.ok 0, s11, 0, 0))) (fun n3 s2 => if n3 = 0 then some (.ok 1, s2, 0, 0) else if n3 = 1 then some (.ok 2, s2, 0, 0) else if n3 = 2 then some (.ok 3, s2, 0, 0) else none)
def fL_burn (v0 : Option Nat) (v1 : Int32) (v2 : Option Nat) (σ : HpT) : AT (Int32) := bnC (fX9_burn v0 v1 σ) (fun x1 s2 => bnP (sJ s2 v2 0 ((x1).toInt64)) (fun s11 => some (.ok 0, s11, 0, 0))) (fun n3 s2 => if n3 = 0 then some (.ok 1, s2, 0, 0) else if n3 = 1 then some (.ok 2, s2, 0, 0) else none)
def fL_lose (v0 : Option Nat) (v1 : Int32) (v2 : Option Nat) (σ : HpT) : AT (Int32) := bnC (fX9_lose v0 v1 σ) (fun x1 s2 => bnP (sJ s2 v2 0 ((x1).toInt64)) (fun s11 => some (.ok 0, s11, 0, 0))) (fun n3 s2 => if n3 = 0 then some (.ok 1, s2, 0, 0) else if n3 = 1 then some (.ok 2, s2, 0, 0) else if n3 = 2 then some (.ok 3, s2, 0, 0) else none)
def fL_recover (v0 : Option Nat) (v1 : Int32) (v2 : Option Nat) (σ : HpT) : AT (Int32) := bnC (fX9_recover v0 v1 σ) (fun x1 s2 => bnP (sJ s2 v2 0 ((x1).toInt64)) (fun s11 => some (.ok 0, s11, 0, 0))) (fun n3 s2 => if n3 = 0 then some (.ok 1, s2, 0, 0) else if n3 = 1 then some (.ok 2, s2, 0, 0) else if n3 = 2 then some (.ok 3, s2, 0, 0) else none)
def fL_sew (v0 : Option Nat) (v1 : Int32) (v2 : Option Nat) (σ : HpT) : AT (Int32) := bnC (fX9_sew v0 v1 σ) (fun x1 s2 => bnP (sJ s2 v2 0 ((x1).toInt64)) (fun s11 => some (.ok 0, s11, 0, 0))) (fun n3 s2 => if n3 = 0 then some (.ok 1, s2, 0, 0) else if n3 = 1 then some (.ok 2, s2, 0, 0) else if n3 = 2 then some (.ok 3, s2, 0, 0) else none)
def fL_shake (v0 : Option Nat) (v1 : Option Nat) (σ : HpT) : AT (Int32) := bnC (fX9_shake v0 σ) (fun x1 s2 => bnP (sJ s2 v1 0 ((x1).toInt64)) (fun s11 => some (.ok 0, s11, 0, 0))) (fun n3 s2 => if n3 = 0 then some (.ok 1, s2, 0, 0) else none)
def fL_undo (v0 : Option Nat) (v1 : Option Nat) (σ : HpT) : AT (Int32) := bnC (fX9_undo v0 σ) (fun x1 s2 => bnP (sJ s2 v1 0 ((x1).toInt64)) (fun s11 => some (.ok 0, s11, 0, 0))) (fun n3 s2 => if n3 = 0 then some (.ok 1, s2, 0, 0) else none)
def fL_save (v0 : Option Nat) (v1 : Int32) (v2 : Option Nat) (σ : HpT) : AT (Int32) := bnC (fX9_save v0 v1 σ) (fun x1 s2 => bnP (sJ s2 v2 0 ((x1).toInt64)) (fun s11 => some (.ok 0, s11, 0, 0))) (fun n3 s2 => if n3 = 0 then some (.ok 1, s2, 0, 0) else if n3 = 1 then some (.ok 2, s2, 0, 0) else none)
def fL_restore (v0 : Option Nat) (v1 : Int32) (v2 : Option Nat) (σ : HpT) : AT (Int32) := bnC (fX9_restore v0 v1 σ) (fun x1 s2 => bnP (sJ s2 v2 0 ((x1).toInt64)) (fun s11 => some (.ok 0, s11, 0, 0))) (fun n3 s2 => if n3 = 1 then some (.ok 1, s2, 0, 0) else if n3 = 0 then some (.ok 2, s2, 0, 0) else none)
set_option maxRecDepth 100000 in
set_option maxHeartbeats 4000000 in
theorem cL_loadc {l : Launch} {v0 : Option Nat} {v1 : Int32} {v2 : Option Nat} {σ : HpT} {o : Except Nat (Int32)} {σ' : HpT} {a b : Nat} (h : fL_load v0 v1 v2 σ = some (o, σ', a, b)) : CtW l yL_load cL_load 4 (some .int) [(0, 9, 12, 13), (0, 9, 15, 15)] 11 238 [va_rf v0, .int v1, va_rf v2] σ (oI o) σ' a b := by
  unfold fL_load at h
  refine ctW_start miw_L_load.1 rfl (al_le (al_1 (rf_cat _) (al_1 rfl (al_1 (rf_cat _) al_n))) (Nat.le_of_ble_eq_true rfl)) (ag_1 (rf_cat _) (ag_1 rfl (ag_1 (rf_cat _) ag_n))) (fun Δ Γ B hE => ?_)
  have hka : 0 + a = a := Nat.zero_add a
  have hkb : 0 + b = b := Nat.zero_add b
  have hla : a ≤ a := Nat.le_refl a
  have hlb : b ≤ b := Nat.le_refl b
  refine g_aload_n B 2 dL_load_0 rfl rfl ?_
  refine g_iconst (v := 0) B dL_load_1 (by decide) ?_
  refine g_aload_n B 0 dL_load_2 rfl rfl ?_
  refine g_iload_n B 1 dL_load_3 rfl rfl ?_
  replace h := bnC_s h
  rcases h with ⟨x1, s2, a5, b6, a7, b8, h4, h, ea, eb⟩ | ⟨n3, s2, a5, b6, a7, b8, h4, h, ea, eb⟩
  · subst ea; subst eb
    have hka := bk hka
    have hkb := bk hkb
    refine g_callVsA (st := [.int 0, va_rf v2]) B (cX9_loadc (o := .ok x1) h4) (Nat.le_of_ble_eq_true rfl) rfl rfl mi_X9_load lk_RL_7 ⟨Nat.le_of_ble_eq_true rfl, Nat.le_of_ble_eq_true rfl⟩ rfl rfl (Nat.le_of_ble_eq_true rfl) dL_load_4 (Nat.le_trans (bm hka) hla) (Nat.le_trans (bm hkb) hlb) ?_
    refine g_i2l B dL_load_7 ?_
    replace h := bnP_s h
    obtain ⟨s11, h10, h⟩ := h
    refine g_last B dL_load_8 h10 ?_
    refine g_goto B 18 dL_load_9 (by decide) ?_
    refine g_iconst (v := 0) B dL_load_18 (by decide) ?_
    obtain ⟨w1, w2, w3, w4⟩ := inA h
    clear h
    subst w1
    subst w2
    subst w3
    subst w4
    exact g_iretW B hE (Nat.le_trans (Nat.le_of_eq hka) hla) (Nat.le_trans (Nat.le_of_eq hkb) hlb) dL_load_19
  · subst ea; subst eb
    have hka := bk hka
    have hkb := bk hkb
    by_cases q1 : n3 = 1
    · subst q1; replace h := ifp rfl h
      refine g_callVk (x := 1) (st := [.int 0, va_rf v2]) (xe := ⟨0, 9, 12, 13⟩) B hE ⟨[], [⟨0, 9, 15, 15⟩], rfl, ca_p0, rfl, by decide, clk_13, cst_1⟩ (st_n B dL_load_12 rfl (Nat.le_of_ble_eq_true rfl)) (cX9_loadc (o := .error 1) h4) (Nat.le_of_ble_eq_true rfl) rfl rfl mi_X9_load lk_RL_7 ⟨Nat.le_of_ble_eq_true rfl, Nat.le_of_ble_eq_true rfl⟩ rfl rfl (Nat.le_of_ble_eq_true rfl) dL_load_4 (Nat.le_trans (bm hka) hla) (Nat.le_trans (bm hkb) hlb) ?_
      refine g_iconst (v := 1) B dL_load_13 (by decide) ?_
      obtain ⟨w1, w2, w3, w4⟩ := inA h
      clear h
      subst w1
      subst w2
      subst w3
      subst w4
      exact g_iretW B hE (Nat.le_trans (Nat.le_of_eq hka) hla) (Nat.le_trans (Nat.le_of_eq hkb) hlb) dL_load_14
    replace h := ifn q1 h
    by_cases q2 : n3 = 2
    · subst q2; replace h := ifp rfl h
      refine g_callVk (x := 2) (st := [.int 0, va_rf v2]) (xe := ⟨0, 9, 15, 15⟩) B hE ⟨[⟨0, 9, 12, 13⟩], [], rfl, (ca_p1 (Or.inr ⟨by decide, _, clk_13, hE.2.2.2.2.2.1⟩) ca_p0), rfl, by decide, clk_15, cst_2⟩ (st_n B dL_load_15 rfl (Nat.le_of_ble_eq_true rfl)) (cX9_loadc (o := .error 2) h4) (Nat.le_of_ble_eq_true rfl) rfl rfl mi_X9_load lk_RL_7 ⟨Nat.le_of_ble_eq_true rfl, Nat.le_of_ble_eq_true rfl⟩ rfl rfl (Nat.le_of_ble_eq_true rfl) dL_load_4 (Nat.le_trans (bm hka) hla) (Nat.le_trans (bm hkb) hlb) ?_
      refine g_iconst (v := 2) B dL_load_16 (by decide) ?_
      obtain ⟨w1, w2, w3, w4⟩ := inA h
      clear h
      subst w1
      subst w2
      subst w3
      subst w4
      exact g_iretW B hE (Nat.le_trans (Nat.le_of_eq hka) hla) (Nat.le_trans (Nat.le_of_eq hkb) hlb) dL_load_17
    replace h := ifn q2 h
    cases h
set_option maxRecDepth 100000 in
set_option maxHeartbeats 4000000 in
theorem cL_countc {l : Launch} {v0 : Option Nat} {v1 : Int32} {v2 : Option Nat} {σ : HpT} {o : Except Nat (Int32)} {σ' : HpT} {a b : Nat} (h : fL_count v0 v1 v2 σ = some (o, σ', a, b)) : CtW l yL_count cL_count 4 (some .int) [(0, 9, 12, 20), (0, 9, 15, 15)] 8 132 [va_rf v0, .int v1, va_rf v2] σ (oI o) σ' a b := by
  unfold fL_count at h
  refine ctW_start miw_L_count.1 rfl (al_le (al_1 (rf_cat _) (al_1 rfl (al_1 (rf_cat _) al_n))) (Nat.le_of_ble_eq_true rfl)) (ag_1 (rf_cat _) (ag_1 rfl (ag_1 (rf_cat _) ag_n))) (fun Δ Γ B hE => ?_)
  have hka : 0 + a = a := Nat.zero_add a
  have hkb : 0 + b = b := Nat.zero_add b
  have hla : a ≤ a := Nat.le_refl a
  have hlb : b ≤ b := Nat.le_refl b
  refine g_aload_n B 2 dL_count_0 rfl rfl ?_
  refine g_iconst (v := 0) B dL_count_1 (by decide) ?_
  refine g_aload_n B 0 dL_count_2 rfl rfl ?_
  refine g_iload_n B 1 dL_count_3 rfl rfl ?_
  replace h := bnC_s h
  rcases h with ⟨x1, s2, a5, b6, a7, b8, h4, h, ea, eb⟩ | ⟨n3, s2, a5, b6, a7, b8, h4, h, ea, eb⟩
  · subst ea; subst eb
    obtain ⟨h4x, e1, e2, e3⟩ := xA_s h4
    clear h4
    subst e1; subst e2; subst e3
    have hka := bk hka
    have hkb := bk hkb
    refine g_callVsA (st := [.int 0, va_rf v2]) B (cX9_countc (o := .ok x1) h4x) (Nat.le_of_ble_eq_true rfl) rfl rfl mi_X9_count lk_RL_17 ⟨Nat.le_of_ble_eq_true rfl, Nat.le_of_ble_eq_true rfl⟩ rfl rfl (Nat.le_of_ble_eq_true rfl) dL_count_4 (Nat.le_trans (bm hka) hla) (Nat.le_trans (bm hkb) hlb) ?_
    refine g_i2l B dL_count_7 ?_
    replace h := bnP_s h
    obtain ⟨s11, h10, h⟩ := h
    refine g_last B dL_count_8 h10 ?_
    refine g_goto B 18 dL_count_9 (by decide) ?_
    refine g_iconst (v := 0) B dL_count_18 (by decide) ?_
    obtain ⟨w1, w2, w3, w4⟩ := inA h
    clear h
    subst w1
    subst w2
    subst w3
    subst w4
    exact g_iretW B hE (Nat.le_trans (Nat.le_of_eq hka) hla) (Nat.le_trans (Nat.le_of_eq hkb) hlb) dL_count_19
  · subst ea; subst eb
    obtain ⟨h4x, e1, e2, e3⟩ := xA_s h4
    clear h4
    subst e1; subst e2; subst e3
    have hka := bk hka
    have hkb := bk hkb
    by_cases q0 : n3 = 0
    · subst q0; replace h := ifp rfl h
      refine g_callVk (x := 0) (st := [.int 0, va_rf v2]) (xe := ⟨0, 9, 12, 20⟩) B hE ⟨[], [⟨0, 9, 15, 15⟩], rfl, ca_p0, rfl, by decide, clk_20, cst_0⟩ (st_n B dL_count_12 rfl (Nat.le_of_ble_eq_true rfl)) (cX9_countc (o := .error 0) h4x) (Nat.le_of_ble_eq_true rfl) rfl rfl mi_X9_count lk_RL_17 ⟨Nat.le_of_ble_eq_true rfl, Nat.le_of_ble_eq_true rfl⟩ rfl rfl (Nat.le_of_ble_eq_true rfl) dL_count_4 (Nat.le_trans (bm hka) hla) (Nat.le_trans (bm hkb) hlb) ?_
      refine g_iconst (v := 1) B dL_count_13 (by decide) ?_
      obtain ⟨w1, w2, w3, w4⟩ := inA h
      clear h
      subst w1
      subst w2
      subst w3
      subst w4
      exact g_iretW B hE (Nat.le_trans (Nat.le_of_eq hka) hla) (Nat.le_trans (Nat.le_of_eq hkb) hlb) dL_count_14
    replace h := ifn q0 h
    by_cases q2 : n3 = 2
    · subst q2; replace h := ifp rfl h
      refine g_callVk (x := 2) (st := [.int 0, va_rf v2]) (xe := ⟨0, 9, 15, 15⟩) B hE ⟨[⟨0, 9, 12, 20⟩], [], rfl, (ca_p1 (Or.inr ⟨by decide, _, clk_20, hE.2.2.2.2.1⟩) ca_p0), rfl, by decide, clk_15, cst_2⟩ (st_n B dL_count_15 rfl (Nat.le_of_ble_eq_true rfl)) (cX9_countc (o := .error 2) h4x) (Nat.le_of_ble_eq_true rfl) rfl rfl mi_X9_count lk_RL_17 ⟨Nat.le_of_ble_eq_true rfl, Nat.le_of_ble_eq_true rfl⟩ rfl rfl (Nat.le_of_ble_eq_true rfl) dL_count_4 (Nat.le_trans (bm hka) hla) (Nat.le_trans (bm hkb) hlb) ?_
      refine g_iconst (v := 2) B dL_count_16 (by decide) ?_
      obtain ⟨w1, w2, w3, w4⟩ := inA h
      clear h
      subst w1
      subst w2
      subst w3
      subst w4
      exact g_iretW B hE (Nat.le_trans (Nat.le_of_eq hka) hla) (Nat.le_trans (Nat.le_of_eq hkb) hlb) dL_count_17
    replace h := ifn q2 h
    cases h
set_option maxRecDepth 100000 in
set_option maxHeartbeats 4000000 in
theorem cL_actc {l : Launch} {v0 : Option Nat} {v1 : Int32} {v2 : Int32} {v3 : Option Nat} {σ : HpT} {o : Except Nat (Int32)} {σ' : HpT} {a b : Nat} (h : fL_act v0 v1 v2 v3 σ = some (o, σ', a, b)) : CtW l yL_act cL_act 5 (some .int) [(0, 10, 13, 20), (0, 10, 17, 13), (0, 10, 21, 15)] 8 134 [va_rf v0, .int v1, .int v2, va_rf v3] σ (oI o) σ' a b := by
  unfold fL_act at h
  refine ctW_start miw_L_act.1 rfl (al_le (al_1 (rf_cat _) (al_1 rfl (al_1 rfl (al_1 (rf_cat _) al_n)))) (Nat.le_of_ble_eq_true rfl)) (ag_1 (rf_cat _) (ag_1 rfl (ag_1 rfl (ag_1 (rf_cat _) ag_n)))) (fun Δ Γ B hE => ?_)
  have hka : 0 + a = a := Nat.zero_add a
  have hkb : 0 + b = b := Nat.zero_add b
  have hla : a ≤ a := Nat.le_refl a
  have hlb : b ≤ b := Nat.le_refl b
  refine g_aload_n B 3 dL_act_0 rfl rfl ?_
  refine g_iconst (v := 0) B dL_act_1 (by decide) ?_
  refine g_aload_n B 0 dL_act_2 rfl rfl ?_
  refine g_iload_n B 1 dL_act_3 rfl rfl ?_
  refine g_iload_n B 2 dL_act_4 rfl rfl ?_
  replace h := bnC_s h
  rcases h with ⟨x1, s2, a5, b6, a7, b8, h4, h, ea, eb⟩ | ⟨n3, s2, a5, b6, a7, b8, h4, h, ea, eb⟩
  · subst ea; subst eb
    obtain ⟨h4x, e1, e2, e3⟩ := xA_s h4
    clear h4
    subst e1; subst e2; subst e3
    have hka := bk hka
    have hkb := bk hkb
    refine g_callVsA (st := [.int 0, va_rf v3]) B (cX9_actc (o := .ok x1) h4x) (Nat.le_of_ble_eq_true rfl) rfl rfl mi_X9_act lk_RL_22 ⟨Nat.le_of_ble_eq_true rfl, Nat.le_of_ble_eq_true rfl⟩ rfl rfl (Nat.le_of_ble_eq_true rfl) dL_act_5 (Nat.le_trans (bm hka) hla) (Nat.le_trans (bm hkb) hlb) ?_
    refine g_i2l B dL_act_8 ?_
    replace h := bnP_s h
    obtain ⟨s11, h10, h⟩ := h
    refine g_last B dL_act_9 h10 ?_
    refine g_goto B 25 dL_act_10 (by decide) ?_
    refine g_iconst (v := 0) B dL_act_25 (by decide) ?_
    obtain ⟨w1, w2, w3, w4⟩ := inA h
    clear h
    subst w1
    subst w2
    subst w3
    subst w4
    exact g_iretW B hE (Nat.le_trans (Nat.le_of_eq hka) hla) (Nat.le_trans (Nat.le_of_eq hkb) hlb) dL_act_26
  · subst ea; subst eb
    obtain ⟨h4x, e1, e2, e3⟩ := xA_s h4
    clear h4
    subst e1; subst e2; subst e3
    have hka := bk hka
    have hkb := bk hkb
    by_cases q0 : n3 = 0
    · subst q0; replace h := ifp rfl h
      refine g_callVk (x := 0) (st := [.int 0, va_rf v3]) (xe := ⟨0, 10, 13, 20⟩) B hE ⟨[], [⟨0, 10, 17, 13⟩, ⟨0, 10, 21, 15⟩], rfl, ca_p0, rfl, by decide, clk_20, cst_0⟩ (st_1 B dL_act_13 (Nat.le_of_ble_eq_true rfl)) (cX9_actc (o := .error 0) h4x) (Nat.le_of_ble_eq_true rfl) rfl rfl mi_X9_act lk_RL_22 ⟨Nat.le_of_ble_eq_true rfl, Nat.le_of_ble_eq_true rfl⟩ rfl rfl (Nat.le_of_ble_eq_true rfl) dL_act_5 (Nat.le_trans (bm hka) hla) (Nat.le_trans (bm hkb) hlb) ?_
      refine g_iconst (v := 1) B dL_act_15 (by decide) ?_
      obtain ⟨w1, w2, w3, w4⟩ := inA h
      clear h
      subst w1
      subst w2
      subst w3
      subst w4
      exact g_iretW B hE (Nat.le_trans (Nat.le_of_eq hka) hla) (Nat.le_trans (Nat.le_of_eq hkb) hlb) dL_act_16
    replace h := ifn q0 h
    by_cases q1 : n3 = 1
    · subst q1; replace h := ifp rfl h
      refine g_callVk (x := 1) (st := [.int 0, va_rf v3]) (xe := ⟨0, 10, 17, 13⟩) B hE ⟨[⟨0, 10, 13, 20⟩], [⟨0, 10, 21, 15⟩], rfl, (ca_p1 (Or.inr ⟨by decide, _, clk_20, hE.2.2.2.1⟩) ca_p0), rfl, by decide, clk_13, cst_1⟩ (st_1 B dL_act_17 (Nat.le_of_ble_eq_true rfl)) (cX9_actc (o := .error 1) h4x) (Nat.le_of_ble_eq_true rfl) rfl rfl mi_X9_act lk_RL_22 ⟨Nat.le_of_ble_eq_true rfl, Nat.le_of_ble_eq_true rfl⟩ rfl rfl (Nat.le_of_ble_eq_true rfl) dL_act_5 (Nat.le_trans (bm hka) hla) (Nat.le_trans (bm hkb) hlb) ?_
      refine g_iconst (v := 2) B dL_act_19 (by decide) ?_
      obtain ⟨w1, w2, w3, w4⟩ := inA h
      clear h
      subst w1
      subst w2
      subst w3
      subst w4
      exact g_iretW B hE (Nat.le_trans (Nat.le_of_eq hka) hla) (Nat.le_trans (Nat.le_of_eq hkb) hlb) dL_act_20
    replace h := ifn q1 h
    by_cases q2 : n3 = 2
    · subst q2; replace h := ifp rfl h
      refine g_callVk (x := 2) (st := [.int 0, va_rf v3]) (xe := ⟨0, 10, 21, 15⟩) B hE ⟨[⟨0, 10, 13, 20⟩, ⟨0, 10, 17, 13⟩], [], rfl, (ca_p1 (Or.inr ⟨by decide, _, clk_20, hE.2.2.2.2.1⟩) (ca_p1 (Or.inr ⟨by decide, _, clk_13, hE.2.2.2.2.2.1⟩) ca_p0)), rfl, by decide, clk_15, cst_2⟩ (st_1 B dL_act_21 (Nat.le_of_ble_eq_true rfl)) (cX9_actc (o := .error 2) h4x) (Nat.le_of_ble_eq_true rfl) rfl rfl mi_X9_act lk_RL_22 ⟨Nat.le_of_ble_eq_true rfl, Nat.le_of_ble_eq_true rfl⟩ rfl rfl (Nat.le_of_ble_eq_true rfl) dL_act_5 (Nat.le_trans (bm hka) hla) (Nat.le_trans (bm hkb) hlb) ?_
      refine g_iconst (v := 3) B dL_act_23 (by decide) ?_
      obtain ⟨w1, w2, w3, w4⟩ := inA h
      clear h
      subst w1
      subst w2
      subst w3
      subst w4
      exact g_iretW B hE (Nat.le_trans (Nat.le_of_eq hka) hla) (Nat.le_trans (Nat.le_of_eq hkb) hlb) dL_act_24
    replace h := ifn q2 h
    cases h
set_option maxRecDepth 100000 in
set_option maxHeartbeats 4000000 in
theorem cL_wordc {l : Launch} {v0 : Option Nat} {v1 : Int32} {v2 : Int32} {v3 : Int32} {v4 : Option Nat} {σ : HpT} {o : Except Nat (Int32)} {σ' : HpT} {a b : Nat} (h : fL_word v0 v1 v2 v3 v4 σ = some (o, σ', a, b)) : CtW l yL_word cL_word 6 (some .int) [(0, 12, 15, 20), (0, 12, 19, 13), (0, 12, 23, 15)] 8 137 [va_rf v0, .int v1, .int v2, .int v3, va_rf v4] σ (oI o) σ' a b := by
  unfold fL_word at h
  refine ctW_start miw_L_word.1 rfl (al_le (al_1 (rf_cat _) (al_1 rfl (al_1 rfl (al_1 rfl (al_1 (rf_cat _) al_n))))) (Nat.le_of_ble_eq_true rfl)) (ag_1 (rf_cat _) (ag_1 rfl (ag_1 rfl (ag_1 rfl (ag_1 (rf_cat _) ag_n))))) (fun Δ Γ B hE => ?_)
  have hka : 0 + a = a := Nat.zero_add a
  have hkb : 0 + b = b := Nat.zero_add b
  have hla : a ≤ a := Nat.le_refl a
  have hlb : b ≤ b := Nat.le_refl b
  refine g_aload B 4 dL_word_0 rfl ?_
  refine g_iconst (v := 0) B dL_word_2 (by decide) ?_
  refine g_aload_n B 0 dL_word_3 rfl rfl ?_
  refine g_iload_n B 1 dL_word_4 rfl rfl ?_
  refine g_iload_n B 2 dL_word_5 rfl rfl ?_
  refine g_iload_n B 3 dL_word_6 rfl rfl ?_
  replace h := bnC_s h
  rcases h with ⟨x1, s2, a5, b6, a7, b8, h4, h, ea, eb⟩ | ⟨n3, s2, a5, b6, a7, b8, h4, h, ea, eb⟩
  · subst ea; subst eb
    obtain ⟨h4x, e1, e2, e3⟩ := xA_s h4
    clear h4
    subst e1; subst e2; subst e3
    have hka := bk hka
    have hkb := bk hkb
    refine g_callVsA (st := [.int 0, va_rf v4]) B (cX9_wordc (o := .ok x1) h4x) (Nat.le_of_ble_eq_true rfl) rfl rfl mi_X9_word lk_RL_26 ⟨Nat.le_of_ble_eq_true rfl, Nat.le_of_ble_eq_true rfl⟩ rfl rfl (Nat.le_of_ble_eq_true rfl) dL_word_7 (Nat.le_trans (bm hka) hla) (Nat.le_trans (bm hkb) hlb) ?_
    refine g_i2l B dL_word_10 ?_
    replace h := bnP_s h
    obtain ⟨s11, h10, h⟩ := h
    refine g_last B dL_word_11 h10 ?_
    refine g_goto B 27 dL_word_12 (by decide) ?_
    refine g_iconst (v := 0) B dL_word_27 (by decide) ?_
    obtain ⟨w1, w2, w3, w4⟩ := inA h
    clear h
    subst w1
    subst w2
    subst w3
    subst w4
    exact g_iretW B hE (Nat.le_trans (Nat.le_of_eq hka) hla) (Nat.le_trans (Nat.le_of_eq hkb) hlb) dL_word_28
  · subst ea; subst eb
    obtain ⟨h4x, e1, e2, e3⟩ := xA_s h4
    clear h4
    subst e1; subst e2; subst e3
    have hka := bk hka
    have hkb := bk hkb
    by_cases q0 : n3 = 0
    · subst q0; replace h := ifp rfl h
      refine g_callVk (x := 0) (st := [.int 0, va_rf v4]) (xe := ⟨0, 12, 15, 20⟩) B hE ⟨[], [⟨0, 12, 19, 13⟩, ⟨0, 12, 23, 15⟩], rfl, ca_p0, rfl, by decide, clk_20, cst_0⟩ (st_1 B dL_word_15 (Nat.le_of_ble_eq_true rfl)) (cX9_wordc (o := .error 0) h4x) (Nat.le_of_ble_eq_true rfl) rfl rfl mi_X9_word lk_RL_26 ⟨Nat.le_of_ble_eq_true rfl, Nat.le_of_ble_eq_true rfl⟩ rfl rfl (Nat.le_of_ble_eq_true rfl) dL_word_7 (Nat.le_trans (bm hka) hla) (Nat.le_trans (bm hkb) hlb) ?_
      refine g_iconst (v := 1) B dL_word_17 (by decide) ?_
      obtain ⟨w1, w2, w3, w4⟩ := inA h
      clear h
      subst w1
      subst w2
      subst w3
      subst w4
      exact g_iretW B hE (Nat.le_trans (Nat.le_of_eq hka) hla) (Nat.le_trans (Nat.le_of_eq hkb) hlb) dL_word_18
    replace h := ifn q0 h
    by_cases q1 : n3 = 1
    · subst q1; replace h := ifp rfl h
      refine g_callVk (x := 1) (st := [.int 0, va_rf v4]) (xe := ⟨0, 12, 19, 13⟩) B hE ⟨[⟨0, 12, 15, 20⟩], [⟨0, 12, 23, 15⟩], rfl, (ca_p1 (Or.inr ⟨by decide, _, clk_20, hE.2.2.2.1⟩) ca_p0), rfl, by decide, clk_13, cst_1⟩ (st_1 B dL_word_19 (Nat.le_of_ble_eq_true rfl)) (cX9_wordc (o := .error 1) h4x) (Nat.le_of_ble_eq_true rfl) rfl rfl mi_X9_word lk_RL_26 ⟨Nat.le_of_ble_eq_true rfl, Nat.le_of_ble_eq_true rfl⟩ rfl rfl (Nat.le_of_ble_eq_true rfl) dL_word_7 (Nat.le_trans (bm hka) hla) (Nat.le_trans (bm hkb) hlb) ?_
      refine g_iconst (v := 2) B dL_word_21 (by decide) ?_
      obtain ⟨w1, w2, w3, w4⟩ := inA h
      clear h
      subst w1
      subst w2
      subst w3
      subst w4
      exact g_iretW B hE (Nat.le_trans (Nat.le_of_eq hka) hla) (Nat.le_trans (Nat.le_of_eq hkb) hlb) dL_word_22
    replace h := ifn q1 h
    by_cases q2 : n3 = 2
    · subst q2; replace h := ifp rfl h
      refine g_callVk (x := 2) (st := [.int 0, va_rf v4]) (xe := ⟨0, 12, 23, 15⟩) B hE ⟨[⟨0, 12, 15, 20⟩, ⟨0, 12, 19, 13⟩], [], rfl, (ca_p1 (Or.inr ⟨by decide, _, clk_20, hE.2.2.2.2.1⟩) (ca_p1 (Or.inr ⟨by decide, _, clk_13, hE.2.2.2.2.2.1⟩) ca_p0)), rfl, by decide, clk_15, cst_2⟩ (st_1 B dL_word_23 (Nat.le_of_ble_eq_true rfl)) (cX9_wordc (o := .error 2) h4x) (Nat.le_of_ble_eq_true rfl) rfl rfl mi_X9_word lk_RL_26 ⟨Nat.le_of_ble_eq_true rfl, Nat.le_of_ble_eq_true rfl⟩ rfl rfl (Nat.le_of_ble_eq_true rfl) dL_word_7 (Nat.le_trans (bm hka) hla) (Nat.le_trans (bm hkb) hlb) ?_
      refine g_iconst (v := 3) B dL_word_25 (by decide) ?_
      obtain ⟨w1, w2, w3, w4⟩ := inA h
      clear h
      subst w1
      subst w2
      subst w3
      subst w4
      exact g_iretW B hE (Nat.le_trans (Nat.le_of_eq hka) hla) (Nat.le_trans (Nat.le_of_eq hkb) hlb) dL_word_26
    replace h := ifn q2 h
    cases h
set_option maxRecDepth 100000 in
set_option maxHeartbeats 4000000 in
theorem cL_letterc {l : Launch} {v0 : Option Nat} {v1 : Int32} {v2 : Int32} {v3 : Int32} {v4 : Option Nat} {σ : HpT} {o : Except Nat (Int32)} {σ' : HpT} {a b : Nat} (h : fL_letter v0 v1 v2 v3 v4 σ = some (o, σ', a, b)) : CtW l yL_letter cL_letter 6 (some .int) [(0, 12, 15, 20), (0, 12, 19, 13)] 8 135 [va_rf v0, .int v1, .int v2, .int v3, va_rf v4] σ (oI o) σ' a b := by
  unfold fL_letter at h
  refine ctW_start miw_L_letter.1 rfl (al_le (al_1 (rf_cat _) (al_1 rfl (al_1 rfl (al_1 rfl (al_1 (rf_cat _) al_n))))) (Nat.le_of_ble_eq_true rfl)) (ag_1 (rf_cat _) (ag_1 rfl (ag_1 rfl (ag_1 rfl (ag_1 (rf_cat _) ag_n))))) (fun Δ Γ B hE => ?_)
  have hka : 0 + a = a := Nat.zero_add a
  have hkb : 0 + b = b := Nat.zero_add b
  have hla : a ≤ a := Nat.le_refl a
  have hlb : b ≤ b := Nat.le_refl b
  refine g_aload B 4 dL_letter_0 rfl ?_
  refine g_iconst (v := 0) B dL_letter_2 (by decide) ?_
  refine g_aload_n B 0 dL_letter_3 rfl rfl ?_
  refine g_iload_n B 1 dL_letter_4 rfl rfl ?_
  refine g_iload_n B 2 dL_letter_5 rfl rfl ?_
  refine g_iload_n B 3 dL_letter_6 rfl rfl ?_
  replace h := bnC_s h
  rcases h with ⟨x1, s2, a5, b6, a7, b8, h4, h, ea, eb⟩ | ⟨n3, s2, a5, b6, a7, b8, h4, h, ea, eb⟩
  · subst ea; subst eb
    obtain ⟨h4x, e1, e2, e3⟩ := xA_s h4
    clear h4
    subst e1; subst e2; subst e3
    have hka := bk hka
    have hkb := bk hkb
    refine g_callVsA (st := [.int 0, va_rf v4]) B (cX9_letterc (o := .ok x1) h4x) (Nat.le_of_ble_eq_true rfl) rfl rfl mi_X9_letter lk_RL_30 ⟨Nat.le_of_ble_eq_true rfl, Nat.le_of_ble_eq_true rfl⟩ rfl rfl (Nat.le_of_ble_eq_true rfl) dL_letter_7 (Nat.le_trans (bm hka) hla) (Nat.le_trans (bm hkb) hlb) ?_
    refine g_i2l B dL_letter_10 ?_
    replace h := bnP_s h
    obtain ⟨s11, h10, h⟩ := h
    refine g_last B dL_letter_11 h10 ?_
    refine g_goto B 23 dL_letter_12 (by decide) ?_
    refine g_iconst (v := 0) B dL_letter_23 (by decide) ?_
    obtain ⟨w1, w2, w3, w4⟩ := inA h
    clear h
    subst w1
    subst w2
    subst w3
    subst w4
    exact g_iretW B hE (Nat.le_trans (Nat.le_of_eq hka) hla) (Nat.le_trans (Nat.le_of_eq hkb) hlb) dL_letter_24
  · subst ea; subst eb
    obtain ⟨h4x, e1, e2, e3⟩ := xA_s h4
    clear h4
    subst e1; subst e2; subst e3
    have hka := bk hka
    have hkb := bk hkb
    by_cases q0 : n3 = 0
    · subst q0; replace h := ifp rfl h
      refine g_callVk (x := 0) (st := [.int 0, va_rf v4]) (xe := ⟨0, 12, 15, 20⟩) B hE ⟨[], [⟨0, 12, 19, 13⟩], rfl, ca_p0, rfl, by decide, clk_20, cst_0⟩ (st_1 B dL_letter_15 (Nat.le_of_ble_eq_true rfl)) (cX9_letterc (o := .error 0) h4x) (Nat.le_of_ble_eq_true rfl) rfl rfl mi_X9_letter lk_RL_30 ⟨Nat.le_of_ble_eq_true rfl, Nat.le_of_ble_eq_true rfl⟩ rfl rfl (Nat.le_of_ble_eq_true rfl) dL_letter_7 (Nat.le_trans (bm hka) hla) (Nat.le_trans (bm hkb) hlb) ?_
      refine g_iconst (v := 1) B dL_letter_17 (by decide) ?_
      obtain ⟨w1, w2, w3, w4⟩ := inA h
      clear h
      subst w1
      subst w2
      subst w3
      subst w4
      exact g_iretW B hE (Nat.le_trans (Nat.le_of_eq hka) hla) (Nat.le_trans (Nat.le_of_eq hkb) hlb) dL_letter_18
    replace h := ifn q0 h
    by_cases q1 : n3 = 1
    · subst q1; replace h := ifp rfl h
      refine g_callVk (x := 1) (st := [.int 0, va_rf v4]) (xe := ⟨0, 12, 19, 13⟩) B hE ⟨[⟨0, 12, 15, 20⟩], [], rfl, (ca_p1 (Or.inr ⟨by decide, _, clk_20, hE.2.2.2.1⟩) ca_p0), rfl, by decide, clk_13, cst_1⟩ (st_1 B dL_letter_19 (Nat.le_of_ble_eq_true rfl)) (cX9_letterc (o := .error 1) h4x) (Nat.le_of_ble_eq_true rfl) rfl rfl mi_X9_letter lk_RL_30 ⟨Nat.le_of_ble_eq_true rfl, Nat.le_of_ble_eq_true rfl⟩ rfl rfl (Nat.le_of_ble_eq_true rfl) dL_letter_7 (Nat.le_trans (bm hka) hla) (Nat.le_trans (bm hkb) hlb) ?_
      refine g_iconst (v := 2) B dL_letter_21 (by decide) ?_
      obtain ⟨w1, w2, w3, w4⟩ := inA h
      clear h
      subst w1
      subst w2
      subst w3
      subst w4
      exact g_iretW B hE (Nat.le_trans (Nat.le_of_eq hka) hla) (Nat.le_trans (Nat.le_of_eq hkb) hlb) dL_letter_22
    replace h := ifn q1 h
    cases h
set_option maxRecDepth 100000 in
set_option maxHeartbeats 4000000 in
theorem cL_innerLetterc {l : Launch} {v0 : Option Nat} {v1 : Int32} {v2 : Int32} {v3 : Int32} {v4 : Int32} {v5 : Option Nat} {σ : HpT} {o : Except Nat (Int32)} {σ' : HpT} {a b : Nat} (h : fL_innerLetter v0 v1 v2 v3 v4 v5 σ = some (o, σ', a, b)) : CtW l yL_innerLetter cL_innerLetter 7 (some .int) [(0, 14, 17, 20), (0, 14, 21, 13)] 8 136 [va_rf v0, .int v1, .int v2, .int v3, .int v4, va_rf v5] σ (oI o) σ' a b := by
  unfold fL_innerLetter at h
  refine ctW_start miw_L_innerLetter.1 rfl (al_le (al_1 (rf_cat _) (al_1 rfl (al_1 rfl (al_1 rfl (al_1 rfl (al_1 (rf_cat _) al_n)))))) (Nat.le_of_ble_eq_true rfl)) (ag_1 (rf_cat _) (ag_1 rfl (ag_1 rfl (ag_1 rfl (ag_1 rfl (ag_1 (rf_cat _) ag_n)))))) (fun Δ Γ B hE => ?_)
  have hka : 0 + a = a := Nat.zero_add a
  have hkb : 0 + b = b := Nat.zero_add b
  have hla : a ≤ a := Nat.le_refl a
  have hlb : b ≤ b := Nat.le_refl b
  refine g_aload B 5 dL_innerLetter_0 rfl ?_
  refine g_iconst (v := 0) B dL_innerLetter_2 (by decide) ?_
  refine g_aload_n B 0 dL_innerLetter_3 rfl rfl ?_
  refine g_iload_n B 1 dL_innerLetter_4 rfl rfl ?_
  refine g_iload_n B 2 dL_innerLetter_5 rfl rfl ?_
  refine g_iload_n B 3 dL_innerLetter_6 rfl rfl ?_
  refine g_iload B 4 dL_innerLetter_7 rfl ?_
  replace h := bnC_s h
  rcases h with ⟨x1, s2, a5, b6, a7, b8, h4, h, ea, eb⟩ | ⟨n3, s2, a5, b6, a7, b8, h4, h, ea, eb⟩
  · subst ea; subst eb
    obtain ⟨h4x, e1, e2, e3⟩ := xA_s h4
    clear h4
    subst e1; subst e2; subst e3
    have hka := bk hka
    have hkb := bk hkb
    refine g_callVsA (st := [.int 0, va_rf v5]) B (cX9_innerLetterc (o := .ok x1) h4x) (Nat.le_of_ble_eq_true rfl) rfl rfl mi_X9_innerLetter lk_RL_33 ⟨Nat.le_of_ble_eq_true rfl, Nat.le_of_ble_eq_true rfl⟩ rfl rfl (Nat.le_of_ble_eq_true rfl) dL_innerLetter_9 (Nat.le_trans (bm hka) hla) (Nat.le_trans (bm hkb) hlb) ?_
    refine g_i2l B dL_innerLetter_12 ?_
    replace h := bnP_s h
    obtain ⟨s11, h10, h⟩ := h
    refine g_last B dL_innerLetter_13 h10 ?_
    refine g_goto B 25 dL_innerLetter_14 (by decide) ?_
    refine g_iconst (v := 0) B dL_innerLetter_25 (by decide) ?_
    obtain ⟨w1, w2, w3, w4⟩ := inA h
    clear h
    subst w1
    subst w2
    subst w3
    subst w4
    exact g_iretW B hE (Nat.le_trans (Nat.le_of_eq hka) hla) (Nat.le_trans (Nat.le_of_eq hkb) hlb) dL_innerLetter_26
  · subst ea; subst eb
    obtain ⟨h4x, e1, e2, e3⟩ := xA_s h4
    clear h4
    subst e1; subst e2; subst e3
    have hka := bk hka
    have hkb := bk hkb
    by_cases q0 : n3 = 0
    · subst q0; replace h := ifp rfl h
      refine g_callVk (x := 0) (st := [.int 0, va_rf v5]) (xe := ⟨0, 14, 17, 20⟩) B hE ⟨[], [⟨0, 14, 21, 13⟩], rfl, ca_p0, rfl, by decide, clk_20, cst_0⟩ (st_1 B dL_innerLetter_17 (Nat.le_of_ble_eq_true rfl)) (cX9_innerLetterc (o := .error 0) h4x) (Nat.le_of_ble_eq_true rfl) rfl rfl mi_X9_innerLetter lk_RL_33 ⟨Nat.le_of_ble_eq_true rfl, Nat.le_of_ble_eq_true rfl⟩ rfl rfl (Nat.le_of_ble_eq_true rfl) dL_innerLetter_9 (Nat.le_trans (bm hka) hla) (Nat.le_trans (bm hkb) hlb) ?_
      refine g_iconst (v := 1) B dL_innerLetter_19 (by decide) ?_
      obtain ⟨w1, w2, w3, w4⟩ := inA h
      clear h
      subst w1
      subst w2
      subst w3
      subst w4
      exact g_iretW B hE (Nat.le_trans (Nat.le_of_eq hka) hla) (Nat.le_trans (Nat.le_of_eq hkb) hlb) dL_innerLetter_20
    replace h := ifn q0 h
    by_cases q1 : n3 = 1
    · subst q1; replace h := ifp rfl h
      refine g_callVk (x := 1) (st := [.int 0, va_rf v5]) (xe := ⟨0, 14, 21, 13⟩) B hE ⟨[⟨0, 14, 17, 20⟩], [], rfl, (ca_p1 (Or.inr ⟨by decide, _, clk_20, hE.2.2.2.1⟩) ca_p0), rfl, by decide, clk_13, cst_1⟩ (st_1 B dL_innerLetter_21 (Nat.le_of_ble_eq_true rfl)) (cX9_innerLetterc (o := .error 1) h4x) (Nat.le_of_ble_eq_true rfl) rfl rfl mi_X9_innerLetter lk_RL_33 ⟨Nat.le_of_ble_eq_true rfl, Nat.le_of_ble_eq_true rfl⟩ rfl rfl (Nat.le_of_ble_eq_true rfl) dL_innerLetter_9 (Nat.le_trans (bm hka) hla) (Nat.le_trans (bm hkb) hlb) ?_
      refine g_iconst (v := 2) B dL_innerLetter_23 (by decide) ?_
      obtain ⟨w1, w2, w3, w4⟩ := inA h
      clear h
      subst w1
      subst w2
      subst w3
      subst w4
      exact g_iretW B hE (Nat.le_trans (Nat.le_of_eq hka) hla) (Nat.le_trans (Nat.le_of_eq hkb) hlb) dL_innerLetter_24
    replace h := ifn q1 h
    cases h
set_option maxRecDepth 100000 in
set_option maxHeartbeats 4000000 in
theorem cL_clausec {l : Launch} {v0 : Option Nat} {v1 : Int32} {v2 : Int32} {v3 : Int32} {v4 : Option Nat} {σ : HpT} {o : Except Nat (Int32)} {σ' : HpT} {a b : Nat} (h : fL_clause v0 v1 v2 v3 v4 σ = some (o, σ', a, b)) : CtW l yL_clause cL_clause 6 (some .int) [(0, 12, 15, 20), (0, 12, 19, 13), (0, 12, 23, 15)] 8 136 [va_rf v0, .int v1, .int v2, .int v3, va_rf v4] σ (oI o) σ' a b := by
  unfold fL_clause at h
  refine ctW_start miw_L_clause.1 rfl (al_le (al_1 (rf_cat _) (al_1 rfl (al_1 rfl (al_1 rfl (al_1 (rf_cat _) al_n))))) (Nat.le_of_ble_eq_true rfl)) (ag_1 (rf_cat _) (ag_1 rfl (ag_1 rfl (ag_1 rfl (ag_1 (rf_cat _) ag_n))))) (fun Δ Γ B hE => ?_)
  have hka : 0 + a = a := Nat.zero_add a
  have hkb : 0 + b = b := Nat.zero_add b
  have hla : a ≤ a := Nat.le_refl a
  have hlb : b ≤ b := Nat.le_refl b
  refine g_aload B 4 dL_clause_0 rfl ?_
  refine g_iconst (v := 0) B dL_clause_2 (by decide) ?_
  refine g_aload_n B 0 dL_clause_3 rfl rfl ?_
  refine g_iload_n B 1 dL_clause_4 rfl rfl ?_
  refine g_iload_n B 2 dL_clause_5 rfl rfl ?_
  refine g_iload_n B 3 dL_clause_6 rfl rfl ?_
  replace h := bnC_s h
  rcases h with ⟨x1, s2, a5, b6, a7, b8, h4, h, ea, eb⟩ | ⟨n3, s2, a5, b6, a7, b8, h4, h, ea, eb⟩
  · subst ea; subst eb
    have hka := bk hka
    have hkb := bk hkb
    refine g_callVsA (st := [.int 0, va_rf v4]) B (cX9_clausec (o := .ok x1) h4) (Nat.le_of_ble_eq_true rfl) rfl rfl mi_X9_clause lk_RL_37 ⟨Nat.le_of_ble_eq_true rfl, Nat.le_of_ble_eq_true rfl⟩ rfl rfl (Nat.le_of_ble_eq_true rfl) dL_clause_7 (Nat.le_trans (bm hka) hla) (Nat.le_trans (bm hkb) hlb) ?_
    refine g_i2l B dL_clause_10 ?_
    replace h := bnP_s h
    obtain ⟨s11, h10, h⟩ := h
    refine g_last B dL_clause_11 h10 ?_
    refine g_goto B 27 dL_clause_12 (by decide) ?_
    refine g_iconst (v := 0) B dL_clause_27 (by decide) ?_
    obtain ⟨w1, w2, w3, w4⟩ := inA h
    clear h
    subst w1
    subst w2
    subst w3
    subst w4
    exact g_iretW B hE (Nat.le_trans (Nat.le_of_eq hka) hla) (Nat.le_trans (Nat.le_of_eq hkb) hlb) dL_clause_28
  · subst ea; subst eb
    have hka := bk hka
    have hkb := bk hkb
    by_cases q0 : n3 = 0
    · subst q0; replace h := ifp rfl h
      refine g_callVk (x := 0) (st := [.int 0, va_rf v4]) (xe := ⟨0, 12, 15, 20⟩) B hE ⟨[], [⟨0, 12, 19, 13⟩, ⟨0, 12, 23, 15⟩], rfl, ca_p0, rfl, by decide, clk_20, cst_0⟩ (st_1 B dL_clause_15 (Nat.le_of_ble_eq_true rfl)) (cX9_clausec (o := .error 0) h4) (Nat.le_of_ble_eq_true rfl) rfl rfl mi_X9_clause lk_RL_37 ⟨Nat.le_of_ble_eq_true rfl, Nat.le_of_ble_eq_true rfl⟩ rfl rfl (Nat.le_of_ble_eq_true rfl) dL_clause_7 (Nat.le_trans (bm hka) hla) (Nat.le_trans (bm hkb) hlb) ?_
      refine g_iconst (v := 1) B dL_clause_17 (by decide) ?_
      obtain ⟨w1, w2, w3, w4⟩ := inA h
      clear h
      subst w1
      subst w2
      subst w3
      subst w4
      exact g_iretW B hE (Nat.le_trans (Nat.le_of_eq hka) hla) (Nat.le_trans (Nat.le_of_eq hkb) hlb) dL_clause_18
    replace h := ifn q0 h
    by_cases q1 : n3 = 1
    · subst q1; replace h := ifp rfl h
      refine g_callVk (x := 1) (st := [.int 0, va_rf v4]) (xe := ⟨0, 12, 19, 13⟩) B hE ⟨[⟨0, 12, 15, 20⟩], [⟨0, 12, 23, 15⟩], rfl, (ca_p1 (Or.inr ⟨by decide, _, clk_20, hE.2.2.2.1⟩) ca_p0), rfl, by decide, clk_13, cst_1⟩ (st_1 B dL_clause_19 (Nat.le_of_ble_eq_true rfl)) (cX9_clausec (o := .error 1) h4) (Nat.le_of_ble_eq_true rfl) rfl rfl mi_X9_clause lk_RL_37 ⟨Nat.le_of_ble_eq_true rfl, Nat.le_of_ble_eq_true rfl⟩ rfl rfl (Nat.le_of_ble_eq_true rfl) dL_clause_7 (Nat.le_trans (bm hka) hla) (Nat.le_trans (bm hkb) hlb) ?_
      refine g_iconst (v := 2) B dL_clause_21 (by decide) ?_
      obtain ⟨w1, w2, w3, w4⟩ := inA h
      clear h
      subst w1
      subst w2
      subst w3
      subst w4
      exact g_iretW B hE (Nat.le_trans (Nat.le_of_eq hka) hla) (Nat.le_trans (Nat.le_of_eq hkb) hlb) dL_clause_22
    replace h := ifn q1 h
    by_cases q2 : n3 = 2
    · subst q2; replace h := ifp rfl h
      refine g_callVk (x := 2) (st := [.int 0, va_rf v4]) (xe := ⟨0, 12, 23, 15⟩) B hE ⟨[⟨0, 12, 15, 20⟩, ⟨0, 12, 19, 13⟩], [], rfl, (ca_p1 (Or.inr ⟨by decide, _, clk_20, hE.2.2.2.2.1⟩) (ca_p1 (Or.inr ⟨by decide, _, clk_13, hE.2.2.2.2.2.1⟩) ca_p0)), rfl, by decide, clk_15, cst_2⟩ (st_1 B dL_clause_23 (Nat.le_of_ble_eq_true rfl)) (cX9_clausec (o := .error 2) h4) (Nat.le_of_ble_eq_true rfl) rfl rfl mi_X9_clause lk_RL_37 ⟨Nat.le_of_ble_eq_true rfl, Nat.le_of_ble_eq_true rfl⟩ rfl rfl (Nat.le_of_ble_eq_true rfl) dL_clause_7 (Nat.le_trans (bm hka) hla) (Nat.le_trans (bm hkb) hlb) ?_
      refine g_iconst (v := 3) B dL_clause_25 (by decide) ?_
      obtain ⟨w1, w2, w3, w4⟩ := inA h
      clear h
      subst w1
      subst w2
      subst w3
      subst w4
      exact g_iretW B hE (Nat.le_trans (Nat.le_of_eq hka) hla) (Nat.le_trans (Nat.le_of_eq hkb) hlb) dL_clause_26
    replace h := ifn q2 h
    cases h
set_option maxRecDepth 100000 in
set_option maxHeartbeats 4000000 in
theorem cL_leafc {l : Launch} {v0 : Option Nat} {v1 : Int32} {v2 : Int32} {v3 : Option Nat} {σ : HpT} {o : Except Nat (Int32)} {σ' : HpT} {a b : Nat} (h : fL_leaf v0 v1 v2 v3 σ = some (o, σ', a, b)) : CtW l yL_leaf cL_leaf 5 (some .int) [(0, 10, 13, 20), (0, 10, 17, 13), (0, 10, 21, 15)] 8 133 [va_rf v0, .int v1, .int v2, va_rf v3] σ (oI o) σ' a b := by
  unfold fL_leaf at h
  refine ctW_start miw_L_leaf.1 rfl (al_le (al_1 (rf_cat _) (al_1 rfl (al_1 rfl (al_1 (rf_cat _) al_n)))) (Nat.le_of_ble_eq_true rfl)) (ag_1 (rf_cat _) (ag_1 rfl (ag_1 rfl (ag_1 (rf_cat _) ag_n)))) (fun Δ Γ B hE => ?_)
  have hka : 0 + a = a := Nat.zero_add a
  have hkb : 0 + b = b := Nat.zero_add b
  have hla : a ≤ a := Nat.le_refl a
  have hlb : b ≤ b := Nat.le_refl b
  refine g_aload_n B 3 dL_leaf_0 rfl rfl ?_
  refine g_iconst (v := 0) B dL_leaf_1 (by decide) ?_
  refine g_aload_n B 0 dL_leaf_2 rfl rfl ?_
  refine g_iload_n B 1 dL_leaf_3 rfl rfl ?_
  refine g_iload_n B 2 dL_leaf_4 rfl rfl ?_
  replace h := bnC_s h
  rcases h with ⟨x1, s2, a5, b6, a7, b8, h4, h, ea, eb⟩ | ⟨n3, s2, a5, b6, a7, b8, h4, h, ea, eb⟩
  · subst ea; subst eb
    obtain ⟨h4x, e1, e2, e3⟩ := xA_s h4
    clear h4
    subst e1; subst e2; subst e3
    have hka := bk hka
    have hkb := bk hkb
    refine g_callVsA (st := [.int 0, va_rf v3]) B (cX9_leafc (o := .ok x1) h4x) (Nat.le_of_ble_eq_true rfl) rfl rfl mi_X9_leaf lk_RL_40 ⟨Nat.le_of_ble_eq_true rfl, Nat.le_of_ble_eq_true rfl⟩ rfl rfl (Nat.le_of_ble_eq_true rfl) dL_leaf_5 (Nat.le_trans (bm hka) hla) (Nat.le_trans (bm hkb) hlb) ?_
    refine g_i2l B dL_leaf_8 ?_
    replace h := bnP_s h
    obtain ⟨s11, h10, h⟩ := h
    refine g_last B dL_leaf_9 h10 ?_
    refine g_goto B 25 dL_leaf_10 (by decide) ?_
    refine g_iconst (v := 0) B dL_leaf_25 (by decide) ?_
    obtain ⟨w1, w2, w3, w4⟩ := inA h
    clear h
    subst w1
    subst w2
    subst w3
    subst w4
    exact g_iretW B hE (Nat.le_trans (Nat.le_of_eq hka) hla) (Nat.le_trans (Nat.le_of_eq hkb) hlb) dL_leaf_26
  · subst ea; subst eb
    obtain ⟨h4x, e1, e2, e3⟩ := xA_s h4
    clear h4
    subst e1; subst e2; subst e3
    have hka := bk hka
    have hkb := bk hkb
    by_cases q0 : n3 = 0
    · subst q0; replace h := ifp rfl h
      refine g_callVk (x := 0) (st := [.int 0, va_rf v3]) (xe := ⟨0, 10, 13, 20⟩) B hE ⟨[], [⟨0, 10, 17, 13⟩, ⟨0, 10, 21, 15⟩], rfl, ca_p0, rfl, by decide, clk_20, cst_0⟩ (st_1 B dL_leaf_13 (Nat.le_of_ble_eq_true rfl)) (cX9_leafc (o := .error 0) h4x) (Nat.le_of_ble_eq_true rfl) rfl rfl mi_X9_leaf lk_RL_40 ⟨Nat.le_of_ble_eq_true rfl, Nat.le_of_ble_eq_true rfl⟩ rfl rfl (Nat.le_of_ble_eq_true rfl) dL_leaf_5 (Nat.le_trans (bm hka) hla) (Nat.le_trans (bm hkb) hlb) ?_
      refine g_iconst (v := 1) B dL_leaf_15 (by decide) ?_
      obtain ⟨w1, w2, w3, w4⟩ := inA h
      clear h
      subst w1
      subst w2
      subst w3
      subst w4
      exact g_iretW B hE (Nat.le_trans (Nat.le_of_eq hka) hla) (Nat.le_trans (Nat.le_of_eq hkb) hlb) dL_leaf_16
    replace h := ifn q0 h
    by_cases q1 : n3 = 1
    · subst q1; replace h := ifp rfl h
      refine g_callVk (x := 1) (st := [.int 0, va_rf v3]) (xe := ⟨0, 10, 17, 13⟩) B hE ⟨[⟨0, 10, 13, 20⟩], [⟨0, 10, 21, 15⟩], rfl, (ca_p1 (Or.inr ⟨by decide, _, clk_20, hE.2.2.2.1⟩) ca_p0), rfl, by decide, clk_13, cst_1⟩ (st_1 B dL_leaf_17 (Nat.le_of_ble_eq_true rfl)) (cX9_leafc (o := .error 1) h4x) (Nat.le_of_ble_eq_true rfl) rfl rfl mi_X9_leaf lk_RL_40 ⟨Nat.le_of_ble_eq_true rfl, Nat.le_of_ble_eq_true rfl⟩ rfl rfl (Nat.le_of_ble_eq_true rfl) dL_leaf_5 (Nat.le_trans (bm hka) hla) (Nat.le_trans (bm hkb) hlb) ?_
      refine g_iconst (v := 2) B dL_leaf_19 (by decide) ?_
      obtain ⟨w1, w2, w3, w4⟩ := inA h
      clear h
      subst w1
      subst w2
      subst w3
      subst w4
      exact g_iretW B hE (Nat.le_trans (Nat.le_of_eq hka) hla) (Nat.le_trans (Nat.le_of_eq hkb) hlb) dL_leaf_20
    replace h := ifn q1 h
    by_cases q2 : n3 = 2
    · subst q2; replace h := ifp rfl h
      refine g_callVk (x := 2) (st := [.int 0, va_rf v3]) (xe := ⟨0, 10, 21, 15⟩) B hE ⟨[⟨0, 10, 13, 20⟩, ⟨0, 10, 17, 13⟩], [], rfl, (ca_p1 (Or.inr ⟨by decide, _, clk_20, hE.2.2.2.2.1⟩) (ca_p1 (Or.inr ⟨by decide, _, clk_13, hE.2.2.2.2.2.1⟩) ca_p0)), rfl, by decide, clk_15, cst_2⟩ (st_1 B dL_leaf_21 (Nat.le_of_ble_eq_true rfl)) (cX9_leafc (o := .error 2) h4x) (Nat.le_of_ble_eq_true rfl) rfl rfl mi_X9_leaf lk_RL_40 ⟨Nat.le_of_ble_eq_true rfl, Nat.le_of_ble_eq_true rfl⟩ rfl rfl (Nat.le_of_ble_eq_true rfl) dL_leaf_5 (Nat.le_trans (bm hka) hla) (Nat.le_trans (bm hkb) hlb) ?_
      refine g_iconst (v := 3) B dL_leaf_23 (by decide) ?_
      obtain ⟨w1, w2, w3, w4⟩ := inA h
      clear h
      subst w1
      subst w2
      subst w3
      subst w4
      exact g_iretW B hE (Nat.le_trans (Nat.le_of_eq hka) hla) (Nat.le_trans (Nat.le_of_eq hkb) hlb) dL_leaf_24
    replace h := ifn q2 h
    cases h
set_option maxRecDepth 100000 in
set_option maxHeartbeats 4000000 in
theorem cL_copyc {l : Launch} {v0 : Option Nat} {v1 : Int32} {v2 : Int32} {v3 : Option Nat} {σ : HpT} {o : Except Nat (Int32)} {σ' : HpT} {a b : Nat} (h : fL_copy v0 v1 v2 v3 σ = some (o, σ', a, b)) : CtW l yL_copy cL_copy 5 (some .int) [(0, 10, 13, 20), (0, 10, 17, 13), (0, 10, 21, 15)] 8 134 [va_rf v0, .int v1, .int v2, va_rf v3] σ (oI o) σ' a b := by
  unfold fL_copy at h
  refine ctW_start miw_L_copy.1 rfl (al_le (al_1 (rf_cat _) (al_1 rfl (al_1 rfl (al_1 (rf_cat _) al_n)))) (Nat.le_of_ble_eq_true rfl)) (ag_1 (rf_cat _) (ag_1 rfl (ag_1 rfl (ag_1 (rf_cat _) ag_n)))) (fun Δ Γ B hE => ?_)
  have hka : 0 + a = a := Nat.zero_add a
  have hkb : 0 + b = b := Nat.zero_add b
  have hla : a ≤ a := Nat.le_refl a
  have hlb : b ≤ b := Nat.le_refl b
  refine g_aload_n B 3 dL_copy_0 rfl rfl ?_
  refine g_iconst (v := 0) B dL_copy_1 (by decide) ?_
  refine g_aload_n B 0 dL_copy_2 rfl rfl ?_
  refine g_iload_n B 1 dL_copy_3 rfl rfl ?_
  refine g_iload_n B 2 dL_copy_4 rfl rfl ?_
  replace h := bnC_s h
  rcases h with ⟨x1, s2, a5, b6, a7, b8, h4, h, ea, eb⟩ | ⟨n3, s2, a5, b6, a7, b8, h4, h, ea, eb⟩
  · subst ea; subst eb
    obtain ⟨h4x, e1, e2, e3⟩ := xA_s h4
    clear h4
    subst e1; subst e2; subst e3
    have hka := bk hka
    have hkb := bk hkb
    refine g_callVsA (st := [.int 0, va_rf v3]) B (cX9_copyc (o := .ok x1) h4x) (Nat.le_of_ble_eq_true rfl) rfl rfl mi_X9_copy lk_RL_43 ⟨Nat.le_of_ble_eq_true rfl, Nat.le_of_ble_eq_true rfl⟩ rfl rfl (Nat.le_of_ble_eq_true rfl) dL_copy_5 (Nat.le_trans (bm hka) hla) (Nat.le_trans (bm hkb) hlb) ?_
    refine g_i2l B dL_copy_8 ?_
    replace h := bnP_s h
    obtain ⟨s11, h10, h⟩ := h
    refine g_last B dL_copy_9 h10 ?_
    refine g_goto B 25 dL_copy_10 (by decide) ?_
    refine g_iconst (v := 0) B dL_copy_25 (by decide) ?_
    obtain ⟨w1, w2, w3, w4⟩ := inA h
    clear h
    subst w1
    subst w2
    subst w3
    subst w4
    exact g_iretW B hE (Nat.le_trans (Nat.le_of_eq hka) hla) (Nat.le_trans (Nat.le_of_eq hkb) hlb) dL_copy_26
  · subst ea; subst eb
    obtain ⟨h4x, e1, e2, e3⟩ := xA_s h4
    clear h4
    subst e1; subst e2; subst e3
    have hka := bk hka
    have hkb := bk hkb
    by_cases q0 : n3 = 0
    · subst q0; replace h := ifp rfl h
      refine g_callVk (x := 0) (st := [.int 0, va_rf v3]) (xe := ⟨0, 10, 13, 20⟩) B hE ⟨[], [⟨0, 10, 17, 13⟩, ⟨0, 10, 21, 15⟩], rfl, ca_p0, rfl, by decide, clk_20, cst_0⟩ (st_1 B dL_copy_13 (Nat.le_of_ble_eq_true rfl)) (cX9_copyc (o := .error 0) h4x) (Nat.le_of_ble_eq_true rfl) rfl rfl mi_X9_copy lk_RL_43 ⟨Nat.le_of_ble_eq_true rfl, Nat.le_of_ble_eq_true rfl⟩ rfl rfl (Nat.le_of_ble_eq_true rfl) dL_copy_5 (Nat.le_trans (bm hka) hla) (Nat.le_trans (bm hkb) hlb) ?_
      refine g_iconst (v := 1) B dL_copy_15 (by decide) ?_
      obtain ⟨w1, w2, w3, w4⟩ := inA h
      clear h
      subst w1
      subst w2
      subst w3
      subst w4
      exact g_iretW B hE (Nat.le_trans (Nat.le_of_eq hka) hla) (Nat.le_trans (Nat.le_of_eq hkb) hlb) dL_copy_16
    replace h := ifn q0 h
    by_cases q1 : n3 = 1
    · subst q1; replace h := ifp rfl h
      refine g_callVk (x := 1) (st := [.int 0, va_rf v3]) (xe := ⟨0, 10, 17, 13⟩) B hE ⟨[⟨0, 10, 13, 20⟩], [⟨0, 10, 21, 15⟩], rfl, (ca_p1 (Or.inr ⟨by decide, _, clk_20, hE.2.2.2.1⟩) ca_p0), rfl, by decide, clk_13, cst_1⟩ (st_1 B dL_copy_17 (Nat.le_of_ble_eq_true rfl)) (cX9_copyc (o := .error 1) h4x) (Nat.le_of_ble_eq_true rfl) rfl rfl mi_X9_copy lk_RL_43 ⟨Nat.le_of_ble_eq_true rfl, Nat.le_of_ble_eq_true rfl⟩ rfl rfl (Nat.le_of_ble_eq_true rfl) dL_copy_5 (Nat.le_trans (bm hka) hla) (Nat.le_trans (bm hkb) hlb) ?_
      refine g_iconst (v := 2) B dL_copy_19 (by decide) ?_
      obtain ⟨w1, w2, w3, w4⟩ := inA h
      clear h
      subst w1
      subst w2
      subst w3
      subst w4
      exact g_iretW B hE (Nat.le_trans (Nat.le_of_eq hka) hla) (Nat.le_trans (Nat.le_of_eq hkb) hlb) dL_copy_20
    replace h := ifn q1 h
    by_cases q2 : n3 = 2
    · subst q2; replace h := ifp rfl h
      refine g_callVk (x := 2) (st := [.int 0, va_rf v3]) (xe := ⟨0, 10, 21, 15⟩) B hE ⟨[⟨0, 10, 13, 20⟩, ⟨0, 10, 17, 13⟩], [], rfl, (ca_p1 (Or.inr ⟨by decide, _, clk_20, hE.2.2.2.2.1⟩) (ca_p1 (Or.inr ⟨by decide, _, clk_13, hE.2.2.2.2.2.1⟩) ca_p0)), rfl, by decide, clk_15, cst_2⟩ (st_1 B dL_copy_21 (Nat.le_of_ble_eq_true rfl)) (cX9_copyc (o := .error 2) h4x) (Nat.le_of_ble_eq_true rfl) rfl rfl mi_X9_copy lk_RL_43 ⟨Nat.le_of_ble_eq_true rfl, Nat.le_of_ble_eq_true rfl⟩ rfl rfl (Nat.le_of_ble_eq_true rfl) dL_copy_5 (Nat.le_trans (bm hka) hla) (Nat.le_trans (bm hkb) hlb) ?_
      refine g_iconst (v := 3) B dL_copy_23 (by decide) ?_
      obtain ⟨w1, w2, w3, w4⟩ := inA h
      clear h
      subst w1
      subst w2
      subst w3
      subst w4
      exact g_iretW B hE (Nat.le_trans (Nat.le_of_eq hka) hla) (Nat.le_trans (Nat.le_of_eq hkb) hlb) dL_copy_24
    replace h := ifn q2 h
    cases h
set_option maxRecDepth 100000 in
set_option maxHeartbeats 4000000 in
theorem cL_hasc {l : Launch} {v0 : Option Nat} {v1 : Int32} {v2 : Int32} {v3 : Option Nat} {σ : HpT} {o : Except Nat (Int32)} {σ' : HpT} {a b : Nat} (h : fL_has v0 v1 v2 v3 σ = some (o, σ', a, b)) : CtW l yL_has cL_has 5 (some .int) [(0, 17, 20, 20), (0, 17, 24, 13)] 8 135 [va_rf v0, .int v1, .int v2, va_rf v3] σ (oI o) σ' a b := by
  unfold fL_has at h
  refine ctW_start miw_L_has.1 rfl (al_le (al_1 (rf_cat _) (al_1 rfl (al_1 rfl (al_1 (rf_cat _) al_n)))) (Nat.le_of_ble_eq_true rfl)) (ag_1 (rf_cat _) (ag_1 rfl (ag_1 rfl (ag_1 (rf_cat _) ag_n)))) (fun Δ Γ B hE => ?_)
  have hka : 0 + a = a := Nat.zero_add a
  have hkb : 0 + b = b := Nat.zero_add b
  have hla : a ≤ a := Nat.le_refl a
  have hlb : b ≤ b := Nat.le_refl b
  refine g_aload_n B 3 dL_has_0 rfl rfl ?_
  refine g_iconst (v := 0) B dL_has_1 (by decide) ?_
  refine g_aload_n B 0 dL_has_2 rfl rfl ?_
  refine g_iload_n B 1 dL_has_3 rfl rfl ?_
  refine g_iload_n B 2 dL_has_4 rfl rfl ?_
  replace h := bnC_s h
  rcases h with ⟨x1, s2, a5, b6, a7, b8, h4, h, ea, eb⟩ | ⟨n3, s2, a5, b6, a7, b8, h4, h, ea, eb⟩
  · subst ea; subst eb
    obtain ⟨h4x, e1, e2, e3⟩ := xA_s h4
    clear h4
    subst e1; subst e2; subst e3
    have hka := bk hka
    have hkb := bk hkb
    refine g_callVsA (st := [.int 0, va_rf v3]) B (cX9_hasc (o := .ok x1) h4x) (Nat.le_of_ble_eq_true rfl) rfl rfl mi_X9_has lk_RL_46 ⟨Nat.le_of_ble_eq_true rfl, Nat.le_of_ble_eq_true rfl⟩ rfl rfl (Nat.le_of_ble_eq_true rfl) dL_has_5 (Nat.le_trans (bm hka) hla) (Nat.le_trans (bm hkb) hlb) ?_
    replace h := bnP_s h
    obtain ⟨j9, h10, h⟩ := h
    have k12 : GW Δ Γ (0 + xc (.ok x1)) (0 + xs (.ok x1)) 16 [] [.long j9.2.2, .int j9.2.1, va_rf j9.1] σ := by
      replace h := bnP_s h
      obtain ⟨s16, h15, h⟩ := h
      refine g_last B dL_has_16 h15 ?_
      refine g_goto B 28 dL_has_17 (by decide) ?_
      refine g_iconst (v := 0) B dL_has_28 (by decide) ?_
      obtain ⟨w1, w2, w3, w4⟩ := inA h
      clear h
      subst w1
      subst w2
      subst w3
      subst w4
      exact g_iretW B hE (Nat.le_trans (Nat.le_of_eq hka) hla) (Nat.le_trans (Nat.le_of_eq hkb) hlb) dL_has_29
    clear h
    have h := h10
    clear h10
    refine g_if_eq B 15 dL_has_8 (by decide) (fun hc => ?_) (fun hc => ?_)
    · replace h := ifn (bI0 hc) h
      refine g_lconst (v := 0) B dL_has_15 (by decide) ?_
      replace h := Option.some.inj h
      subst h
      exact g_sub [] rfl k12
    · replace h := ifp (bI1 hc) h
      refine g_lconst (v := 1) B dL_has_11 (by decide) ?_
      refine g_goto B 16 dL_has_12 (by decide) ?_
      replace h := Option.some.inj h
      subst h
      exact g_sub [] rfl k12
  · subst ea; subst eb
    obtain ⟨h4x, e1, e2, e3⟩ := xA_s h4
    clear h4
    subst e1; subst e2; subst e3
    have hka := bk hka
    have hkb := bk hkb
    by_cases q0 : n3 = 0
    · subst q0; replace h := ifp rfl h
      refine g_callVk (x := 0) (st := [.int 0, va_rf v3]) (xe := ⟨0, 17, 20, 20⟩) B hE ⟨[], [⟨0, 17, 24, 13⟩], rfl, ca_p0, rfl, by decide, clk_20, cst_0⟩ (st_1 B dL_has_20 (Nat.le_of_ble_eq_true rfl)) (cX9_hasc (o := .error 0) h4x) (Nat.le_of_ble_eq_true rfl) rfl rfl mi_X9_has lk_RL_46 ⟨Nat.le_of_ble_eq_true rfl, Nat.le_of_ble_eq_true rfl⟩ rfl rfl (Nat.le_of_ble_eq_true rfl) dL_has_5 (Nat.le_trans (bm hka) hla) (Nat.le_trans (bm hkb) hlb) ?_
      refine g_iconst (v := 1) B dL_has_22 (by decide) ?_
      obtain ⟨w1, w2, w3, w4⟩ := inA h
      clear h
      subst w1
      subst w2
      subst w3
      subst w4
      exact g_iretW B hE (Nat.le_trans (Nat.le_of_eq hka) hla) (Nat.le_trans (Nat.le_of_eq hkb) hlb) dL_has_23
    replace h := ifn q0 h
    by_cases q1 : n3 = 1
    · subst q1; replace h := ifp rfl h
      refine g_callVk (x := 1) (st := [.int 0, va_rf v3]) (xe := ⟨0, 17, 24, 13⟩) B hE ⟨[⟨0, 17, 20, 20⟩], [], rfl, (ca_p1 (Or.inr ⟨by decide, _, clk_20, hE.2.2.2.1⟩) ca_p0), rfl, by decide, clk_13, cst_1⟩ (st_1 B dL_has_24 (Nat.le_of_ble_eq_true rfl)) (cX9_hasc (o := .error 1) h4x) (Nat.le_of_ble_eq_true rfl) rfl rfl mi_X9_has lk_RL_46 ⟨Nat.le_of_ble_eq_true rfl, Nat.le_of_ble_eq_true rfl⟩ rfl rfl (Nat.le_of_ble_eq_true rfl) dL_has_5 (Nat.le_trans (bm hka) hla) (Nat.le_trans (bm hkb) hlb) ?_
      refine g_iconst (v := 2) B dL_has_26 (by decide) ?_
      obtain ⟨w1, w2, w3, w4⟩ := inA h
      clear h
      subst w1
      subst w2
      subst w3
      subst w4
      exact g_iretW B hE (Nat.le_trans (Nat.le_of_eq hka) hla) (Nat.le_trans (Nat.le_of_eq hkb) hlb) dL_has_27
    replace h := ifn q1 h
    cases h
set_option maxRecDepth 100000 in
set_option maxHeartbeats 4000000 in
theorem cL_knownc {l : Launch} {v0 : Option Nat} {v1 : Int32} {v2 : Option Nat} {σ : HpT} {o : Except Nat (Int32)} {σ' : HpT} {a b : Nat} (h : fL_known v0 v1 v2 σ = some (o, σ', a, b)) : CtW l yL_known cL_known 4 (some .int) [(0, 9, 12, 20), (0, 9, 15, 13)] 8 133 [va_rf v0, .int v1, va_rf v2] σ (oI o) σ' a b := by
  unfold fL_known at h
  refine ctW_start miw_L_known.1 rfl (al_le (al_1 (rf_cat _) (al_1 rfl (al_1 (rf_cat _) al_n))) (Nat.le_of_ble_eq_true rfl)) (ag_1 (rf_cat _) (ag_1 rfl (ag_1 (rf_cat _) ag_n))) (fun Δ Γ B hE => ?_)
  have hka : 0 + a = a := Nat.zero_add a
  have hkb : 0 + b = b := Nat.zero_add b
  have hla : a ≤ a := Nat.le_refl a
  have hlb : b ≤ b := Nat.le_refl b
  refine g_aload_n B 2 dL_known_0 rfl rfl ?_
  refine g_iconst (v := 0) B dL_known_1 (by decide) ?_
  refine g_aload_n B 0 dL_known_2 rfl rfl ?_
  refine g_iload_n B 1 dL_known_3 rfl rfl ?_
  replace h := bnC_s h
  rcases h with ⟨x1, s2, a5, b6, a7, b8, h4, h, ea, eb⟩ | ⟨n3, s2, a5, b6, a7, b8, h4, h, ea, eb⟩
  · subst ea; subst eb
    obtain ⟨h4x, e1, e2, e3⟩ := xA_s h4
    clear h4
    subst e1; subst e2; subst e3
    have hka := bk hka
    have hkb := bk hkb
    refine g_callVsA (st := [.int 0, va_rf v2]) B (cX9_knownc (o := .ok x1) h4x) (Nat.le_of_ble_eq_true rfl) rfl rfl mi_X9_known lk_RL_50 ⟨Nat.le_of_ble_eq_true rfl, Nat.le_of_ble_eq_true rfl⟩ rfl rfl (Nat.le_of_ble_eq_true rfl) dL_known_4 (Nat.le_trans (bm hka) hla) (Nat.le_trans (bm hkb) hlb) ?_
    refine g_i2l B dL_known_7 ?_
    replace h := bnP_s h
    obtain ⟨s11, h10, h⟩ := h
    refine g_last B dL_known_8 h10 ?_
    refine g_goto B 18 dL_known_9 (by decide) ?_
    refine g_iconst (v := 0) B dL_known_18 (by decide) ?_
    obtain ⟨w1, w2, w3, w4⟩ := inA h
    clear h
    subst w1
    subst w2
    subst w3
    subst w4
    exact g_iretW B hE (Nat.le_trans (Nat.le_of_eq hka) hla) (Nat.le_trans (Nat.le_of_eq hkb) hlb) dL_known_19
  · subst ea; subst eb
    obtain ⟨h4x, e1, e2, e3⟩ := xA_s h4
    clear h4
    subst e1; subst e2; subst e3
    have hka := bk hka
    have hkb := bk hkb
    by_cases q0 : n3 = 0
    · subst q0; replace h := ifp rfl h
      refine g_callVk (x := 0) (st := [.int 0, va_rf v2]) (xe := ⟨0, 9, 12, 20⟩) B hE ⟨[], [⟨0, 9, 15, 13⟩], rfl, ca_p0, rfl, by decide, clk_20, cst_0⟩ (st_n B dL_known_12 rfl (Nat.le_of_ble_eq_true rfl)) (cX9_knownc (o := .error 0) h4x) (Nat.le_of_ble_eq_true rfl) rfl rfl mi_X9_known lk_RL_50 ⟨Nat.le_of_ble_eq_true rfl, Nat.le_of_ble_eq_true rfl⟩ rfl rfl (Nat.le_of_ble_eq_true rfl) dL_known_4 (Nat.le_trans (bm hka) hla) (Nat.le_trans (bm hkb) hlb) ?_
      refine g_iconst (v := 1) B dL_known_13 (by decide) ?_
      obtain ⟨w1, w2, w3, w4⟩ := inA h
      clear h
      subst w1
      subst w2
      subst w3
      subst w4
      exact g_iretW B hE (Nat.le_trans (Nat.le_of_eq hka) hla) (Nat.le_trans (Nat.le_of_eq hkb) hlb) dL_known_14
    replace h := ifn q0 h
    by_cases q1 : n3 = 1
    · subst q1; replace h := ifp rfl h
      refine g_callVk (x := 1) (st := [.int 0, va_rf v2]) (xe := ⟨0, 9, 15, 13⟩) B hE ⟨[⟨0, 9, 12, 20⟩], [], rfl, (ca_p1 (Or.inr ⟨by decide, _, clk_20, hE.2.2.2.1⟩) ca_p0), rfl, by decide, clk_13, cst_1⟩ (st_n B dL_known_15 rfl (Nat.le_of_ble_eq_true rfl)) (cX9_knownc (o := .error 1) h4x) (Nat.le_of_ble_eq_true rfl) rfl rfl mi_X9_known lk_RL_50 ⟨Nat.le_of_ble_eq_true rfl, Nat.le_of_ble_eq_true rfl⟩ rfl rfl (Nat.le_of_ble_eq_true rfl) dL_known_4 (Nat.le_trans (bm hka) hla) (Nat.le_trans (bm hkb) hlb) ?_
      refine g_iconst (v := 2) B dL_known_16 (by decide) ?_
      obtain ⟨w1, w2, w3, w4⟩ := inA h
      clear h
      subst w1
      subst w2
      subst w3
      subst w4
      exact g_iretW B hE (Nat.le_trans (Nat.le_of_eq hka) hla) (Nat.le_trans (Nat.le_of_eq hkb) hlb) dL_known_17
    replace h := ifn q1 h
    cases h
set_option maxRecDepth 100000 in
set_option maxHeartbeats 4000000 in
theorem cL_firstUnknownc {l : Launch} {v0 : Option Nat} {v1 : Int32} {v2 : Option Nat} {σ : HpT} {o : Except Nat (Int32)} {σ' : HpT} {a b : Nat} (h : fL_firstUnknown v0 v1 v2 σ = some (o, σ', a, b)) : CtW l yL_firstUnknown cL_firstUnknown 4 (some .int) [(0, 9, 12, 20), (0, 9, 15, 13)] 8 134 [va_rf v0, .int v1, va_rf v2] σ (oI o) σ' a b := by
  unfold fL_firstUnknown at h
  refine ctW_start miw_L_firstUnknown.1 rfl (al_le (al_1 (rf_cat _) (al_1 rfl (al_1 (rf_cat _) al_n))) (Nat.le_of_ble_eq_true rfl)) (ag_1 (rf_cat _) (ag_1 rfl (ag_1 (rf_cat _) ag_n))) (fun Δ Γ B hE => ?_)
  have hka : 0 + a = a := Nat.zero_add a
  have hkb : 0 + b = b := Nat.zero_add b
  have hla : a ≤ a := Nat.le_refl a
  have hlb : b ≤ b := Nat.le_refl b
  refine g_aload_n B 2 dL_firstUnknown_0 rfl rfl ?_
  refine g_iconst (v := 0) B dL_firstUnknown_1 (by decide) ?_
  refine g_aload_n B 0 dL_firstUnknown_2 rfl rfl ?_
  refine g_iload_n B 1 dL_firstUnknown_3 rfl rfl ?_
  replace h := bnC_s h
  rcases h with ⟨x1, s2, a5, b6, a7, b8, h4, h, ea, eb⟩ | ⟨n3, s2, a5, b6, a7, b8, h4, h, ea, eb⟩
  · subst ea; subst eb
    obtain ⟨h4x, e1, e2, e3⟩ := xA_s h4
    clear h4
    subst e1; subst e2; subst e3
    have hka := bk hka
    have hkb := bk hkb
    refine g_callVsA (st := [.int 0, va_rf v2]) B (cX9_firstUnknownc (o := .ok x1) h4x) (Nat.le_of_ble_eq_true rfl) rfl rfl mi_X9_firstUnknown lk_RL_53 ⟨Nat.le_of_ble_eq_true rfl, Nat.le_of_ble_eq_true rfl⟩ rfl rfl (Nat.le_of_ble_eq_true rfl) dL_firstUnknown_4 (Nat.le_trans (bm hka) hla) (Nat.le_trans (bm hkb) hlb) ?_
    refine g_i2l B dL_firstUnknown_7 ?_
    replace h := bnP_s h
    obtain ⟨s11, h10, h⟩ := h
    refine g_last B dL_firstUnknown_8 h10 ?_
    refine g_goto B 18 dL_firstUnknown_9 (by decide) ?_
    refine g_iconst (v := 0) B dL_firstUnknown_18 (by decide) ?_
    obtain ⟨w1, w2, w3, w4⟩ := inA h
    clear h
    subst w1
    subst w2
    subst w3
    subst w4
    exact g_iretW B hE (Nat.le_trans (Nat.le_of_eq hka) hla) (Nat.le_trans (Nat.le_of_eq hkb) hlb) dL_firstUnknown_19
  · subst ea; subst eb
    obtain ⟨h4x, e1, e2, e3⟩ := xA_s h4
    clear h4
    subst e1; subst e2; subst e3
    have hka := bk hka
    have hkb := bk hkb
    by_cases q0 : n3 = 0
    · subst q0; replace h := ifp rfl h
      refine g_callVk (x := 0) (st := [.int 0, va_rf v2]) (xe := ⟨0, 9, 12, 20⟩) B hE ⟨[], [⟨0, 9, 15, 13⟩], rfl, ca_p0, rfl, by decide, clk_20, cst_0⟩ (st_n B dL_firstUnknown_12 rfl (Nat.le_of_ble_eq_true rfl)) (cX9_firstUnknownc (o := .error 0) h4x) (Nat.le_of_ble_eq_true rfl) rfl rfl mi_X9_firstUnknown lk_RL_53 ⟨Nat.le_of_ble_eq_true rfl, Nat.le_of_ble_eq_true rfl⟩ rfl rfl (Nat.le_of_ble_eq_true rfl) dL_firstUnknown_4 (Nat.le_trans (bm hka) hla) (Nat.le_trans (bm hkb) hlb) ?_
      refine g_iconst (v := 1) B dL_firstUnknown_13 (by decide) ?_
      obtain ⟨w1, w2, w3, w4⟩ := inA h
      clear h
      subst w1
      subst w2
      subst w3
      subst w4
      exact g_iretW B hE (Nat.le_trans (Nat.le_of_eq hka) hla) (Nat.le_trans (Nat.le_of_eq hkb) hlb) dL_firstUnknown_14
    replace h := ifn q0 h
    by_cases q1 : n3 = 1
    · subst q1; replace h := ifp rfl h
      refine g_callVk (x := 1) (st := [.int 0, va_rf v2]) (xe := ⟨0, 9, 15, 13⟩) B hE ⟨[⟨0, 9, 12, 20⟩], [], rfl, (ca_p1 (Or.inr ⟨by decide, _, clk_20, hE.2.2.2.1⟩) ca_p0), rfl, by decide, clk_13, cst_1⟩ (st_n B dL_firstUnknown_15 rfl (Nat.le_of_ble_eq_true rfl)) (cX9_firstUnknownc (o := .error 1) h4x) (Nat.le_of_ble_eq_true rfl) rfl rfl mi_X9_firstUnknown lk_RL_53 ⟨Nat.le_of_ble_eq_true rfl, Nat.le_of_ble_eq_true rfl⟩ rfl rfl (Nat.le_of_ble_eq_true rfl) dL_firstUnknown_4 (Nat.le_trans (bm hka) hla) (Nat.le_trans (bm hkb) hlb) ?_
      refine g_iconst (v := 2) B dL_firstUnknown_16 (by decide) ?_
      obtain ⟨w1, w2, w3, w4⟩ := inA h
      clear h
      subst w1
      subst w2
      subst w3
      subst w4
      exact g_iretW B hE (Nat.le_trans (Nat.le_of_eq hka) hla) (Nat.le_trans (Nat.le_of_eq hkb) hlb) dL_firstUnknown_17
    replace h := ifn q1 h
    cases h
set_option maxRecDepth 100000 in
set_option maxHeartbeats 4000000 in
theorem cL_gapc {l : Launch} {v0 : Option Nat} {v1 : Option Nat} {σ : HpT} {o : Except Nat (Int32)} {σ' : HpT} {a b : Nat} (h : fL_gap v0 v1 σ = some (o, σ', a, b)) : CtW l yL_gap cL_gap 3 (some .int) [(0, 8, 11, 20)] 8 130 [va_rf v0, va_rf v1] σ (oI o) σ' a b := by
  unfold fL_gap at h
  refine ctW_start miw_L_gap.1 rfl (al_le (al_1 (rf_cat _) (al_1 (rf_cat _) al_n)) (Nat.le_of_ble_eq_true rfl)) (ag_1 (rf_cat _) (ag_1 (rf_cat _) ag_n)) (fun Δ Γ B hE => ?_)
  have hka : 0 + a = a := Nat.zero_add a
  have hkb : 0 + b = b := Nat.zero_add b
  have hla : a ≤ a := Nat.le_refl a
  have hlb : b ≤ b := Nat.le_refl b
  refine g_aload_n B 1 dL_gap_0 rfl rfl ?_
  refine g_iconst (v := 0) B dL_gap_1 (by decide) ?_
  refine g_aload_n B 0 dL_gap_2 rfl rfl ?_
  replace h := bnC_s h
  rcases h with ⟨x1, s2, a5, b6, a7, b8, h4, h, ea, eb⟩ | ⟨n3, s2, a5, b6, a7, b8, h4, h, ea, eb⟩
  · subst ea; subst eb
    obtain ⟨h4x, e1, e2, e3⟩ := xA_s h4
    clear h4
    subst e1; subst e2; subst e3
    have hka := bk hka
    have hkb := bk hkb
    refine g_callVsA (st := [.int 0, va_rf v1]) B (cX9_gapc (o := .ok x1) h4x) (Nat.le_of_ble_eq_true rfl) rfl rfl mi_X9_gap lk_RL_56 ⟨Nat.le_of_ble_eq_true rfl, Nat.le_of_ble_eq_true rfl⟩ rfl rfl (Nat.le_of_ble_eq_true rfl) dL_gap_3 (Nat.le_trans (bm hka) hla) (Nat.le_trans (bm hkb) hlb) ?_
    refine g_i2l B dL_gap_6 ?_
    replace h := bnP_s h
    obtain ⟨s11, h10, h⟩ := h
    refine g_last B dL_gap_7 h10 ?_
    refine g_goto B 14 dL_gap_8 (by decide) ?_
    refine g_iconst (v := 0) B dL_gap_14 (by decide) ?_
    obtain ⟨w1, w2, w3, w4⟩ := inA h
    clear h
    subst w1
    subst w2
    subst w3
    subst w4
    exact g_iretW B hE (Nat.le_trans (Nat.le_of_eq hka) hla) (Nat.le_trans (Nat.le_of_eq hkb) hlb) dL_gap_15
  · subst ea; subst eb
    obtain ⟨h4x, e1, e2, e3⟩ := xA_s h4
    clear h4
    subst e1; subst e2; subst e3
    have hka := bk hka
    have hkb := bk hkb
    by_cases q0 : n3 = 0
    · subst q0; replace h := ifp rfl h
      refine g_callVk (x := 0) (st := [.int 0, va_rf v1]) (xe := ⟨0, 8, 11, 20⟩) B hE ⟨[], [], rfl, ca_p0, rfl, by decide, clk_20, cst_0⟩ (st_n B dL_gap_11 rfl (Nat.le_of_ble_eq_true rfl)) (cX9_gapc (o := .error 0) h4x) (Nat.le_of_ble_eq_true rfl) rfl rfl mi_X9_gap lk_RL_56 ⟨Nat.le_of_ble_eq_true rfl, Nat.le_of_ble_eq_true rfl⟩ rfl rfl (Nat.le_of_ble_eq_true rfl) dL_gap_3 (Nat.le_trans (bm hka) hla) (Nat.le_trans (bm hkb) hlb) ?_
      refine g_iconst (v := 1) B dL_gap_12 (by decide) ?_
      obtain ⟨w1, w2, w3, w4⟩ := inA h
      clear h
      subst w1
      subst w2
      subst w3
      subst w4
      exact g_iretW B hE (Nat.le_trans (Nat.le_of_eq hka) hla) (Nat.le_trans (Nat.le_of_eq hkb) hlb) dL_gap_13
    replace h := ifn q0 h
    cases h
set_option maxRecDepth 100000 in
set_option maxHeartbeats 4000000 in
theorem cL_whyNotSealc {l : Launch} {v0 : Option Nat} {v1 : Int32} {v2 : Int32} {v3 : Option Nat} {σ : HpT} {o : Except Nat (Int32)} {σ' : HpT} {a b : Nat} (h : fL_whyNotSeal v0 v1 v2 v3 σ = some (o, σ', a, b)) : CtW l yL_whyNotSeal cL_whyNotSeal 5 (some .int) [(0, 10, 13, 20), (0, 10, 17, 15)] 8 133 [va_rf v0, .int v1, .int v2, va_rf v3] σ (oI o) σ' a b := by
  unfold fL_whyNotSeal at h
  refine ctW_start miw_L_whyNotSeal.1 rfl (al_le (al_1 (rf_cat _) (al_1 rfl (al_1 rfl (al_1 (rf_cat _) al_n)))) (Nat.le_of_ble_eq_true rfl)) (ag_1 (rf_cat _) (ag_1 rfl (ag_1 rfl (ag_1 (rf_cat _) ag_n)))) (fun Δ Γ B hE => ?_)
  have hka : 0 + a = a := Nat.zero_add a
  have hkb : 0 + b = b := Nat.zero_add b
  have hla : a ≤ a := Nat.le_refl a
  have hlb : b ≤ b := Nat.le_refl b
  refine g_aload_n B 3 dL_whyNotSeal_0 rfl rfl ?_
  refine g_iconst (v := 0) B dL_whyNotSeal_1 (by decide) ?_
  refine g_aload_n B 0 dL_whyNotSeal_2 rfl rfl ?_
  refine g_iload_n B 1 dL_whyNotSeal_3 rfl rfl ?_
  refine g_iload_n B 2 dL_whyNotSeal_4 rfl rfl ?_
  replace h := bnC_s h
  rcases h with ⟨x1, s2, a5, b6, a7, b8, h4, h, ea, eb⟩ | ⟨n3, s2, a5, b6, a7, b8, h4, h, ea, eb⟩
  · subst ea; subst eb
    obtain ⟨h4x, e1, e2, e3⟩ := xA_s h4
    clear h4
    subst e1; subst e2; subst e3
    have hka := bk hka
    have hkb := bk hkb
    refine g_callVsA (st := [.int 0, va_rf v3]) B (cX9_whyNotSealc (o := .ok x1) h4x) (Nat.le_of_ble_eq_true rfl) rfl rfl mi_X9_whyNotSeal lk_RL_60 ⟨Nat.le_of_ble_eq_true rfl, Nat.le_of_ble_eq_true rfl⟩ rfl rfl (Nat.le_of_ble_eq_true rfl) dL_whyNotSeal_5 (Nat.le_trans (bm hka) hla) (Nat.le_trans (bm hkb) hlb) ?_
    refine g_i2l B dL_whyNotSeal_8 ?_
    replace h := bnP_s h
    obtain ⟨s11, h10, h⟩ := h
    refine g_last B dL_whyNotSeal_9 h10 ?_
    refine g_goto B 21 dL_whyNotSeal_10 (by decide) ?_
    refine g_iconst (v := 0) B dL_whyNotSeal_21 (by decide) ?_
    obtain ⟨w1, w2, w3, w4⟩ := inA h
    clear h
    subst w1
    subst w2
    subst w3
    subst w4
    exact g_iretW B hE (Nat.le_trans (Nat.le_of_eq hka) hla) (Nat.le_trans (Nat.le_of_eq hkb) hlb) dL_whyNotSeal_22
  · subst ea; subst eb
    obtain ⟨h4x, e1, e2, e3⟩ := xA_s h4
    clear h4
    subst e1; subst e2; subst e3
    have hka := bk hka
    have hkb := bk hkb
    by_cases q0 : n3 = 0
    · subst q0; replace h := ifp rfl h
      refine g_callVk (x := 0) (st := [.int 0, va_rf v3]) (xe := ⟨0, 10, 13, 20⟩) B hE ⟨[], [⟨0, 10, 17, 15⟩], rfl, ca_p0, rfl, by decide, clk_20, cst_0⟩ (st_1 B dL_whyNotSeal_13 (Nat.le_of_ble_eq_true rfl)) (cX9_whyNotSealc (o := .error 0) h4x) (Nat.le_of_ble_eq_true rfl) rfl rfl mi_X9_whyNotSeal lk_RL_60 ⟨Nat.le_of_ble_eq_true rfl, Nat.le_of_ble_eq_true rfl⟩ rfl rfl (Nat.le_of_ble_eq_true rfl) dL_whyNotSeal_5 (Nat.le_trans (bm hka) hla) (Nat.le_trans (bm hkb) hlb) ?_
      refine g_iconst (v := 1) B dL_whyNotSeal_15 (by decide) ?_
      obtain ⟨w1, w2, w3, w4⟩ := inA h
      clear h
      subst w1
      subst w2
      subst w3
      subst w4
      exact g_iretW B hE (Nat.le_trans (Nat.le_of_eq hka) hla) (Nat.le_trans (Nat.le_of_eq hkb) hlb) dL_whyNotSeal_16
    replace h := ifn q0 h
    by_cases q2 : n3 = 2
    · subst q2; replace h := ifp rfl h
      refine g_callVk (x := 2) (st := [.int 0, va_rf v3]) (xe := ⟨0, 10, 17, 15⟩) B hE ⟨[⟨0, 10, 13, 20⟩], [], rfl, (ca_p1 (Or.inr ⟨by decide, _, clk_20, hE.2.2.2.2.1⟩) ca_p0), rfl, by decide, clk_15, cst_2⟩ (st_1 B dL_whyNotSeal_17 (Nat.le_of_ble_eq_true rfl)) (cX9_whyNotSealc (o := .error 2) h4x) (Nat.le_of_ble_eq_true rfl) rfl rfl mi_X9_whyNotSeal lk_RL_60 ⟨Nat.le_of_ble_eq_true rfl, Nat.le_of_ble_eq_true rfl⟩ rfl rfl (Nat.le_of_ble_eq_true rfl) dL_whyNotSeal_5 (Nat.le_trans (bm hka) hla) (Nat.le_trans (bm hkb) hlb) ?_
      refine g_iconst (v := 2) B dL_whyNotSeal_19 (by decide) ?_
      obtain ⟨w1, w2, w3, w4⟩ := inA h
      clear h
      subst w1
      subst w2
      subst w3
      subst w4
      exact g_iretW B hE (Nat.le_trans (Nat.le_of_eq hka) hla) (Nat.le_trans (Nat.le_of_eq hkb) hlb) dL_whyNotSeal_20
    replace h := ifn q2 h
    cases h
set_option maxRecDepth 100000 in
set_option maxHeartbeats 4000000 in
theorem cL_whyNotCopyc {l : Launch} {v0 : Option Nat} {v1 : Int32} {v2 : Int32} {v3 : Option Nat} {σ : HpT} {o : Except Nat (Int32)} {σ' : HpT} {a b : Nat} (h : fL_whyNotCopy v0 v1 v2 v3 σ = some (o, σ', a, b)) : CtW l yL_whyNotCopy cL_whyNotCopy 5 (some .int) [(0, 10, 13, 20), (0, 10, 17, 13), (0, 10, 21, 15)] 8 133 [va_rf v0, .int v1, .int v2, va_rf v3] σ (oI o) σ' a b := by
  unfold fL_whyNotCopy at h
  refine ctW_start miw_L_whyNotCopy.1 rfl (al_le (al_1 (rf_cat _) (al_1 rfl (al_1 rfl (al_1 (rf_cat _) al_n)))) (Nat.le_of_ble_eq_true rfl)) (ag_1 (rf_cat _) (ag_1 rfl (ag_1 rfl (ag_1 (rf_cat _) ag_n)))) (fun Δ Γ B hE => ?_)
  have hka : 0 + a = a := Nat.zero_add a
  have hkb : 0 + b = b := Nat.zero_add b
  have hla : a ≤ a := Nat.le_refl a
  have hlb : b ≤ b := Nat.le_refl b
  refine g_aload_n B 3 dL_whyNotCopy_0 rfl rfl ?_
  refine g_iconst (v := 0) B dL_whyNotCopy_1 (by decide) ?_
  refine g_aload_n B 0 dL_whyNotCopy_2 rfl rfl ?_
  refine g_iload_n B 1 dL_whyNotCopy_3 rfl rfl ?_
  refine g_iload_n B 2 dL_whyNotCopy_4 rfl rfl ?_
  replace h := bnC_s h
  rcases h with ⟨x1, s2, a5, b6, a7, b8, h4, h, ea, eb⟩ | ⟨n3, s2, a5, b6, a7, b8, h4, h, ea, eb⟩
  · subst ea; subst eb
    have hka := bk hka
    have hkb := bk hkb
    refine g_callVsA (st := [.int 0, va_rf v3]) B (cX9_whyNotCopyc (o := .ok x1) h4) (Nat.le_of_ble_eq_true rfl) rfl rfl mi_X9_whyNotCopy lk_RL_63 ⟨Nat.le_of_ble_eq_true rfl, Nat.le_of_ble_eq_true rfl⟩ rfl rfl (Nat.le_of_ble_eq_true rfl) dL_whyNotCopy_5 (Nat.le_trans (bm hka) hla) (Nat.le_trans (bm hkb) hlb) ?_
    refine g_i2l B dL_whyNotCopy_8 ?_
    replace h := bnP_s h
    obtain ⟨s11, h10, h⟩ := h
    refine g_last B dL_whyNotCopy_9 h10 ?_
    refine g_goto B 25 dL_whyNotCopy_10 (by decide) ?_
    refine g_iconst (v := 0) B dL_whyNotCopy_25 (by decide) ?_
    obtain ⟨w1, w2, w3, w4⟩ := inA h
    clear h
    subst w1
    subst w2
    subst w3
    subst w4
    exact g_iretW B hE (Nat.le_trans (Nat.le_of_eq hka) hla) (Nat.le_trans (Nat.le_of_eq hkb) hlb) dL_whyNotCopy_26
  · subst ea; subst eb
    have hka := bk hka
    have hkb := bk hkb
    by_cases q0 : n3 = 0
    · subst q0; replace h := ifp rfl h
      refine g_callVk (x := 0) (st := [.int 0, va_rf v3]) (xe := ⟨0, 10, 13, 20⟩) B hE ⟨[], [⟨0, 10, 17, 13⟩, ⟨0, 10, 21, 15⟩], rfl, ca_p0, rfl, by decide, clk_20, cst_0⟩ (st_1 B dL_whyNotCopy_13 (Nat.le_of_ble_eq_true rfl)) (cX9_whyNotCopyc (o := .error 0) h4) (Nat.le_of_ble_eq_true rfl) rfl rfl mi_X9_whyNotCopy lk_RL_63 ⟨Nat.le_of_ble_eq_true rfl, Nat.le_of_ble_eq_true rfl⟩ rfl rfl (Nat.le_of_ble_eq_true rfl) dL_whyNotCopy_5 (Nat.le_trans (bm hka) hla) (Nat.le_trans (bm hkb) hlb) ?_
      refine g_iconst (v := 1) B dL_whyNotCopy_15 (by decide) ?_
      obtain ⟨w1, w2, w3, w4⟩ := inA h
      clear h
      subst w1
      subst w2
      subst w3
      subst w4
      exact g_iretW B hE (Nat.le_trans (Nat.le_of_eq hka) hla) (Nat.le_trans (Nat.le_of_eq hkb) hlb) dL_whyNotCopy_16
    replace h := ifn q0 h
    by_cases q1 : n3 = 1
    · subst q1; replace h := ifp rfl h
      refine g_callVk (x := 1) (st := [.int 0, va_rf v3]) (xe := ⟨0, 10, 17, 13⟩) B hE ⟨[⟨0, 10, 13, 20⟩], [⟨0, 10, 21, 15⟩], rfl, (ca_p1 (Or.inr ⟨by decide, _, clk_20, hE.2.2.2.1⟩) ca_p0), rfl, by decide, clk_13, cst_1⟩ (st_1 B dL_whyNotCopy_17 (Nat.le_of_ble_eq_true rfl)) (cX9_whyNotCopyc (o := .error 1) h4) (Nat.le_of_ble_eq_true rfl) rfl rfl mi_X9_whyNotCopy lk_RL_63 ⟨Nat.le_of_ble_eq_true rfl, Nat.le_of_ble_eq_true rfl⟩ rfl rfl (Nat.le_of_ble_eq_true rfl) dL_whyNotCopy_5 (Nat.le_trans (bm hka) hla) (Nat.le_trans (bm hkb) hlb) ?_
      refine g_iconst (v := 2) B dL_whyNotCopy_19 (by decide) ?_
      obtain ⟨w1, w2, w3, w4⟩ := inA h
      clear h
      subst w1
      subst w2
      subst w3
      subst w4
      exact g_iretW B hE (Nat.le_trans (Nat.le_of_eq hka) hla) (Nat.le_trans (Nat.le_of_eq hkb) hlb) dL_whyNotCopy_20
    replace h := ifn q1 h
    by_cases q2 : n3 = 2
    · subst q2; replace h := ifp rfl h
      refine g_callVk (x := 2) (st := [.int 0, va_rf v3]) (xe := ⟨0, 10, 21, 15⟩) B hE ⟨[⟨0, 10, 13, 20⟩, ⟨0, 10, 17, 13⟩], [], rfl, (ca_p1 (Or.inr ⟨by decide, _, clk_20, hE.2.2.2.2.1⟩) (ca_p1 (Or.inr ⟨by decide, _, clk_13, hE.2.2.2.2.2.1⟩) ca_p0)), rfl, by decide, clk_15, cst_2⟩ (st_1 B dL_whyNotCopy_21 (Nat.le_of_ble_eq_true rfl)) (cX9_whyNotCopyc (o := .error 2) h4) (Nat.le_of_ble_eq_true rfl) rfl rfl mi_X9_whyNotCopy lk_RL_63 ⟨Nat.le_of_ble_eq_true rfl, Nat.le_of_ble_eq_true rfl⟩ rfl rfl (Nat.le_of_ble_eq_true rfl) dL_whyNotCopy_5 (Nat.le_trans (bm hka) hla) (Nat.le_trans (bm hkb) hlb) ?_
      refine g_iconst (v := 3) B dL_whyNotCopy_23 (by decide) ?_
      obtain ⟨w1, w2, w3, w4⟩ := inA h
      clear h
      subst w1
      subst w2
      subst w3
      subst w4
      exact g_iretW B hE (Nat.le_trans (Nat.le_of_eq hka) hla) (Nat.le_trans (Nat.le_of_eq hkb) hlb) dL_whyNotCopy_24
    replace h := ifn q2 h
    cases h
set_option maxRecDepth 100000 in
set_option maxHeartbeats 4000000 in
theorem cL_whyNotStrikec {l : Launch} {v0 : Option Nat} {v1 : Int32} {v2 : Option Nat} {σ : HpT} {o : Except Nat (Int32)} {σ' : HpT} {a b : Nat} (h : fL_whyNotStrike v0 v1 v2 σ = some (o, σ', a, b)) : CtW l yL_whyNotStrike cL_whyNotStrike 4 (some .int) [(0, 9, 12, 20)] 8 131 [va_rf v0, .int v1, va_rf v2] σ (oI o) σ' a b := by
  unfold fL_whyNotStrike at h
  refine ctW_start miw_L_whyNotStrike.1 rfl (al_le (al_1 (rf_cat _) (al_1 rfl (al_1 (rf_cat _) al_n))) (Nat.le_of_ble_eq_true rfl)) (ag_1 (rf_cat _) (ag_1 rfl (ag_1 (rf_cat _) ag_n))) (fun Δ Γ B hE => ?_)
  have hka : 0 + a = a := Nat.zero_add a
  have hkb : 0 + b = b := Nat.zero_add b
  have hla : a ≤ a := Nat.le_refl a
  have hlb : b ≤ b := Nat.le_refl b
  refine g_aload_n B 2 dL_whyNotStrike_0 rfl rfl ?_
  refine g_iconst (v := 0) B dL_whyNotStrike_1 (by decide) ?_
  refine g_aload_n B 0 dL_whyNotStrike_2 rfl rfl ?_
  refine g_iload_n B 1 dL_whyNotStrike_3 rfl rfl ?_
  replace h := bnC_s h
  rcases h with ⟨x1, s2, a5, b6, a7, b8, h4, h, ea, eb⟩ | ⟨n3, s2, a5, b6, a7, b8, h4, h, ea, eb⟩
  · subst ea; subst eb
    obtain ⟨h4x, e1, e2, e3⟩ := xA_s h4
    clear h4
    subst e1; subst e2; subst e3
    have hka := bk hka
    have hkb := bk hkb
    refine g_callVsA (st := [.int 0, va_rf v2]) B (cX9_whyNotStrikec (o := .ok x1) h4x) (Nat.le_of_ble_eq_true rfl) rfl rfl mi_X9_whyNotStrike lk_RL_66 ⟨Nat.le_of_ble_eq_true rfl, Nat.le_of_ble_eq_true rfl⟩ rfl rfl (Nat.le_of_ble_eq_true rfl) dL_whyNotStrike_4 (Nat.le_trans (bm hka) hla) (Nat.le_trans (bm hkb) hlb) ?_
    refine g_i2l B dL_whyNotStrike_7 ?_
    replace h := bnP_s h
    obtain ⟨s11, h10, h⟩ := h
    refine g_last B dL_whyNotStrike_8 h10 ?_
    refine g_goto B 15 dL_whyNotStrike_9 (by decide) ?_
    refine g_iconst (v := 0) B dL_whyNotStrike_15 (by decide) ?_
    obtain ⟨w1, w2, w3, w4⟩ := inA h
    clear h
    subst w1
    subst w2
    subst w3
    subst w4
    exact g_iretW B hE (Nat.le_trans (Nat.le_of_eq hka) hla) (Nat.le_trans (Nat.le_of_eq hkb) hlb) dL_whyNotStrike_16
  · subst ea; subst eb
    obtain ⟨h4x, e1, e2, e3⟩ := xA_s h4
    clear h4
    subst e1; subst e2; subst e3
    have hka := bk hka
    have hkb := bk hkb
    by_cases q0 : n3 = 0
    · subst q0; replace h := ifp rfl h
      refine g_callVk (x := 0) (st := [.int 0, va_rf v2]) (xe := ⟨0, 9, 12, 20⟩) B hE ⟨[], [], rfl, ca_p0, rfl, by decide, clk_20, cst_0⟩ (st_n B dL_whyNotStrike_12 rfl (Nat.le_of_ble_eq_true rfl)) (cX9_whyNotStrikec (o := .error 0) h4x) (Nat.le_of_ble_eq_true rfl) rfl rfl mi_X9_whyNotStrike lk_RL_66 ⟨Nat.le_of_ble_eq_true rfl, Nat.le_of_ble_eq_true rfl⟩ rfl rfl (Nat.le_of_ble_eq_true rfl) dL_whyNotStrike_4 (Nat.le_trans (bm hka) hla) (Nat.le_trans (bm hkb) hlb) ?_
      refine g_iconst (v := 1) B dL_whyNotStrike_13 (by decide) ?_
      obtain ⟨w1, w2, w3, w4⟩ := inA h
      clear h
      subst w1
      subst w2
      subst w3
      subst w4
      exact g_iretW B hE (Nat.le_trans (Nat.le_of_eq hka) hla) (Nat.le_trans (Nat.le_of_eq hkb) hlb) dL_whyNotStrike_14
    replace h := ifn q0 h
    cases h
set_option maxRecDepth 100000 in
set_option maxHeartbeats 4000000 in
theorem cL_unknownIfc {l : Launch} {v0 : Option Nat} {v1 : Int32} {v2 : Option Nat} {σ : HpT} {o : Except Nat (Int32)} {σ' : HpT} {a b : Nat} (h : fL_unknownIf v0 v1 v2 σ = some (o, σ', a, b)) : CtW l yL_unknownIf cL_unknownIf 4 (some .int) [(0, 9, 12, 20), (0, 9, 15, 13)] 8 132 [va_rf v0, .int v1, va_rf v2] σ (oI o) σ' a b := by
  unfold fL_unknownIf at h
  refine ctW_start miw_L_unknownIf.1 rfl (al_le (al_1 (rf_cat _) (al_1 rfl (al_1 (rf_cat _) al_n))) (Nat.le_of_ble_eq_true rfl)) (ag_1 (rf_cat _) (ag_1 rfl (ag_1 (rf_cat _) ag_n))) (fun Δ Γ B hE => ?_)
  have hka : 0 + a = a := Nat.zero_add a
  have hkb : 0 + b = b := Nat.zero_add b
  have hla : a ≤ a := Nat.le_refl a
  have hlb : b ≤ b := Nat.le_refl b
  refine g_aload_n B 2 dL_unknownIf_0 rfl rfl ?_
  refine g_iconst (v := 0) B dL_unknownIf_1 (by decide) ?_
  refine g_aload_n B 0 dL_unknownIf_2 rfl rfl ?_
  refine g_iload_n B 1 dL_unknownIf_3 rfl rfl ?_
  replace h := bnC_s h
  rcases h with ⟨x1, s2, a5, b6, a7, b8, h4, h, ea, eb⟩ | ⟨n3, s2, a5, b6, a7, b8, h4, h, ea, eb⟩
  · subst ea; subst eb
    obtain ⟨h4x, e1, e2, e3⟩ := xA_s h4
    clear h4
    subst e1; subst e2; subst e3
    have hka := bk hka
    have hkb := bk hkb
    refine g_callVsA (st := [.int 0, va_rf v2]) B (cX9_unknownIfc (o := .ok x1) h4x) (Nat.le_of_ble_eq_true rfl) rfl rfl mi_X9_unknownIf lk_RL_69 ⟨Nat.le_of_ble_eq_true rfl, Nat.le_of_ble_eq_true rfl⟩ rfl rfl (Nat.le_of_ble_eq_true rfl) dL_unknownIf_4 (Nat.le_trans (bm hka) hla) (Nat.le_trans (bm hkb) hlb) ?_
    refine g_i2l B dL_unknownIf_7 ?_
    replace h := bnP_s h
    obtain ⟨s11, h10, h⟩ := h
    refine g_last B dL_unknownIf_8 h10 ?_
    refine g_goto B 18 dL_unknownIf_9 (by decide) ?_
    refine g_iconst (v := 0) B dL_unknownIf_18 (by decide) ?_
    obtain ⟨w1, w2, w3, w4⟩ := inA h
    clear h
    subst w1
    subst w2
    subst w3
    subst w4
    exact g_iretW B hE (Nat.le_trans (Nat.le_of_eq hka) hla) (Nat.le_trans (Nat.le_of_eq hkb) hlb) dL_unknownIf_19
  · subst ea; subst eb
    obtain ⟨h4x, e1, e2, e3⟩ := xA_s h4
    clear h4
    subst e1; subst e2; subst e3
    have hka := bk hka
    have hkb := bk hkb
    by_cases q0 : n3 = 0
    · subst q0; replace h := ifp rfl h
      refine g_callVk (x := 0) (st := [.int 0, va_rf v2]) (xe := ⟨0, 9, 12, 20⟩) B hE ⟨[], [⟨0, 9, 15, 13⟩], rfl, ca_p0, rfl, by decide, clk_20, cst_0⟩ (st_n B dL_unknownIf_12 rfl (Nat.le_of_ble_eq_true rfl)) (cX9_unknownIfc (o := .error 0) h4x) (Nat.le_of_ble_eq_true rfl) rfl rfl mi_X9_unknownIf lk_RL_69 ⟨Nat.le_of_ble_eq_true rfl, Nat.le_of_ble_eq_true rfl⟩ rfl rfl (Nat.le_of_ble_eq_true rfl) dL_unknownIf_4 (Nat.le_trans (bm hka) hla) (Nat.le_trans (bm hkb) hlb) ?_
      refine g_iconst (v := 1) B dL_unknownIf_13 (by decide) ?_
      obtain ⟨w1, w2, w3, w4⟩ := inA h
      clear h
      subst w1
      subst w2
      subst w3
      subst w4
      exact g_iretW B hE (Nat.le_trans (Nat.le_of_eq hka) hla) (Nat.le_trans (Nat.le_of_eq hkb) hlb) dL_unknownIf_14
    replace h := ifn q0 h
    by_cases q1 : n3 = 1
    · subst q1; replace h := ifp rfl h
      refine g_callVk (x := 1) (st := [.int 0, va_rf v2]) (xe := ⟨0, 9, 15, 13⟩) B hE ⟨[⟨0, 9, 12, 20⟩], [], rfl, (ca_p1 (Or.inr ⟨by decide, _, clk_20, hE.2.2.2.1⟩) ca_p0), rfl, by decide, clk_13, cst_1⟩ (st_n B dL_unknownIf_15 rfl (Nat.le_of_ble_eq_true rfl)) (cX9_unknownIfc (o := .error 1) h4x) (Nat.le_of_ble_eq_true rfl) rfl rfl mi_X9_unknownIf lk_RL_69 ⟨Nat.le_of_ble_eq_true rfl, Nat.le_of_ble_eq_true rfl⟩ rfl rfl (Nat.le_of_ble_eq_true rfl) dL_unknownIf_4 (Nat.le_trans (bm hka) hla) (Nat.le_trans (bm hkb) hlb) ?_
      refine g_iconst (v := 2) B dL_unknownIf_16 (by decide) ?_
      obtain ⟨w1, w2, w3, w4⟩ := inA h
      clear h
      subst w1
      subst w2
      subst w3
      subst w4
      exact g_iretW B hE (Nat.le_trans (Nat.le_of_eq hka) hla) (Nat.le_trans (Nat.le_of_eq hkb) hlb) dL_unknownIf_17
    replace h := ifn q1 h
    cases h
set_option maxRecDepth 100000 in
set_option maxHeartbeats 4000000 in
theorem cL_worstLeafc {l : Launch} {v0 : Option Nat} {v1 : Option Nat} {σ : HpT} {o : Except Nat (Int32)} {σ' : HpT} {a b : Nat} (h : fL_worstLeaf v0 v1 σ = some (o, σ', a, b)) : CtW l yL_worstLeaf cL_worstLeaf 3 (some .int) [(0, 8, 11, 20)] 8 134 [va_rf v0, va_rf v1] σ (oI o) σ' a b := by
  unfold fL_worstLeaf at h
  refine ctW_start miw_L_worstLeaf.1 rfl (al_le (al_1 (rf_cat _) (al_1 (rf_cat _) al_n)) (Nat.le_of_ble_eq_true rfl)) (ag_1 (rf_cat _) (ag_1 (rf_cat _) ag_n)) (fun Δ Γ B hE => ?_)
  have hka : 0 + a = a := Nat.zero_add a
  have hkb : 0 + b = b := Nat.zero_add b
  have hla : a ≤ a := Nat.le_refl a
  have hlb : b ≤ b := Nat.le_refl b
  refine g_aload_n B 1 dL_worstLeaf_0 rfl rfl ?_
  refine g_iconst (v := 0) B dL_worstLeaf_1 (by decide) ?_
  refine g_aload_n B 0 dL_worstLeaf_2 rfl rfl ?_
  replace h := bnC_s h
  rcases h with ⟨x1, s2, a5, b6, a7, b8, h4, h, ea, eb⟩ | ⟨n3, s2, a5, b6, a7, b8, h4, h, ea, eb⟩
  · subst ea; subst eb
    obtain ⟨h4x, e1, e2, e3⟩ := xA_s h4
    clear h4
    subst e1; subst e2; subst e3
    have hka := bk hka
    have hkb := bk hkb
    refine g_callVsA (st := [.int 0, va_rf v1]) B (cX9_worstLeafc (o := .ok x1) h4x) (Nat.le_of_ble_eq_true rfl) rfl rfl mi_X9_worstLeaf lk_RL_72 ⟨Nat.le_of_ble_eq_true rfl, Nat.le_of_ble_eq_true rfl⟩ rfl rfl (Nat.le_of_ble_eq_true rfl) dL_worstLeaf_3 (Nat.le_trans (bm hka) hla) (Nat.le_trans (bm hkb) hlb) ?_
    refine g_i2l B dL_worstLeaf_6 ?_
    replace h := bnP_s h
    obtain ⟨s11, h10, h⟩ := h
    refine g_last B dL_worstLeaf_7 h10 ?_
    refine g_goto B 14 dL_worstLeaf_8 (by decide) ?_
    refine g_iconst (v := 0) B dL_worstLeaf_14 (by decide) ?_
    obtain ⟨w1, w2, w3, w4⟩ := inA h
    clear h
    subst w1
    subst w2
    subst w3
    subst w4
    exact g_iretW B hE (Nat.le_trans (Nat.le_of_eq hka) hla) (Nat.le_trans (Nat.le_of_eq hkb) hlb) dL_worstLeaf_15
  · subst ea; subst eb
    obtain ⟨h4x, e1, e2, e3⟩ := xA_s h4
    clear h4
    subst e1; subst e2; subst e3
    have hka := bk hka
    have hkb := bk hkb
    by_cases q0 : n3 = 0
    · subst q0; replace h := ifp rfl h
      refine g_callVk (x := 0) (st := [.int 0, va_rf v1]) (xe := ⟨0, 8, 11, 20⟩) B hE ⟨[], [], rfl, ca_p0, rfl, by decide, clk_20, cst_0⟩ (st_n B dL_worstLeaf_11 rfl (Nat.le_of_ble_eq_true rfl)) (cX9_worstLeafc (o := .error 0) h4x) (Nat.le_of_ble_eq_true rfl) rfl rfl mi_X9_worstLeaf lk_RL_72 ⟨Nat.le_of_ble_eq_true rfl, Nat.le_of_ble_eq_true rfl⟩ rfl rfl (Nat.le_of_ble_eq_true rfl) dL_worstLeaf_3 (Nat.le_trans (bm hka) hla) (Nat.le_trans (bm hkb) hlb) ?_
      refine g_iconst (v := 1) B dL_worstLeaf_12 (by decide) ?_
      obtain ⟨w1, w2, w3, w4⟩ := inA h
      clear h
      subst w1
      subst w2
      subst w3
      subst w4
      exact g_iretW B hE (Nat.le_trans (Nat.le_of_eq hka) hla) (Nat.le_trans (Nat.le_of_eq hkb) hlb) dL_worstLeaf_13
    replace h := ifn q0 h
    cases h
set_option maxRecDepth 100000 in
set_option maxHeartbeats 4000000 in
theorem cL_shakenOutc {l : Launch} {v0 : Option Nat} {v1 : Option Nat} {σ : HpT} {o : Except Nat (Int32)} {σ' : HpT} {a b : Nat} (h : fL_shakenOut v0 v1 σ = some (o, σ', a, b)) : CtW l yL_shakenOut cL_shakenOut 3 (some .int) [(0, 8, 11, 20)] 8 131 [va_rf v0, va_rf v1] σ (oI o) σ' a b := by
  unfold fL_shakenOut at h
  refine ctW_start miw_L_shakenOut.1 rfl (al_le (al_1 (rf_cat _) (al_1 (rf_cat _) al_n)) (Nat.le_of_ble_eq_true rfl)) (ag_1 (rf_cat _) (ag_1 (rf_cat _) ag_n)) (fun Δ Γ B hE => ?_)
  have hka : 0 + a = a := Nat.zero_add a
  have hkb : 0 + b = b := Nat.zero_add b
  have hla : a ≤ a := Nat.le_refl a
  have hlb : b ≤ b := Nat.le_refl b
  refine g_aload_n B 1 dL_shakenOut_0 rfl rfl ?_
  refine g_iconst (v := 0) B dL_shakenOut_1 (by decide) ?_
  refine g_aload_n B 0 dL_shakenOut_2 rfl rfl ?_
  replace h := bnC_s h
  rcases h with ⟨x1, s2, a5, b6, a7, b8, h4, h, ea, eb⟩ | ⟨n3, s2, a5, b6, a7, b8, h4, h, ea, eb⟩
  · subst ea; subst eb
    have hka := bk hka
    have hkb := bk hkb
    refine g_callVsA (st := [.int 0, va_rf v1]) B (cX9_shakenOutc (o := .ok x1) h4) (Nat.le_of_ble_eq_true rfl) rfl rfl mi_X9_shakenOut lk_RL_75 ⟨Nat.le_of_ble_eq_true rfl, Nat.le_of_ble_eq_true rfl⟩ rfl rfl (Nat.le_of_ble_eq_true rfl) dL_shakenOut_3 (Nat.le_trans (bm hka) hla) (Nat.le_trans (bm hkb) hlb) ?_
    refine g_i2l B dL_shakenOut_6 ?_
    replace h := bnP_s h
    obtain ⟨s11, h10, h⟩ := h
    refine g_last B dL_shakenOut_7 h10 ?_
    refine g_goto B 14 dL_shakenOut_8 (by decide) ?_
    refine g_iconst (v := 0) B dL_shakenOut_14 (by decide) ?_
    obtain ⟨w1, w2, w3, w4⟩ := inA h
    clear h
    subst w1
    subst w2
    subst w3
    subst w4
    exact g_iretW B hE (Nat.le_trans (Nat.le_of_eq hka) hla) (Nat.le_trans (Nat.le_of_eq hkb) hlb) dL_shakenOut_15
  · subst ea; subst eb
    have hka := bk hka
    have hkb := bk hkb
    by_cases q0 : n3 = 0
    · subst q0; replace h := ifp rfl h
      refine g_callVk (x := 0) (st := [.int 0, va_rf v1]) (xe := ⟨0, 8, 11, 20⟩) B hE ⟨[], [], rfl, ca_p0, rfl, by decide, clk_20, cst_0⟩ (st_n B dL_shakenOut_11 rfl (Nat.le_of_ble_eq_true rfl)) (cX9_shakenOutc (o := .error 0) h4) (Nat.le_of_ble_eq_true rfl) rfl rfl mi_X9_shakenOut lk_RL_75 ⟨Nat.le_of_ble_eq_true rfl, Nat.le_of_ble_eq_true rfl⟩ rfl rfl (Nat.le_of_ble_eq_true rfl) dL_shakenOut_3 (Nat.le_trans (bm hka) hla) (Nat.le_trans (bm hkb) hlb) ?_
      refine g_iconst (v := 1) B dL_shakenOut_12 (by decide) ?_
      obtain ⟨w1, w2, w3, w4⟩ := inA h
      clear h
      subst w1
      subst w2
      subst w3
      subst w4
      exact g_iretW B hE (Nat.le_trans (Nat.le_of_eq hka) hla) (Nat.le_trans (Nat.le_of_eq hkb) hlb) dL_shakenOut_13
    replace h := ifn q0 h
    cases h
set_option maxRecDepth 100000 in
set_option maxHeartbeats 4000000 in
theorem cL_leavesForc {l : Launch} {v0 : Option Nat} {v1 : Int32} {v2 : Option Nat} {σ : HpT} {o : Except Nat (Int32)} {σ' : HpT} {a b : Nat} (h : fL_leavesFor v0 v1 v2 σ = some (o, σ', a, b)) : CtW l yL_leavesFor cL_leavesFor 4 (some .int) [(0, 9, 12, 20), (0, 9, 15, 15)] 8 133 [va_rf v0, .int v1, va_rf v2] σ (oI o) σ' a b := by
  unfold fL_leavesFor at h
  refine ctW_start miw_L_leavesFor.1 rfl (al_le (al_1 (rf_cat _) (al_1 rfl (al_1 (rf_cat _) al_n))) (Nat.le_of_ble_eq_true rfl)) (ag_1 (rf_cat _) (ag_1 rfl (ag_1 (rf_cat _) ag_n))) (fun Δ Γ B hE => ?_)
  have hka : 0 + a = a := Nat.zero_add a
  have hkb : 0 + b = b := Nat.zero_add b
  have hla : a ≤ a := Nat.le_refl a
  have hlb : b ≤ b := Nat.le_refl b
  refine g_aload_n B 2 dL_leavesFor_0 rfl rfl ?_
  refine g_iconst (v := 0) B dL_leavesFor_1 (by decide) ?_
  refine g_aload_n B 0 dL_leavesFor_2 rfl rfl ?_
  refine g_iload_n B 1 dL_leavesFor_3 rfl rfl ?_
  replace h := bnC_s h
  rcases h with ⟨x1, s2, a5, b6, a7, b8, h4, h, ea, eb⟩ | ⟨n3, s2, a5, b6, a7, b8, h4, h, ea, eb⟩
  · subst ea; subst eb
    obtain ⟨h4x, e1, e2, e3⟩ := xA_s h4
    clear h4
    subst e1; subst e2; subst e3
    have hka := bk hka
    have hkb := bk hkb
    refine g_callVsA (st := [.int 0, va_rf v2]) B (cX9_leavesForc (o := .ok x1) h4x) (Nat.le_of_ble_eq_true rfl) rfl rfl mi_X9_leavesFor lk_RL_78 ⟨Nat.le_of_ble_eq_true rfl, Nat.le_of_ble_eq_true rfl⟩ rfl rfl (Nat.le_of_ble_eq_true rfl) dL_leavesFor_4 (Nat.le_trans (bm hka) hla) (Nat.le_trans (bm hkb) hlb) ?_
    refine g_i2l B dL_leavesFor_7 ?_
    replace h := bnP_s h
    obtain ⟨s11, h10, h⟩ := h
    refine g_last B dL_leavesFor_8 h10 ?_
    refine g_goto B 18 dL_leavesFor_9 (by decide) ?_
    refine g_iconst (v := 0) B dL_leavesFor_18 (by decide) ?_
    obtain ⟨w1, w2, w3, w4⟩ := inA h
    clear h
    subst w1
    subst w2
    subst w3
    subst w4
    exact g_iretW B hE (Nat.le_trans (Nat.le_of_eq hka) hla) (Nat.le_trans (Nat.le_of_eq hkb) hlb) dL_leavesFor_19
  · subst ea; subst eb
    obtain ⟨h4x, e1, e2, e3⟩ := xA_s h4
    clear h4
    subst e1; subst e2; subst e3
    have hka := bk hka
    have hkb := bk hkb
    by_cases q0 : n3 = 0
    · subst q0; replace h := ifp rfl h
      refine g_callVk (x := 0) (st := [.int 0, va_rf v2]) (xe := ⟨0, 9, 12, 20⟩) B hE ⟨[], [⟨0, 9, 15, 15⟩], rfl, ca_p0, rfl, by decide, clk_20, cst_0⟩ (st_n B dL_leavesFor_12 rfl (Nat.le_of_ble_eq_true rfl)) (cX9_leavesForc (o := .error 0) h4x) (Nat.le_of_ble_eq_true rfl) rfl rfl mi_X9_leavesFor lk_RL_78 ⟨Nat.le_of_ble_eq_true rfl, Nat.le_of_ble_eq_true rfl⟩ rfl rfl (Nat.le_of_ble_eq_true rfl) dL_leavesFor_4 (Nat.le_trans (bm hka) hla) (Nat.le_trans (bm hkb) hlb) ?_
      refine g_iconst (v := 1) B dL_leavesFor_13 (by decide) ?_
      obtain ⟨w1, w2, w3, w4⟩ := inA h
      clear h
      subst w1
      subst w2
      subst w3
      subst w4
      exact g_iretW B hE (Nat.le_trans (Nat.le_of_eq hka) hla) (Nat.le_trans (Nat.le_of_eq hkb) hlb) dL_leavesFor_14
    replace h := ifn q0 h
    by_cases q2 : n3 = 2
    · subst q2; replace h := ifp rfl h
      refine g_callVk (x := 2) (st := [.int 0, va_rf v2]) (xe := ⟨0, 9, 15, 15⟩) B hE ⟨[⟨0, 9, 12, 20⟩], [], rfl, (ca_p1 (Or.inr ⟨by decide, _, clk_20, hE.2.2.2.2.1⟩) ca_p0), rfl, by decide, clk_15, cst_2⟩ (st_n B dL_leavesFor_15 rfl (Nat.le_of_ble_eq_true rfl)) (cX9_leavesForc (o := .error 2) h4x) (Nat.le_of_ble_eq_true rfl) rfl rfl mi_X9_leavesFor lk_RL_78 ⟨Nat.le_of_ble_eq_true rfl, Nat.le_of_ble_eq_true rfl⟩ rfl rfl (Nat.le_of_ble_eq_true rfl) dL_leavesFor_4 (Nat.le_trans (bm hka) hla) (Nat.le_trans (bm hkb) hlb) ?_
      refine g_iconst (v := 2) B dL_leavesFor_16 (by decide) ?_
      obtain ⟨w1, w2, w3, w4⟩ := inA h
      clear h
      subst w1
      subst w2
      subst w3
      subst w4
      exact g_iretW B hE (Nat.le_trans (Nat.le_of_eq hka) hla) (Nat.le_trans (Nat.le_of_eq hkb) hlb) dL_leavesFor_17
    replace h := ifn q2 h
    cases h
set_option maxRecDepth 100000 in
set_option maxHeartbeats 4000000 in
theorem cL_copyWordsc {l : Launch} {v0 : Option Nat} {v1 : Int32} {v2 : Int32} {v3 : Option Nat} {σ : HpT} {o : Except Nat (Int32)} {σ' : HpT} {a b : Nat} (h : fL_copyWords v0 v1 v2 v3 σ = some (o, σ', a, b)) : CtW l yL_copyWords cL_copyWords 5 (some .int) [(0, 10, 13, 20), (0, 10, 17, 13), (0, 10, 21, 15)] 8 134 [va_rf v0, .int v1, .int v2, va_rf v3] σ (oI o) σ' a b := by
  unfold fL_copyWords at h
  refine ctW_start miw_L_copyWords.1 rfl (al_le (al_1 (rf_cat _) (al_1 rfl (al_1 rfl (al_1 (rf_cat _) al_n)))) (Nat.le_of_ble_eq_true rfl)) (ag_1 (rf_cat _) (ag_1 rfl (ag_1 rfl (ag_1 (rf_cat _) ag_n)))) (fun Δ Γ B hE => ?_)
  have hka : 0 + a = a := Nat.zero_add a
  have hkb : 0 + b = b := Nat.zero_add b
  have hla : a ≤ a := Nat.le_refl a
  have hlb : b ≤ b := Nat.le_refl b
  refine g_aload_n B 3 dL_copyWords_0 rfl rfl ?_
  refine g_iconst (v := 0) B dL_copyWords_1 (by decide) ?_
  refine g_aload_n B 0 dL_copyWords_2 rfl rfl ?_
  refine g_iload_n B 1 dL_copyWords_3 rfl rfl ?_
  refine g_iload_n B 2 dL_copyWords_4 rfl rfl ?_
  replace h := bnC_s h
  rcases h with ⟨x1, s2, a5, b6, a7, b8, h4, h, ea, eb⟩ | ⟨n3, s2, a5, b6, a7, b8, h4, h, ea, eb⟩
  · subst ea; subst eb
    have hka := bk hka
    have hkb := bk hkb
    refine g_callVsA (st := [.int 0, va_rf v3]) B (cX9_copyWordsc (o := .ok x1) h4) (Nat.le_of_ble_eq_true rfl) rfl rfl mi_X9_copyWords lk_RL_81 ⟨Nat.le_of_ble_eq_true rfl, Nat.le_of_ble_eq_true rfl⟩ rfl rfl (Nat.le_of_ble_eq_true rfl) dL_copyWords_5 (Nat.le_trans (bm hka) hla) (Nat.le_trans (bm hkb) hlb) ?_
    refine g_i2l B dL_copyWords_8 ?_
    replace h := bnP_s h
    obtain ⟨s11, h10, h⟩ := h
    refine g_last B dL_copyWords_9 h10 ?_
    refine g_goto B 25 dL_copyWords_10 (by decide) ?_
    refine g_iconst (v := 0) B dL_copyWords_25 (by decide) ?_
    obtain ⟨w1, w2, w3, w4⟩ := inA h
    clear h
    subst w1
    subst w2
    subst w3
    subst w4
    exact g_iretW B hE (Nat.le_trans (Nat.le_of_eq hka) hla) (Nat.le_trans (Nat.le_of_eq hkb) hlb) dL_copyWords_26
  · subst ea; subst eb
    have hka := bk hka
    have hkb := bk hkb
    by_cases q0 : n3 = 0
    · subst q0; replace h := ifp rfl h
      refine g_callVk (x := 0) (st := [.int 0, va_rf v3]) (xe := ⟨0, 10, 13, 20⟩) B hE ⟨[], [⟨0, 10, 17, 13⟩, ⟨0, 10, 21, 15⟩], rfl, ca_p0, rfl, by decide, clk_20, cst_0⟩ (st_1 B dL_copyWords_13 (Nat.le_of_ble_eq_true rfl)) (cX9_copyWordsc (o := .error 0) h4) (Nat.le_of_ble_eq_true rfl) rfl rfl mi_X9_copyWords lk_RL_81 ⟨Nat.le_of_ble_eq_true rfl, Nat.le_of_ble_eq_true rfl⟩ rfl rfl (Nat.le_of_ble_eq_true rfl) dL_copyWords_5 (Nat.le_trans (bm hka) hla) (Nat.le_trans (bm hkb) hlb) ?_
      refine g_iconst (v := 1) B dL_copyWords_15 (by decide) ?_
      obtain ⟨w1, w2, w3, w4⟩ := inA h
      clear h
      subst w1
      subst w2
      subst w3
      subst w4
      exact g_iretW B hE (Nat.le_trans (Nat.le_of_eq hka) hla) (Nat.le_trans (Nat.le_of_eq hkb) hlb) dL_copyWords_16
    replace h := ifn q0 h
    by_cases q1 : n3 = 1
    · subst q1; replace h := ifp rfl h
      refine g_callVk (x := 1) (st := [.int 0, va_rf v3]) (xe := ⟨0, 10, 17, 13⟩) B hE ⟨[⟨0, 10, 13, 20⟩], [⟨0, 10, 21, 15⟩], rfl, (ca_p1 (Or.inr ⟨by decide, _, clk_20, hE.2.2.2.1⟩) ca_p0), rfl, by decide, clk_13, cst_1⟩ (st_1 B dL_copyWords_17 (Nat.le_of_ble_eq_true rfl)) (cX9_copyWordsc (o := .error 1) h4) (Nat.le_of_ble_eq_true rfl) rfl rfl mi_X9_copyWords lk_RL_81 ⟨Nat.le_of_ble_eq_true rfl, Nat.le_of_ble_eq_true rfl⟩ rfl rfl (Nat.le_of_ble_eq_true rfl) dL_copyWords_5 (Nat.le_trans (bm hka) hla) (Nat.le_trans (bm hkb) hlb) ?_
      refine g_iconst (v := 2) B dL_copyWords_19 (by decide) ?_
      obtain ⟨w1, w2, w3, w4⟩ := inA h
      clear h
      subst w1
      subst w2
      subst w3
      subst w4
      exact g_iretW B hE (Nat.le_trans (Nat.le_of_eq hka) hla) (Nat.le_trans (Nat.le_of_eq hkb) hlb) dL_copyWords_20
    replace h := ifn q1 h
    by_cases q2 : n3 = 2
    · subst q2; replace h := ifp rfl h
      refine g_callVk (x := 2) (st := [.int 0, va_rf v3]) (xe := ⟨0, 10, 21, 15⟩) B hE ⟨[⟨0, 10, 13, 20⟩, ⟨0, 10, 17, 13⟩], [], rfl, (ca_p1 (Or.inr ⟨by decide, _, clk_20, hE.2.2.2.2.1⟩) (ca_p1 (Or.inr ⟨by decide, _, clk_13, hE.2.2.2.2.2.1⟩) ca_p0)), rfl, by decide, clk_15, cst_2⟩ (st_1 B dL_copyWords_21 (Nat.le_of_ble_eq_true rfl)) (cX9_copyWordsc (o := .error 2) h4) (Nat.le_of_ble_eq_true rfl) rfl rfl mi_X9_copyWords lk_RL_81 ⟨Nat.le_of_ble_eq_true rfl, Nat.le_of_ble_eq_true rfl⟩ rfl rfl (Nat.le_of_ble_eq_true rfl) dL_copyWords_5 (Nat.le_trans (bm hka) hla) (Nat.le_trans (bm hkb) hlb) ?_
      refine g_iconst (v := 3) B dL_copyWords_23 (by decide) ?_
      obtain ⟨w1, w2, w3, w4⟩ := inA h
      clear h
      subst w1
      subst w2
      subst w3
      subst w4
      exact g_iretW B hE (Nat.le_trans (Nat.le_of_eq hka) hla) (Nat.le_trans (Nat.le_of_eq hkb) hlb) dL_copyWords_24
    replace h := ifn q2 h
    cases h
set_option maxRecDepth 100000 in
set_option maxHeartbeats 4000000 in
theorem cL_bestCopyc {l : Launch} {v0 : Option Nat} {v1 : Int32} {v2 : Option Nat} {σ : HpT} {o : Except Nat (Int32)} {σ' : HpT} {a b : Nat} (h : fL_bestCopy v0 v1 v2 σ = some (o, σ', a, b)) : CtW l yL_bestCopy cL_bestCopy 4 (some .int) [(0, 9, 12, 20), (0, 9, 15, 13)] 8 137 [va_rf v0, .int v1, va_rf v2] σ (oI o) σ' a b := by
  unfold fL_bestCopy at h
  refine ctW_start miw_L_bestCopy.1 rfl (al_le (al_1 (rf_cat _) (al_1 rfl (al_1 (rf_cat _) al_n))) (Nat.le_of_ble_eq_true rfl)) (ag_1 (rf_cat _) (ag_1 rfl (ag_1 (rf_cat _) ag_n))) (fun Δ Γ B hE => ?_)
  have hka : 0 + a = a := Nat.zero_add a
  have hkb : 0 + b = b := Nat.zero_add b
  have hla : a ≤ a := Nat.le_refl a
  have hlb : b ≤ b := Nat.le_refl b
  refine g_aload_n B 2 dL_bestCopy_0 rfl rfl ?_
  refine g_iconst (v := 0) B dL_bestCopy_1 (by decide) ?_
  refine g_aload_n B 0 dL_bestCopy_2 rfl rfl ?_
  refine g_iload_n B 1 dL_bestCopy_3 rfl rfl ?_
  replace h := bnC_s h
  rcases h with ⟨x1, s2, a5, b6, a7, b8, h4, h, ea, eb⟩ | ⟨n3, s2, a5, b6, a7, b8, h4, h, ea, eb⟩
  · subst ea; subst eb
    have hka := bk hka
    have hkb := bk hkb
    refine g_callVsA (st := [.int 0, va_rf v2]) B (cX9_bestCopyc (o := .ok x1) h4) (Nat.le_of_ble_eq_true rfl) rfl rfl mi_X9_bestCopy lk_RL_84 ⟨Nat.le_of_ble_eq_true rfl, Nat.le_of_ble_eq_true rfl⟩ rfl rfl (Nat.le_of_ble_eq_true rfl) dL_bestCopy_4 (Nat.le_trans (bm hka) hla) (Nat.le_trans (bm hkb) hlb) ?_
    refine g_i2l B dL_bestCopy_7 ?_
    replace h := bnP_s h
    obtain ⟨s11, h10, h⟩ := h
    refine g_last B dL_bestCopy_8 h10 ?_
    refine g_goto B 18 dL_bestCopy_9 (by decide) ?_
    refine g_iconst (v := 0) B dL_bestCopy_18 (by decide) ?_
    obtain ⟨w1, w2, w3, w4⟩ := inA h
    clear h
    subst w1
    subst w2
    subst w3
    subst w4
    exact g_iretW B hE (Nat.le_trans (Nat.le_of_eq hka) hla) (Nat.le_trans (Nat.le_of_eq hkb) hlb) dL_bestCopy_19
  · subst ea; subst eb
    have hka := bk hka
    have hkb := bk hkb
    by_cases q0 : n3 = 0
    · subst q0; replace h := ifp rfl h
      refine g_callVk (x := 0) (st := [.int 0, va_rf v2]) (xe := ⟨0, 9, 12, 20⟩) B hE ⟨[], [⟨0, 9, 15, 13⟩], rfl, ca_p0, rfl, by decide, clk_20, cst_0⟩ (st_n B dL_bestCopy_12 rfl (Nat.le_of_ble_eq_true rfl)) (cX9_bestCopyc (o := .error 0) h4) (Nat.le_of_ble_eq_true rfl) rfl rfl mi_X9_bestCopy lk_RL_84 ⟨Nat.le_of_ble_eq_true rfl, Nat.le_of_ble_eq_true rfl⟩ rfl rfl (Nat.le_of_ble_eq_true rfl) dL_bestCopy_4 (Nat.le_trans (bm hka) hla) (Nat.le_trans (bm hkb) hlb) ?_
      refine g_iconst (v := 1) B dL_bestCopy_13 (by decide) ?_
      obtain ⟨w1, w2, w3, w4⟩ := inA h
      clear h
      subst w1
      subst w2
      subst w3
      subst w4
      exact g_iretW B hE (Nat.le_trans (Nat.le_of_eq hka) hla) (Nat.le_trans (Nat.le_of_eq hkb) hlb) dL_bestCopy_14
    replace h := ifn q0 h
    by_cases q1 : n3 = 1
    · subst q1; replace h := ifp rfl h
      refine g_callVk (x := 1) (st := [.int 0, va_rf v2]) (xe := ⟨0, 9, 15, 13⟩) B hE ⟨[⟨0, 9, 12, 20⟩], [], rfl, (ca_p1 (Or.inr ⟨by decide, _, clk_20, hE.2.2.2.1⟩) ca_p0), rfl, by decide, clk_13, cst_1⟩ (st_n B dL_bestCopy_15 rfl (Nat.le_of_ble_eq_true rfl)) (cX9_bestCopyc (o := .error 1) h4) (Nat.le_of_ble_eq_true rfl) rfl rfl mi_X9_bestCopy lk_RL_84 ⟨Nat.le_of_ble_eq_true rfl, Nat.le_of_ble_eq_true rfl⟩ rfl rfl (Nat.le_of_ble_eq_true rfl) dL_bestCopy_4 (Nat.le_trans (bm hka) hla) (Nat.le_trans (bm hkb) hlb) ?_
      refine g_iconst (v := 2) B dL_bestCopy_16 (by decide) ?_
      obtain ⟨w1, w2, w3, w4⟩ := inA h
      clear h
      subst w1
      subst w2
      subst w3
      subst w4
      exact g_iretW B hE (Nat.le_trans (Nat.le_of_eq hka) hla) (Nat.le_trans (Nat.le_of_eq hkb) hlb) dL_bestCopy_17
    replace h := ifn q1 h
    cases h
set_option maxRecDepth 100000 in
set_option maxHeartbeats 4000000 in
theorem cL_standingIfc {l : Launch} {v0 : Option Nat} {v1 : Int32} {v2 : Int32} {v3 : Option Nat} {σ : HpT} {o : Except Nat (Int32)} {σ' : HpT} {a b : Nat} (h : fL_standingIf v0 v1 v2 v3 σ = some (o, σ', a, b)) : CtW l yL_standingIf cL_standingIf 5 (some .int) [(0, 10, 13, 20), (0, 10, 17, 15)] 8 133 [va_rf v0, .int v1, .int v2, va_rf v3] σ (oI o) σ' a b := by
  unfold fL_standingIf at h
  refine ctW_start miw_L_standingIf.1 rfl (al_le (al_1 (rf_cat _) (al_1 rfl (al_1 rfl (al_1 (rf_cat _) al_n)))) (Nat.le_of_ble_eq_true rfl)) (ag_1 (rf_cat _) (ag_1 rfl (ag_1 rfl (ag_1 (rf_cat _) ag_n)))) (fun Δ Γ B hE => ?_)
  have hka : 0 + a = a := Nat.zero_add a
  have hkb : 0 + b = b := Nat.zero_add b
  have hla : a ≤ a := Nat.le_refl a
  have hlb : b ≤ b := Nat.le_refl b
  refine g_aload_n B 3 dL_standingIf_0 rfl rfl ?_
  refine g_iconst (v := 0) B dL_standingIf_1 (by decide) ?_
  refine g_aload_n B 0 dL_standingIf_2 rfl rfl ?_
  refine g_iload_n B 1 dL_standingIf_3 rfl rfl ?_
  refine g_iload_n B 2 dL_standingIf_4 rfl rfl ?_
  replace h := bnC_s h
  rcases h with ⟨x1, s2, a5, b6, a7, b8, h4, h, ea, eb⟩ | ⟨n3, s2, a5, b6, a7, b8, h4, h, ea, eb⟩
  · subst ea; subst eb
    have hka := bk hka
    have hkb := bk hkb
    refine g_callVsA (st := [.int 0, va_rf v3]) B (cX9_standingIfc (o := .ok x1) h4) (Nat.le_of_ble_eq_true rfl) rfl rfl mi_X9_standingIf lk_RL_87 ⟨Nat.le_of_ble_eq_true rfl, Nat.le_of_ble_eq_true rfl⟩ rfl rfl (Nat.le_of_ble_eq_true rfl) dL_standingIf_5 (Nat.le_trans (bm hka) hla) (Nat.le_trans (bm hkb) hlb) ?_
    refine g_i2l B dL_standingIf_8 ?_
    replace h := bnP_s h
    obtain ⟨s11, h10, h⟩ := h
    refine g_last B dL_standingIf_9 h10 ?_
    refine g_goto B 21 dL_standingIf_10 (by decide) ?_
    refine g_iconst (v := 0) B dL_standingIf_21 (by decide) ?_
    obtain ⟨w1, w2, w3, w4⟩ := inA h
    clear h
    subst w1
    subst w2
    subst w3
    subst w4
    exact g_iretW B hE (Nat.le_trans (Nat.le_of_eq hka) hla) (Nat.le_trans (Nat.le_of_eq hkb) hlb) dL_standingIf_22
  · subst ea; subst eb
    have hka := bk hka
    have hkb := bk hkb
    by_cases q0 : n3 = 0
    · subst q0; replace h := ifp rfl h
      refine g_callVk (x := 0) (st := [.int 0, va_rf v3]) (xe := ⟨0, 10, 13, 20⟩) B hE ⟨[], [⟨0, 10, 17, 15⟩], rfl, ca_p0, rfl, by decide, clk_20, cst_0⟩ (st_1 B dL_standingIf_13 (Nat.le_of_ble_eq_true rfl)) (cX9_standingIfc (o := .error 0) h4) (Nat.le_of_ble_eq_true rfl) rfl rfl mi_X9_standingIf lk_RL_87 ⟨Nat.le_of_ble_eq_true rfl, Nat.le_of_ble_eq_true rfl⟩ rfl rfl (Nat.le_of_ble_eq_true rfl) dL_standingIf_5 (Nat.le_trans (bm hka) hla) (Nat.le_trans (bm hkb) hlb) ?_
      refine g_iconst (v := 1) B dL_standingIf_15 (by decide) ?_
      obtain ⟨w1, w2, w3, w4⟩ := inA h
      clear h
      subst w1
      subst w2
      subst w3
      subst w4
      exact g_iretW B hE (Nat.le_trans (Nat.le_of_eq hka) hla) (Nat.le_trans (Nat.le_of_eq hkb) hlb) dL_standingIf_16
    replace h := ifn q0 h
    by_cases q2 : n3 = 2
    · subst q2; replace h := ifp rfl h
      refine g_callVk (x := 2) (st := [.int 0, va_rf v3]) (xe := ⟨0, 10, 17, 15⟩) B hE ⟨[⟨0, 10, 13, 20⟩], [], rfl, (ca_p1 (Or.inr ⟨by decide, _, clk_20, hE.2.2.2.2.1⟩) ca_p0), rfl, by decide, clk_15, cst_2⟩ (st_1 B dL_standingIf_17 (Nat.le_of_ble_eq_true rfl)) (cX9_standingIfc (o := .error 2) h4) (Nat.le_of_ble_eq_true rfl) rfl rfl mi_X9_standingIf lk_RL_87 ⟨Nat.le_of_ble_eq_true rfl, Nat.le_of_ble_eq_true rfl⟩ rfl rfl (Nat.le_of_ble_eq_true rfl) dL_standingIf_5 (Nat.le_trans (bm hka) hla) (Nat.le_trans (bm hkb) hlb) ?_
      refine g_iconst (v := 2) B dL_standingIf_19 (by decide) ?_
      obtain ⟨w1, w2, w3, w4⟩ := inA h
      clear h
      subst w1
      subst w2
      subst w3
      subst w4
      exact g_iretW B hE (Nat.le_trans (Nat.le_of_eq hka) hla) (Nat.le_trans (Nat.le_of_eq hkb) hlb) dL_standingIf_20
    replace h := ifn q2 h
    cases h
set_option maxRecDepth 100000 in
set_option maxHeartbeats 4000000 in
theorem cL_findWordc {l : Launch} {v0 : Option Nat} {v1 : Int32} {v2 : Option Nat} {σ : HpT} {o : Except Nat (Int32)} {σ' : HpT} {a b : Nat} (h : fL_findWord v0 v1 v2 σ = some (o, σ', a, b)) : CtW l yL_findWord cL_findWord 4 (some .int) [(0, 9, 12, 20), (0, 9, 15, 13)] 8 134 [va_rf v0, .int v1, va_rf v2] σ (oI o) σ' a b := by
  unfold fL_findWord at h
  refine ctW_start miw_L_findWord.1 rfl (al_le (al_1 (rf_cat _) (al_1 rfl (al_1 (rf_cat _) al_n))) (Nat.le_of_ble_eq_true rfl)) (ag_1 (rf_cat _) (ag_1 rfl (ag_1 (rf_cat _) ag_n))) (fun Δ Γ B hE => ?_)
  have hka : 0 + a = a := Nat.zero_add a
  have hkb : 0 + b = b := Nat.zero_add b
  have hla : a ≤ a := Nat.le_refl a
  have hlb : b ≤ b := Nat.le_refl b
  refine g_aload_n B 2 dL_findWord_0 rfl rfl ?_
  refine g_iconst (v := 0) B dL_findWord_1 (by decide) ?_
  refine g_aload_n B 0 dL_findWord_2 rfl rfl ?_
  refine g_iload_n B 1 dL_findWord_3 rfl rfl ?_
  replace h := bnC_s h
  rcases h with ⟨x1, s2, a5, b6, a7, b8, h4, h, ea, eb⟩ | ⟨n3, s2, a5, b6, a7, b8, h4, h, ea, eb⟩
  · subst ea; subst eb
    have hka := bk hka
    have hkb := bk hkb
    refine g_callVsA (st := [.int 0, va_rf v2]) B (cX9_findWordc (o := .ok x1) h4) (Nat.le_of_ble_eq_true rfl) rfl rfl mi_X9_findWord lk_RL_91 ⟨Nat.le_of_ble_eq_true rfl, Nat.le_of_ble_eq_true rfl⟩ rfl rfl (Nat.le_of_ble_eq_true rfl) dL_findWord_4 (Nat.le_trans (bm hka) hla) (Nat.le_trans (bm hkb) hlb) ?_
    refine g_i2l B dL_findWord_7 ?_
    replace h := bnP_s h
    obtain ⟨s11, h10, h⟩ := h
    refine g_last B dL_findWord_8 h10 ?_
    refine g_goto B 18 dL_findWord_9 (by decide) ?_
    refine g_iconst (v := 0) B dL_findWord_18 (by decide) ?_
    obtain ⟨w1, w2, w3, w4⟩ := inA h
    clear h
    subst w1
    subst w2
    subst w3
    subst w4
    exact g_iretW B hE (Nat.le_trans (Nat.le_of_eq hka) hla) (Nat.le_trans (Nat.le_of_eq hkb) hlb) dL_findWord_19
  · subst ea; subst eb
    have hka := bk hka
    have hkb := bk hkb
    by_cases q0 : n3 = 0
    · subst q0; replace h := ifp rfl h
      refine g_callVk (x := 0) (st := [.int 0, va_rf v2]) (xe := ⟨0, 9, 12, 20⟩) B hE ⟨[], [⟨0, 9, 15, 13⟩], rfl, ca_p0, rfl, by decide, clk_20, cst_0⟩ (st_n B dL_findWord_12 rfl (Nat.le_of_ble_eq_true rfl)) (cX9_findWordc (o := .error 0) h4) (Nat.le_of_ble_eq_true rfl) rfl rfl mi_X9_findWord lk_RL_91 ⟨Nat.le_of_ble_eq_true rfl, Nat.le_of_ble_eq_true rfl⟩ rfl rfl (Nat.le_of_ble_eq_true rfl) dL_findWord_4 (Nat.le_trans (bm hka) hla) (Nat.le_trans (bm hkb) hlb) ?_
      refine g_iconst (v := 1) B dL_findWord_13 (by decide) ?_
      obtain ⟨w1, w2, w3, w4⟩ := inA h
      clear h
      subst w1
      subst w2
      subst w3
      subst w4
      exact g_iretW B hE (Nat.le_trans (Nat.le_of_eq hka) hla) (Nat.le_trans (Nat.le_of_eq hkb) hlb) dL_findWord_14
    replace h := ifn q0 h
    by_cases q1 : n3 = 1
    · subst q1; replace h := ifp rfl h
      refine g_callVk (x := 1) (st := [.int 0, va_rf v2]) (xe := ⟨0, 9, 15, 13⟩) B hE ⟨[⟨0, 9, 12, 20⟩], [], rfl, (ca_p1 (Or.inr ⟨by decide, _, clk_20, hE.2.2.2.1⟩) ca_p0), rfl, by decide, clk_13, cst_1⟩ (st_n B dL_findWord_15 rfl (Nat.le_of_ble_eq_true rfl)) (cX9_findWordc (o := .error 1) h4) (Nat.le_of_ble_eq_true rfl) rfl rfl mi_X9_findWord lk_RL_91 ⟨Nat.le_of_ble_eq_true rfl, Nat.le_of_ble_eq_true rfl⟩ rfl rfl (Nat.le_of_ble_eq_true rfl) dL_findWord_4 (Nat.le_trans (bm hka) hla) (Nat.le_trans (bm hkb) hlb) ?_
      refine g_iconst (v := 2) B dL_findWord_16 (by decide) ?_
      obtain ⟨w1, w2, w3, w4⟩ := inA h
      clear h
      subst w1
      subst w2
      subst w3
      subst w4
      exact g_iretW B hE (Nat.le_trans (Nat.le_of_eq hka) hla) (Nat.le_trans (Nat.le_of_eq hkb) hlb) dL_findWord_17
    replace h := ifn q1 h
    cases h
set_option maxRecDepth 100000 in
set_option maxHeartbeats 4000000 in
theorem cL_longestc {l : Launch} {v0 : Option Nat} {v1 : Int32} {v2 : Option Nat} {σ : HpT} {o : Except Nat (Int32)} {σ' : HpT} {a b : Nat} (h : fL_longest v0 v1 v2 σ = some (o, σ', a, b)) : CtW l yL_longest cL_longest 4 (some .int) [(0, 9, 12, 20), (0, 9, 15, 13)] 8 137 [va_rf v0, .int v1, va_rf v2] σ (oI o) σ' a b := by
  unfold fL_longest at h
  refine ctW_start miw_L_longest.1 rfl (al_le (al_1 (rf_cat _) (al_1 rfl (al_1 (rf_cat _) al_n))) (Nat.le_of_ble_eq_true rfl)) (ag_1 (rf_cat _) (ag_1 rfl (ag_1 (rf_cat _) ag_n))) (fun Δ Γ B hE => ?_)
  have hka : 0 + a = a := Nat.zero_add a
  have hkb : 0 + b = b := Nat.zero_add b
  have hla : a ≤ a := Nat.le_refl a
  have hlb : b ≤ b := Nat.le_refl b
  refine g_aload_n B 2 dL_longest_0 rfl rfl ?_
  refine g_iconst (v := 0) B dL_longest_1 (by decide) ?_
  refine g_aload_n B 0 dL_longest_2 rfl rfl ?_
  refine g_iload_n B 1 dL_longest_3 rfl rfl ?_
  replace h := bnC_s h
  rcases h with ⟨x1, s2, a5, b6, a7, b8, h4, h, ea, eb⟩ | ⟨n3, s2, a5, b6, a7, b8, h4, h, ea, eb⟩
  · subst ea; subst eb
    obtain ⟨h4x, e1, e2, e3⟩ := xA_s h4
    clear h4
    subst e1; subst e2; subst e3
    have hka := bk hka
    have hkb := bk hkb
    refine g_callVsA (st := [.int 0, va_rf v2]) B (cX9_longestc (o := .ok x1) h4x) (Nat.le_of_ble_eq_true rfl) rfl rfl mi_X9_longest lk_RL_94 ⟨Nat.le_of_ble_eq_true rfl, Nat.le_of_ble_eq_true rfl⟩ rfl rfl (Nat.le_of_ble_eq_true rfl) dL_longest_4 (Nat.le_trans (bm hka) hla) (Nat.le_trans (bm hkb) hlb) ?_
    refine g_i2l B dL_longest_7 ?_
    replace h := bnP_s h
    obtain ⟨s11, h10, h⟩ := h
    refine g_last B dL_longest_8 h10 ?_
    refine g_goto B 18 dL_longest_9 (by decide) ?_
    refine g_iconst (v := 0) B dL_longest_18 (by decide) ?_
    obtain ⟨w1, w2, w3, w4⟩ := inA h
    clear h
    subst w1
    subst w2
    subst w3
    subst w4
    exact g_iretW B hE (Nat.le_trans (Nat.le_of_eq hka) hla) (Nat.le_trans (Nat.le_of_eq hkb) hlb) dL_longest_19
  · subst ea; subst eb
    obtain ⟨h4x, e1, e2, e3⟩ := xA_s h4
    clear h4
    subst e1; subst e2; subst e3
    have hka := bk hka
    have hkb := bk hkb
    by_cases q0 : n3 = 0
    · subst q0; replace h := ifp rfl h
      refine g_callVk (x := 0) (st := [.int 0, va_rf v2]) (xe := ⟨0, 9, 12, 20⟩) B hE ⟨[], [⟨0, 9, 15, 13⟩], rfl, ca_p0, rfl, by decide, clk_20, cst_0⟩ (st_n B dL_longest_12 rfl (Nat.le_of_ble_eq_true rfl)) (cX9_longestc (o := .error 0) h4x) (Nat.le_of_ble_eq_true rfl) rfl rfl mi_X9_longest lk_RL_94 ⟨Nat.le_of_ble_eq_true rfl, Nat.le_of_ble_eq_true rfl⟩ rfl rfl (Nat.le_of_ble_eq_true rfl) dL_longest_4 (Nat.le_trans (bm hka) hla) (Nat.le_trans (bm hkb) hlb) ?_
      refine g_iconst (v := 1) B dL_longest_13 (by decide) ?_
      obtain ⟨w1, w2, w3, w4⟩ := inA h
      clear h
      subst w1
      subst w2
      subst w3
      subst w4
      exact g_iretW B hE (Nat.le_trans (Nat.le_of_eq hka) hla) (Nat.le_trans (Nat.le_of_eq hkb) hlb) dL_longest_14
    replace h := ifn q0 h
    by_cases q1 : n3 = 1
    · subst q1; replace h := ifp rfl h
      refine g_callVk (x := 1) (st := [.int 0, va_rf v2]) (xe := ⟨0, 9, 15, 13⟩) B hE ⟨[⟨0, 9, 12, 20⟩], [], rfl, (ca_p1 (Or.inr ⟨by decide, _, clk_20, hE.2.2.2.1⟩) ca_p0), rfl, by decide, clk_13, cst_1⟩ (st_n B dL_longest_15 rfl (Nat.le_of_ble_eq_true rfl)) (cX9_longestc (o := .error 1) h4x) (Nat.le_of_ble_eq_true rfl) rfl rfl mi_X9_longest lk_RL_94 ⟨Nat.le_of_ble_eq_true rfl, Nat.le_of_ble_eq_true rfl⟩ rfl rfl (Nat.le_of_ble_eq_true rfl) dL_longest_4 (Nat.le_trans (bm hka) hla) (Nat.le_trans (bm hkb) hlb) ?_
      refine g_iconst (v := 2) B dL_longest_16 (by decide) ?_
      obtain ⟨w1, w2, w3, w4⟩ := inA h
      clear h
      subst w1
      subst w2
      subst w3
      subst w4
      exact g_iretW B hE (Nat.le_trans (Nat.le_of_eq hka) hla) (Nat.le_trans (Nat.le_of_eq hkb) hlb) dL_longest_17
    replace h := ifn q1 h
    cases h
set_option maxRecDepth 100000 in
set_option maxHeartbeats 4000000 in
theorem cL_commonc {l : Launch} {v0 : Option Nat} {v1 : Int32} {v2 : Int32} {v3 : Option Nat} {σ : HpT} {o : Except Nat (Int32)} {σ' : HpT} {a b : Nat} (h : fL_common v0 v1 v2 v3 σ = some (o, σ', a, b)) : CtW l yL_common cL_common 5 (some .int) [(0, 10, 13, 20), (0, 10, 17, 13)] 8 137 [va_rf v0, .int v1, .int v2, va_rf v3] σ (oI o) σ' a b := by
  unfold fL_common at h
  refine ctW_start miw_L_common.1 rfl (al_le (al_1 (rf_cat _) (al_1 rfl (al_1 rfl (al_1 (rf_cat _) al_n)))) (Nat.le_of_ble_eq_true rfl)) (ag_1 (rf_cat _) (ag_1 rfl (ag_1 rfl (ag_1 (rf_cat _) ag_n)))) (fun Δ Γ B hE => ?_)
  have hka : 0 + a = a := Nat.zero_add a
  have hkb : 0 + b = b := Nat.zero_add b
  have hla : a ≤ a := Nat.le_refl a
  have hlb : b ≤ b := Nat.le_refl b
  refine g_aload_n B 3 dL_common_0 rfl rfl ?_
  refine g_iconst (v := 0) B dL_common_1 (by decide) ?_
  refine g_aload_n B 0 dL_common_2 rfl rfl ?_
  refine g_iload_n B 1 dL_common_3 rfl rfl ?_
  refine g_iload_n B 2 dL_common_4 rfl rfl ?_
  replace h := bnC_s h
  rcases h with ⟨x1, s2, a5, b6, a7, b8, h4, h, ea, eb⟩ | ⟨n3, s2, a5, b6, a7, b8, h4, h, ea, eb⟩
  · subst ea; subst eb
    obtain ⟨h4x, e1, e2, e3⟩ := xA_s h4
    clear h4
    subst e1; subst e2; subst e3
    have hka := bk hka
    have hkb := bk hkb
    refine g_callVsA (st := [.int 0, va_rf v3]) B (cX9_commonc (o := .ok x1) h4x) (Nat.le_of_ble_eq_true rfl) rfl rfl mi_X9_common lk_RL_97 ⟨Nat.le_of_ble_eq_true rfl, Nat.le_of_ble_eq_true rfl⟩ rfl rfl (Nat.le_of_ble_eq_true rfl) dL_common_5 (Nat.le_trans (bm hka) hla) (Nat.le_trans (bm hkb) hlb) ?_
    refine g_i2l B dL_common_8 ?_
    replace h := bnP_s h
    obtain ⟨s11, h10, h⟩ := h
    refine g_last B dL_common_9 h10 ?_
    refine g_goto B 21 dL_common_10 (by decide) ?_
    refine g_iconst (v := 0) B dL_common_21 (by decide) ?_
    obtain ⟨w1, w2, w3, w4⟩ := inA h
    clear h
    subst w1
    subst w2
    subst w3
    subst w4
    exact g_iretW B hE (Nat.le_trans (Nat.le_of_eq hka) hla) (Nat.le_trans (Nat.le_of_eq hkb) hlb) dL_common_22
  · subst ea; subst eb
    obtain ⟨h4x, e1, e2, e3⟩ := xA_s h4
    clear h4
    subst e1; subst e2; subst e3
    have hka := bk hka
    have hkb := bk hkb
    by_cases q0 : n3 = 0
    · subst q0; replace h := ifp rfl h
      refine g_callVk (x := 0) (st := [.int 0, va_rf v3]) (xe := ⟨0, 10, 13, 20⟩) B hE ⟨[], [⟨0, 10, 17, 13⟩], rfl, ca_p0, rfl, by decide, clk_20, cst_0⟩ (st_1 B dL_common_13 (Nat.le_of_ble_eq_true rfl)) (cX9_commonc (o := .error 0) h4x) (Nat.le_of_ble_eq_true rfl) rfl rfl mi_X9_common lk_RL_97 ⟨Nat.le_of_ble_eq_true rfl, Nat.le_of_ble_eq_true rfl⟩ rfl rfl (Nat.le_of_ble_eq_true rfl) dL_common_5 (Nat.le_trans (bm hka) hla) (Nat.le_trans (bm hkb) hlb) ?_
      refine g_iconst (v := 1) B dL_common_15 (by decide) ?_
      obtain ⟨w1, w2, w3, w4⟩ := inA h
      clear h
      subst w1
      subst w2
      subst w3
      subst w4
      exact g_iretW B hE (Nat.le_trans (Nat.le_of_eq hka) hla) (Nat.le_trans (Nat.le_of_eq hkb) hlb) dL_common_16
    replace h := ifn q0 h
    by_cases q1 : n3 = 1
    · subst q1; replace h := ifp rfl h
      refine g_callVk (x := 1) (st := [.int 0, va_rf v3]) (xe := ⟨0, 10, 17, 13⟩) B hE ⟨[⟨0, 10, 13, 20⟩], [], rfl, (ca_p1 (Or.inr ⟨by decide, _, clk_20, hE.2.2.2.1⟩) ca_p0), rfl, by decide, clk_13, cst_1⟩ (st_1 B dL_common_17 (Nat.le_of_ble_eq_true rfl)) (cX9_commonc (o := .error 1) h4x) (Nat.le_of_ble_eq_true rfl) rfl rfl mi_X9_common lk_RL_97 ⟨Nat.le_of_ble_eq_true rfl, Nat.le_of_ble_eq_true rfl⟩ rfl rfl (Nat.le_of_ble_eq_true rfl) dL_common_5 (Nat.le_trans (bm hka) hla) (Nat.le_trans (bm hkb) hlb) ?_
      refine g_iconst (v := 2) B dL_common_19 (by decide) ?_
      obtain ⟨w1, w2, w3, w4⟩ := inA h
      clear h
      subst w1
      subst w2
      subst w3
      subst w4
      exact g_iretW B hE (Nat.le_trans (Nat.le_of_eq hka) hla) (Nat.le_trans (Nat.le_of_eq hkb) hlb) dL_common_20
    replace h := ifn q1 h
    cases h
set_option maxRecDepth 100000 in
set_option maxHeartbeats 4000000 in
theorem cL_knownSharec {l : Launch} {v0 : Option Nat} {v1 : Option Nat} {σ : HpT} {o : Except Nat (Int32)} {σ' : HpT} {a b : Nat} (h : fL_knownShare v0 v1 σ = some (o, σ', a, b)) : CtW l yL_knownShare cL_knownShare 3 (some .int) [(0, 8, 11, 20)] 8 131 [va_rf v0, va_rf v1] σ (oI o) σ' a b := by
  unfold fL_knownShare at h
  refine ctW_start miw_L_knownShare.1 rfl (al_le (al_1 (rf_cat _) (al_1 (rf_cat _) al_n)) (Nat.le_of_ble_eq_true rfl)) (ag_1 (rf_cat _) (ag_1 (rf_cat _) ag_n)) (fun Δ Γ B hE => ?_)
  have hka : 0 + a = a := Nat.zero_add a
  have hkb : 0 + b = b := Nat.zero_add b
  have hla : a ≤ a := Nat.le_refl a
  have hlb : b ≤ b := Nat.le_refl b
  refine g_aload_n B 1 dL_knownShare_0 rfl rfl ?_
  refine g_iconst (v := 0) B dL_knownShare_1 (by decide) ?_
  refine g_aload_n B 0 dL_knownShare_2 rfl rfl ?_
  replace h := bnC_s h
  rcases h with ⟨x1, s2, a5, b6, a7, b8, h4, h, ea, eb⟩ | ⟨n3, s2, a5, b6, a7, b8, h4, h, ea, eb⟩
  · subst ea; subst eb
    obtain ⟨h4x, e1, e2, e3⟩ := xA_s h4
    clear h4
    subst e1; subst e2; subst e3
    have hka := bk hka
    have hkb := bk hkb
    refine g_callVsA (st := [.int 0, va_rf v1]) B (cX9_knownSharec (o := .ok x1) h4x) (Nat.le_of_ble_eq_true rfl) rfl rfl mi_X9_knownShare lk_RL_100 ⟨Nat.le_of_ble_eq_true rfl, Nat.le_of_ble_eq_true rfl⟩ rfl rfl (Nat.le_of_ble_eq_true rfl) dL_knownShare_3 (Nat.le_trans (bm hka) hla) (Nat.le_trans (bm hkb) hlb) ?_
    replace h := bnP_s h
    obtain ⟨u9, h10, h⟩ := h
    refine g_f2d B dL_knownShare_6 (chD_s h10) ?_
    replace h := bnP_s h
    obtain ⟨s13, h12, h⟩ := h
    refine g_dast B dL_knownShare_7 h12 ?_
    refine g_goto B 14 dL_knownShare_8 (by decide) ?_
    refine g_iconst (v := 0) B dL_knownShare_14 (by decide) ?_
    obtain ⟨w1, w2, w3, w4⟩ := inA h
    clear h
    subst w1
    subst w2
    subst w3
    subst w4
    exact g_iretW B hE (Nat.le_trans (Nat.le_of_eq hka) hla) (Nat.le_trans (Nat.le_of_eq hkb) hlb) dL_knownShare_15
  · subst ea; subst eb
    obtain ⟨h4x, e1, e2, e3⟩ := xA_s h4
    clear h4
    subst e1; subst e2; subst e3
    have hka := bk hka
    have hkb := bk hkb
    by_cases q0 : n3 = 0
    · subst q0; replace h := ifp rfl h
      refine g_callVk (x := 0) (st := [.int 0, va_rf v1]) (xe := ⟨0, 8, 11, 20⟩) B hE ⟨[], [], rfl, ca_p0, rfl, by decide, clk_20, cst_0⟩ (st_n B dL_knownShare_11 rfl (Nat.le_of_ble_eq_true rfl)) (cX9_knownSharec (o := .error 0) h4x) (Nat.le_of_ble_eq_true rfl) rfl rfl mi_X9_knownShare lk_RL_100 ⟨Nat.le_of_ble_eq_true rfl, Nat.le_of_ble_eq_true rfl⟩ rfl rfl (Nat.le_of_ble_eq_true rfl) dL_knownShare_3 (Nat.le_trans (bm hka) hla) (Nat.le_trans (bm hkb) hlb) ?_
      refine g_iconst (v := 1) B dL_knownShare_12 (by decide) ?_
      obtain ⟨w1, w2, w3, w4⟩ := inA h
      clear h
      subst w1
      subst w2
      subst w3
      subst w4
      exact g_iretW B hE (Nat.le_trans (Nat.le_of_eq hka) hla) (Nat.le_trans (Nat.le_of_eq hkb) hlb) dL_knownShare_13
    replace h := ifn q0 h
    cases h
set_option maxRecDepth 100000 in
set_option maxHeartbeats 4000000 in
theorem cL_meanWordsc {l : Launch} {v0 : Option Nat} {v1 : Option Nat} {σ : HpT} {o : Except Nat (Int32)} {σ' : HpT} {a b : Nat} (h : fL_meanWords v0 v1 σ = some (o, σ', a, b)) : CtW l yL_meanWords cL_meanWords 3 (some .int) [(0, 7, 10, 20)] 8 131 [va_rf v0, va_rf v1] σ (oI o) σ' a b := by
  unfold fL_meanWords at h
  refine ctW_start miw_L_meanWords.1 rfl (al_le (al_1 (rf_cat _) (al_1 (rf_cat _) al_n)) (Nat.le_of_ble_eq_true rfl)) (ag_1 (rf_cat _) (ag_1 (rf_cat _) ag_n)) (fun Δ Γ B hE => ?_)
  have hka : 0 + a = a := Nat.zero_add a
  have hkb : 0 + b = b := Nat.zero_add b
  have hla : a ≤ a := Nat.le_refl a
  have hlb : b ≤ b := Nat.le_refl b
  refine g_aload_n B 1 dL_meanWords_0 rfl rfl ?_
  refine g_iconst (v := 0) B dL_meanWords_1 (by decide) ?_
  refine g_aload_n B 0 dL_meanWords_2 rfl rfl ?_
  replace h := bnC_s h
  rcases h with ⟨x1, s2, a5, b6, a7, b8, h4, h, ea, eb⟩ | ⟨n3, s2, a5, b6, a7, b8, h4, h, ea, eb⟩
  · subst ea; subst eb
    obtain ⟨h4x, e1, e2, e3⟩ := xA_s h4
    clear h4
    subst e1; subst e2; subst e3
    have hka := bk hka
    have hkb := bk hkb
    refine g_callVsA (st := [.int 0, va_rf v1]) B (cX9_meanWordsc (o := .ok x1) h4x) (Nat.le_of_ble_eq_true rfl) rfl rfl mi_X9_meanWords lk_RL_104 ⟨Nat.le_of_ble_eq_true rfl, Nat.le_of_ble_eq_true rfl⟩ rfl rfl (Nat.le_of_ble_eq_true rfl) dL_meanWords_3 (Nat.le_trans (bm hka) hla) (Nat.le_trans (bm hkb) hlb) ?_
    replace h := bnP_s h
    obtain ⟨s11, h10, h⟩ := h
    refine g_dast B dL_meanWords_6 h10 ?_
    refine g_goto B 13 dL_meanWords_7 (by decide) ?_
    refine g_iconst (v := 0) B dL_meanWords_13 (by decide) ?_
    obtain ⟨w1, w2, w3, w4⟩ := inA h
    clear h
    subst w1
    subst w2
    subst w3
    subst w4
    exact g_iretW B hE (Nat.le_trans (Nat.le_of_eq hka) hla) (Nat.le_trans (Nat.le_of_eq hkb) hlb) dL_meanWords_14
  · subst ea; subst eb
    obtain ⟨h4x, e1, e2, e3⟩ := xA_s h4
    clear h4
    subst e1; subst e2; subst e3
    have hka := bk hka
    have hkb := bk hkb
    by_cases q0 : n3 = 0
    · subst q0; replace h := ifp rfl h
      refine g_callVk (x := 0) (st := [.int 0, va_rf v1]) (xe := ⟨0, 7, 10, 20⟩) B hE ⟨[], [], rfl, ca_p0, rfl, by decide, clk_20, cst_0⟩ (st_n B dL_meanWords_10 rfl (Nat.le_of_ble_eq_true rfl)) (cX9_meanWordsc (o := .error 0) h4x) (Nat.le_of_ble_eq_true rfl) rfl rfl mi_X9_meanWords lk_RL_104 ⟨Nat.le_of_ble_eq_true rfl, Nat.le_of_ble_eq_true rfl⟩ rfl rfl (Nat.le_of_ble_eq_true rfl) dL_meanWords_3 (Nat.le_trans (bm hka) hla) (Nat.le_trans (bm hkb) hlb) ?_
      refine g_iconst (v := 1) B dL_meanWords_11 (by decide) ?_
      obtain ⟨w1, w2, w3, w4⟩ := inA h
      clear h
      subst w1
      subst w2
      subst w3
      subst w4
      exact g_iretW B hE (Nat.le_trans (Nat.le_of_eq hka) hla) (Nat.le_trans (Nat.le_of_eq hkb) hlb) dL_meanWords_12
    replace h := ifn q0 h
    cases h
set_option maxRecDepth 100000 in
set_option maxHeartbeats 4000000 in
theorem cL_writeActc {l : Launch} {v0 : Option Nat} {v1 : Int32} {v2 : Option Nat} {σ : HpT} {o : Except Nat (Int32)} {σ' : HpT} {a b : Nat} (h : fL_writeAct v0 v1 v2 σ = some (o, σ', a, b)) : CtW l yL_writeAct cL_writeAct 4 (some .int) [(0, 9, 12, 20), (0, 9, 15, 13)] 9 218 [va_rf v0, .int v1, va_rf v2] σ (oI o) σ' a b := by
  unfold fL_writeAct at h
  refine ctW_start miw_L_writeAct.1 rfl (al_le (al_1 (rf_cat _) (al_1 rfl (al_1 (rf_cat _) al_n))) (Nat.le_of_ble_eq_true rfl)) (ag_1 (rf_cat _) (ag_1 rfl (ag_1 (rf_cat _) ag_n))) (fun Δ Γ B hE => ?_)
  have hka : 0 + a = a := Nat.zero_add a
  have hkb : 0 + b = b := Nat.zero_add b
  have hla : a ≤ a := Nat.le_refl a
  have hlb : b ≤ b := Nat.le_refl b
  refine g_aload_n B 2 dL_writeAct_0 rfl rfl ?_
  refine g_iconst (v := 0) B dL_writeAct_1 (by decide) ?_
  refine g_aload_n B 0 dL_writeAct_2 rfl rfl ?_
  refine g_iload_n B 1 dL_writeAct_3 rfl rfl ?_
  replace h := bnC_s h
  rcases h with ⟨x1, s2, a5, b6, a7, b8, h4, h, ea, eb⟩ | ⟨n3, s2, a5, b6, a7, b8, h4, h, ea, eb⟩
  · subst ea; subst eb
    have hka := bk hka
    have hkb := bk hkb
    refine g_callVsA (st := [.int 0, va_rf v2]) B (cX9_writeActc (o := .ok x1) h4) (Nat.le_of_ble_eq_true rfl) rfl rfl mi_X9_writeAct lk_RL_108 ⟨Nat.le_of_ble_eq_true rfl, Nat.le_of_ble_eq_true rfl⟩ rfl rfl (Nat.le_of_ble_eq_true rfl) dL_writeAct_4 (Nat.le_trans (bm hka) hla) (Nat.le_trans (bm hkb) hlb) ?_
    refine g_i2l B dL_writeAct_7 ?_
    replace h := bnP_s h
    obtain ⟨s11, h10, h⟩ := h
    refine g_last B dL_writeAct_8 h10 ?_
    refine g_goto B 18 dL_writeAct_9 (by decide) ?_
    refine g_iconst (v := 0) B dL_writeAct_18 (by decide) ?_
    obtain ⟨w1, w2, w3, w4⟩ := inA h
    clear h
    subst w1
    subst w2
    subst w3
    subst w4
    exact g_iretW B hE (Nat.le_trans (Nat.le_of_eq hka) hla) (Nat.le_trans (Nat.le_of_eq hkb) hlb) dL_writeAct_19
  · subst ea; subst eb
    have hka := bk hka
    have hkb := bk hkb
    by_cases q0 : n3 = 0
    · subst q0; replace h := ifp rfl h
      refine g_callVk (x := 0) (st := [.int 0, va_rf v2]) (xe := ⟨0, 9, 12, 20⟩) B hE ⟨[], [⟨0, 9, 15, 13⟩], rfl, ca_p0, rfl, by decide, clk_20, cst_0⟩ (st_n B dL_writeAct_12 rfl (Nat.le_of_ble_eq_true rfl)) (cX9_writeActc (o := .error 0) h4) (Nat.le_of_ble_eq_true rfl) rfl rfl mi_X9_writeAct lk_RL_108 ⟨Nat.le_of_ble_eq_true rfl, Nat.le_of_ble_eq_true rfl⟩ rfl rfl (Nat.le_of_ble_eq_true rfl) dL_writeAct_4 (Nat.le_trans (bm hka) hla) (Nat.le_trans (bm hkb) hlb) ?_
      refine g_iconst (v := 1) B dL_writeAct_13 (by decide) ?_
      obtain ⟨w1, w2, w3, w4⟩ := inA h
      clear h
      subst w1
      subst w2
      subst w3
      subst w4
      exact g_iretW B hE (Nat.le_trans (Nat.le_of_eq hka) hla) (Nat.le_trans (Nat.le_of_eq hkb) hlb) dL_writeAct_14
    replace h := ifn q0 h
    by_cases q1 : n3 = 1
    · subst q1; replace h := ifp rfl h
      refine g_callVk (x := 1) (st := [.int 0, va_rf v2]) (xe := ⟨0, 9, 15, 13⟩) B hE ⟨[⟨0, 9, 12, 20⟩], [], rfl, (ca_p1 (Or.inr ⟨by decide, _, clk_20, hE.2.2.2.1⟩) ca_p0), rfl, by decide, clk_13, cst_1⟩ (st_n B dL_writeAct_15 rfl (Nat.le_of_ble_eq_true rfl)) (cX9_writeActc (o := .error 1) h4) (Nat.le_of_ble_eq_true rfl) rfl rfl mi_X9_writeAct lk_RL_108 ⟨Nat.le_of_ble_eq_true rfl, Nat.le_of_ble_eq_true rfl⟩ rfl rfl (Nat.le_of_ble_eq_true rfl) dL_writeAct_4 (Nat.le_trans (bm hka) hla) (Nat.le_trans (bm hkb) hlb) ?_
      refine g_iconst (v := 2) B dL_writeAct_16 (by decide) ?_
      obtain ⟨w1, w2, w3, w4⟩ := inA h
      clear h
      subst w1
      subst w2
      subst w3
      subst w4
      exact g_iretW B hE (Nat.le_trans (Nat.le_of_eq hka) hla) (Nat.le_trans (Nat.le_of_eq hkb) hlb) dL_writeAct_17
    replace h := ifn q1 h
    cases h
set_option maxRecDepth 100000 in
set_option maxHeartbeats 4000000 in
theorem cL_writeStandingc {l : Launch} {v0 : Option Nat} {v1 : Int32} {v2 : Option Nat} {σ : HpT} {o : Except Nat (Int32)} {σ' : HpT} {a b : Nat} (h : fL_writeStanding v0 v1 v2 σ = some (o, σ', a, b)) : CtW l yL_writeStanding cL_writeStanding 4 (some .int) [(0, 9, 12, 20), (0, 9, 15, 13)] 10 238 [va_rf v0, .int v1, va_rf v2] σ (oI o) σ' a b := by
  unfold fL_writeStanding at h
  refine ctW_start miw_L_writeStanding.1 rfl (al_le (al_1 (rf_cat _) (al_1 rfl (al_1 (rf_cat _) al_n))) (Nat.le_of_ble_eq_true rfl)) (ag_1 (rf_cat _) (ag_1 rfl (ag_1 (rf_cat _) ag_n))) (fun Δ Γ B hE => ?_)
  have hka : 0 + a = a := Nat.zero_add a
  have hkb : 0 + b = b := Nat.zero_add b
  have hla : a ≤ a := Nat.le_refl a
  have hlb : b ≤ b := Nat.le_refl b
  refine g_aload_n B 2 dL_writeStanding_0 rfl rfl ?_
  refine g_iconst (v := 0) B dL_writeStanding_1 (by decide) ?_
  refine g_aload_n B 0 dL_writeStanding_2 rfl rfl ?_
  refine g_iload_n B 1 dL_writeStanding_3 rfl rfl ?_
  replace h := bnC_s h
  rcases h with ⟨x1, s2, a5, b6, a7, b8, h4, h, ea, eb⟩ | ⟨n3, s2, a5, b6, a7, b8, h4, h, ea, eb⟩
  · subst ea; subst eb
    have hka := bk hka
    have hkb := bk hkb
    refine g_callVsA (st := [.int 0, va_rf v2]) B (cX9_writeStandingc (o := .ok x1) h4) (Nat.le_of_ble_eq_true rfl) rfl rfl mi_X9_writeStanding lk_RL_111 ⟨Nat.le_of_ble_eq_true rfl, Nat.le_of_ble_eq_true rfl⟩ rfl rfl (Nat.le_of_ble_eq_true rfl) dL_writeStanding_4 (Nat.le_trans (bm hka) hla) (Nat.le_trans (bm hkb) hlb) ?_
    refine g_i2l B dL_writeStanding_7 ?_
    replace h := bnP_s h
    obtain ⟨s11, h10, h⟩ := h
    refine g_last B dL_writeStanding_8 h10 ?_
    refine g_goto B 18 dL_writeStanding_9 (by decide) ?_
    refine g_iconst (v := 0) B dL_writeStanding_18 (by decide) ?_
    obtain ⟨w1, w2, w3, w4⟩ := inA h
    clear h
    subst w1
    subst w2
    subst w3
    subst w4
    exact g_iretW B hE (Nat.le_trans (Nat.le_of_eq hka) hla) (Nat.le_trans (Nat.le_of_eq hkb) hlb) dL_writeStanding_19
  · subst ea; subst eb
    have hka := bk hka
    have hkb := bk hkb
    by_cases q0 : n3 = 0
    · subst q0; replace h := ifp rfl h
      refine g_callVk (x := 0) (st := [.int 0, va_rf v2]) (xe := ⟨0, 9, 12, 20⟩) B hE ⟨[], [⟨0, 9, 15, 13⟩], rfl, ca_p0, rfl, by decide, clk_20, cst_0⟩ (st_n B dL_writeStanding_12 rfl (Nat.le_of_ble_eq_true rfl)) (cX9_writeStandingc (o := .error 0) h4) (Nat.le_of_ble_eq_true rfl) rfl rfl mi_X9_writeStanding lk_RL_111 ⟨Nat.le_of_ble_eq_true rfl, Nat.le_of_ble_eq_true rfl⟩ rfl rfl (Nat.le_of_ble_eq_true rfl) dL_writeStanding_4 (Nat.le_trans (bm hka) hla) (Nat.le_trans (bm hkb) hlb) ?_
      refine g_iconst (v := 1) B dL_writeStanding_13 (by decide) ?_
      obtain ⟨w1, w2, w3, w4⟩ := inA h
      clear h
      subst w1
      subst w2
      subst w3
      subst w4
      exact g_iretW B hE (Nat.le_trans (Nat.le_of_eq hka) hla) (Nat.le_trans (Nat.le_of_eq hkb) hlb) dL_writeStanding_14
    replace h := ifn q0 h
    by_cases q1 : n3 = 1
    · subst q1; replace h := ifp rfl h
      refine g_callVk (x := 1) (st := [.int 0, va_rf v2]) (xe := ⟨0, 9, 15, 13⟩) B hE ⟨[⟨0, 9, 12, 20⟩], [], rfl, (ca_p1 (Or.inr ⟨by decide, _, clk_20, hE.2.2.2.1⟩) ca_p0), rfl, by decide, clk_13, cst_1⟩ (st_n B dL_writeStanding_15 rfl (Nat.le_of_ble_eq_true rfl)) (cX9_writeStandingc (o := .error 1) h4) (Nat.le_of_ble_eq_true rfl) rfl rfl mi_X9_writeStanding lk_RL_111 ⟨Nat.le_of_ble_eq_true rfl, Nat.le_of_ble_eq_true rfl⟩ rfl rfl (Nat.le_of_ble_eq_true rfl) dL_writeStanding_4 (Nat.le_trans (bm hka) hla) (Nat.le_trans (bm hkb) hlb) ?_
      refine g_iconst (v := 2) B dL_writeStanding_16 (by decide) ?_
      obtain ⟨w1, w2, w3, w4⟩ := inA h
      clear h
      subst w1
      subst w2
      subst w3
      subst w4
      exact g_iretW B hE (Nat.le_trans (Nat.le_of_eq hka) hla) (Nat.le_trans (Nat.le_of_eq hkb) hlb) dL_writeStanding_17
    replace h := ifn q1 h
    cases h
set_option maxRecDepth 100000 in
set_option maxHeartbeats 4000000 in
theorem cL_writeLeafc {l : Launch} {v0 : Option Nat} {v1 : Int32} {v2 : Option Nat} {σ : HpT} {o : Except Nat (Int32)} {σ' : HpT} {a b : Nat} (h : fL_writeLeaf v0 v1 v2 σ = some (o, σ', a, b)) : CtW l yL_writeLeaf cL_writeLeaf 4 (some .int) [(0, 9, 12, 20), (0, 9, 15, 13)] 9 217 [va_rf v0, .int v1, va_rf v2] σ (oI o) σ' a b := by
  unfold fL_writeLeaf at h
  refine ctW_start miw_L_writeLeaf.1 rfl (al_le (al_1 (rf_cat _) (al_1 rfl (al_1 (rf_cat _) al_n))) (Nat.le_of_ble_eq_true rfl)) (ag_1 (rf_cat _) (ag_1 rfl (ag_1 (rf_cat _) ag_n))) (fun Δ Γ B hE => ?_)
  have hka : 0 + a = a := Nat.zero_add a
  have hkb : 0 + b = b := Nat.zero_add b
  have hla : a ≤ a := Nat.le_refl a
  have hlb : b ≤ b := Nat.le_refl b
  refine g_aload_n B 2 dL_writeLeaf_0 rfl rfl ?_
  refine g_iconst (v := 0) B dL_writeLeaf_1 (by decide) ?_
  refine g_aload_n B 0 dL_writeLeaf_2 rfl rfl ?_
  refine g_iload_n B 1 dL_writeLeaf_3 rfl rfl ?_
  replace h := bnC_s h
  rcases h with ⟨x1, s2, a5, b6, a7, b8, h4, h, ea, eb⟩ | ⟨n3, s2, a5, b6, a7, b8, h4, h, ea, eb⟩
  · subst ea; subst eb
    have hka := bk hka
    have hkb := bk hkb
    refine g_callVsA (st := [.int 0, va_rf v2]) B (cX9_writeLeafc (o := .ok x1) h4) (Nat.le_of_ble_eq_true rfl) rfl rfl mi_X9_writeLeaf lk_RL_114 ⟨Nat.le_of_ble_eq_true rfl, Nat.le_of_ble_eq_true rfl⟩ rfl rfl (Nat.le_of_ble_eq_true rfl) dL_writeLeaf_4 (Nat.le_trans (bm hka) hla) (Nat.le_trans (bm hkb) hlb) ?_
    refine g_i2l B dL_writeLeaf_7 ?_
    replace h := bnP_s h
    obtain ⟨s11, h10, h⟩ := h
    refine g_last B dL_writeLeaf_8 h10 ?_
    refine g_goto B 18 dL_writeLeaf_9 (by decide) ?_
    refine g_iconst (v := 0) B dL_writeLeaf_18 (by decide) ?_
    obtain ⟨w1, w2, w3, w4⟩ := inA h
    clear h
    subst w1
    subst w2
    subst w3
    subst w4
    exact g_iretW B hE (Nat.le_trans (Nat.le_of_eq hka) hla) (Nat.le_trans (Nat.le_of_eq hkb) hlb) dL_writeLeaf_19
  · subst ea; subst eb
    have hka := bk hka
    have hkb := bk hkb
    by_cases q0 : n3 = 0
    · subst q0; replace h := ifp rfl h
      refine g_callVk (x := 0) (st := [.int 0, va_rf v2]) (xe := ⟨0, 9, 12, 20⟩) B hE ⟨[], [⟨0, 9, 15, 13⟩], rfl, ca_p0, rfl, by decide, clk_20, cst_0⟩ (st_n B dL_writeLeaf_12 rfl (Nat.le_of_ble_eq_true rfl)) (cX9_writeLeafc (o := .error 0) h4) (Nat.le_of_ble_eq_true rfl) rfl rfl mi_X9_writeLeaf lk_RL_114 ⟨Nat.le_of_ble_eq_true rfl, Nat.le_of_ble_eq_true rfl⟩ rfl rfl (Nat.le_of_ble_eq_true rfl) dL_writeLeaf_4 (Nat.le_trans (bm hka) hla) (Nat.le_trans (bm hkb) hlb) ?_
      refine g_iconst (v := 1) B dL_writeLeaf_13 (by decide) ?_
      obtain ⟨w1, w2, w3, w4⟩ := inA h
      clear h
      subst w1
      subst w2
      subst w3
      subst w4
      exact g_iretW B hE (Nat.le_trans (Nat.le_of_eq hka) hla) (Nat.le_trans (Nat.le_of_eq hkb) hlb) dL_writeLeaf_14
    replace h := ifn q0 h
    by_cases q1 : n3 = 1
    · subst q1; replace h := ifp rfl h
      refine g_callVk (x := 1) (st := [.int 0, va_rf v2]) (xe := ⟨0, 9, 15, 13⟩) B hE ⟨[⟨0, 9, 12, 20⟩], [], rfl, (ca_p1 (Or.inr ⟨by decide, _, clk_20, hE.2.2.2.1⟩) ca_p0), rfl, by decide, clk_13, cst_1⟩ (st_n B dL_writeLeaf_15 rfl (Nat.le_of_ble_eq_true rfl)) (cX9_writeLeafc (o := .error 1) h4) (Nat.le_of_ble_eq_true rfl) rfl rfl mi_X9_writeLeaf lk_RL_114 ⟨Nat.le_of_ble_eq_true rfl, Nat.le_of_ble_eq_true rfl⟩ rfl rfl (Nat.le_of_ble_eq_true rfl) dL_writeLeaf_4 (Nat.le_trans (bm hka) hla) (Nat.le_trans (bm hkb) hlb) ?_
      refine g_iconst (v := 2) B dL_writeLeaf_16 (by decide) ?_
      obtain ⟨w1, w2, w3, w4⟩ := inA h
      clear h
      subst w1
      subst w2
      subst w3
      subst w4
      exact g_iretW B hE (Nat.le_trans (Nat.le_of_eq hka) hla) (Nat.le_trans (Nat.le_of_eq hkb) hlb) dL_writeLeaf_17
    replace h := ifn q1 h
    cases h
set_option maxRecDepth 100000 in
set_option maxHeartbeats 4000000 in
theorem cL_writeCopyc {l : Launch} {v0 : Option Nat} {v1 : Int32} {v2 : Option Nat} {σ : HpT} {o : Except Nat (Int32)} {σ' : HpT} {a b : Nat} (h : fL_writeCopy v0 v1 v2 σ = some (o, σ', a, b)) : CtW l yL_writeCopy cL_writeCopy 4 (some .int) [(0, 9, 12, 20), (0, 9, 15, 13)] 10 238 [va_rf v0, .int v1, va_rf v2] σ (oI o) σ' a b := by
  unfold fL_writeCopy at h
  refine ctW_start miw_L_writeCopy.1 rfl (al_le (al_1 (rf_cat _) (al_1 rfl (al_1 (rf_cat _) al_n))) (Nat.le_of_ble_eq_true rfl)) (ag_1 (rf_cat _) (ag_1 rfl (ag_1 (rf_cat _) ag_n))) (fun Δ Γ B hE => ?_)
  have hka : 0 + a = a := Nat.zero_add a
  have hkb : 0 + b = b := Nat.zero_add b
  have hla : a ≤ a := Nat.le_refl a
  have hlb : b ≤ b := Nat.le_refl b
  refine g_aload_n B 2 dL_writeCopy_0 rfl rfl ?_
  refine g_iconst (v := 0) B dL_writeCopy_1 (by decide) ?_
  refine g_aload_n B 0 dL_writeCopy_2 rfl rfl ?_
  refine g_iload_n B 1 dL_writeCopy_3 rfl rfl ?_
  replace h := bnC_s h
  rcases h with ⟨x1, s2, a5, b6, a7, b8, h4, h, ea, eb⟩ | ⟨n3, s2, a5, b6, a7, b8, h4, h, ea, eb⟩
  · subst ea; subst eb
    have hka := bk hka
    have hkb := bk hkb
    refine g_callVsA (st := [.int 0, va_rf v2]) B (cX9_writeCopyc (o := .ok x1) h4) (Nat.le_of_ble_eq_true rfl) rfl rfl mi_X9_writeCopy lk_RL_117 ⟨Nat.le_of_ble_eq_true rfl, Nat.le_of_ble_eq_true rfl⟩ rfl rfl (Nat.le_of_ble_eq_true rfl) dL_writeCopy_4 (Nat.le_trans (bm hka) hla) (Nat.le_trans (bm hkb) hlb) ?_
    refine g_i2l B dL_writeCopy_7 ?_
    replace h := bnP_s h
    obtain ⟨s11, h10, h⟩ := h
    refine g_last B dL_writeCopy_8 h10 ?_
    refine g_goto B 18 dL_writeCopy_9 (by decide) ?_
    refine g_iconst (v := 0) B dL_writeCopy_18 (by decide) ?_
    obtain ⟨w1, w2, w3, w4⟩ := inA h
    clear h
    subst w1
    subst w2
    subst w3
    subst w4
    exact g_iretW B hE (Nat.le_trans (Nat.le_of_eq hka) hla) (Nat.le_trans (Nat.le_of_eq hkb) hlb) dL_writeCopy_19
  · subst ea; subst eb
    have hka := bk hka
    have hkb := bk hkb
    by_cases q0 : n3 = 0
    · subst q0; replace h := ifp rfl h
      refine g_callVk (x := 0) (st := [.int 0, va_rf v2]) (xe := ⟨0, 9, 12, 20⟩) B hE ⟨[], [⟨0, 9, 15, 13⟩], rfl, ca_p0, rfl, by decide, clk_20, cst_0⟩ (st_n B dL_writeCopy_12 rfl (Nat.le_of_ble_eq_true rfl)) (cX9_writeCopyc (o := .error 0) h4) (Nat.le_of_ble_eq_true rfl) rfl rfl mi_X9_writeCopy lk_RL_117 ⟨Nat.le_of_ble_eq_true rfl, Nat.le_of_ble_eq_true rfl⟩ rfl rfl (Nat.le_of_ble_eq_true rfl) dL_writeCopy_4 (Nat.le_trans (bm hka) hla) (Nat.le_trans (bm hkb) hlb) ?_
      refine g_iconst (v := 1) B dL_writeCopy_13 (by decide) ?_
      obtain ⟨w1, w2, w3, w4⟩ := inA h
      clear h
      subst w1
      subst w2
      subst w3
      subst w4
      exact g_iretW B hE (Nat.le_trans (Nat.le_of_eq hka) hla) (Nat.le_trans (Nat.le_of_eq hkb) hlb) dL_writeCopy_14
    replace h := ifn q0 h
    by_cases q1 : n3 = 1
    · subst q1; replace h := ifp rfl h
      refine g_callVk (x := 1) (st := [.int 0, va_rf v2]) (xe := ⟨0, 9, 15, 13⟩) B hE ⟨[⟨0, 9, 12, 20⟩], [], rfl, (ca_p1 (Or.inr ⟨by decide, _, clk_20, hE.2.2.2.1⟩) ca_p0), rfl, by decide, clk_13, cst_1⟩ (st_n B dL_writeCopy_15 rfl (Nat.le_of_ble_eq_true rfl)) (cX9_writeCopyc (o := .error 1) h4) (Nat.le_of_ble_eq_true rfl) rfl rfl mi_X9_writeCopy lk_RL_117 ⟨Nat.le_of_ble_eq_true rfl, Nat.le_of_ble_eq_true rfl⟩ rfl rfl (Nat.le_of_ble_eq_true rfl) dL_writeCopy_4 (Nat.le_trans (bm hka) hla) (Nat.le_trans (bm hkb) hlb) ?_
      refine g_iconst (v := 2) B dL_writeCopy_16 (by decide) ?_
      obtain ⟨w1, w2, w3, w4⟩ := inA h
      clear h
      subst w1
      subst w2
      subst w3
      subst w4
      exact g_iretW B hE (Nat.le_trans (Nat.le_of_eq hka) hla) (Nat.le_trans (Nat.le_of_eq hkb) hlb) dL_writeCopy_17
    replace h := ifn q1 h
    cases h
set_option maxRecDepth 100000 in
set_option maxHeartbeats 4000000 in
theorem cL_textBytec {l : Launch} {v0 : Option Nat} {v1 : Int32} {v2 : Option Nat} {σ : HpT} {o : Except Nat (Int32)} {σ' : HpT} {a b : Nat} (h : fL_textByte v0 v1 v2 σ = some (o, σ', a, b)) : CtW l yL_textByte cL_textByte 4 (some .int) [(0, 9, 12, 13)] 7 111 [va_rf v0, .int v1, va_rf v2] σ (oI o) σ' a b := by
  unfold fL_textByte at h
  refine ctW_start miw_L_textByte.1 rfl (al_le (al_1 (rf_cat _) (al_1 rfl (al_1 (rf_cat _) al_n))) (Nat.le_of_ble_eq_true rfl)) (ag_1 (rf_cat _) (ag_1 rfl (ag_1 (rf_cat _) ag_n))) (fun Δ Γ B hE => ?_)
  have hka : 0 + a = a := Nat.zero_add a
  have hkb : 0 + b = b := Nat.zero_add b
  have hla : a ≤ a := Nat.le_refl a
  have hlb : b ≤ b := Nat.le_refl b
  refine g_aload_n B 2 dL_textByte_0 rfl rfl ?_
  refine g_iconst (v := 0) B dL_textByte_1 (by decide) ?_
  refine g_aload_n B 0 dL_textByte_2 rfl rfl ?_
  refine g_iload_n B 1 dL_textByte_3 rfl rfl ?_
  replace h := bnC_s h
  rcases h with ⟨x1, s2, a5, b6, a7, b8, h4, h, ea, eb⟩ | ⟨n3, s2, a5, b6, a7, b8, h4, h, ea, eb⟩
  · subst ea; subst eb
    obtain ⟨h4x, e1, e2, e3⟩ := xA_s h4
    clear h4
    subst e1; subst e2; subst e3
    have hka := bk hka
    have hkb := bk hkb
    refine g_callVsA (st := [.int 0, va_rf v2]) B (cX9_textBytec (o := .ok x1) h4x) (Nat.le_of_ble_eq_true rfl) rfl rfl mi_X9_textByte lk_RL_120 ⟨Nat.le_of_ble_eq_true rfl, Nat.le_of_ble_eq_true rfl⟩ rfl rfl (Nat.le_of_ble_eq_true rfl) dL_textByte_4 (Nat.le_trans (bm hka) hla) (Nat.le_trans (bm hkb) hlb) ?_
    refine g_i2l B dL_textByte_7 ?_
    replace h := bnP_s h
    obtain ⟨s11, h10, h⟩ := h
    refine g_last B dL_textByte_8 h10 ?_
    refine g_goto B 15 dL_textByte_9 (by decide) ?_
    refine g_iconst (v := 0) B dL_textByte_15 (by decide) ?_
    obtain ⟨w1, w2, w3, w4⟩ := inA h
    clear h
    subst w1
    subst w2
    subst w3
    subst w4
    exact g_iretW B hE (Nat.le_trans (Nat.le_of_eq hka) hla) (Nat.le_trans (Nat.le_of_eq hkb) hlb) dL_textByte_16
  · subst ea; subst eb
    obtain ⟨h4x, e1, e2, e3⟩ := xA_s h4
    clear h4
    subst e1; subst e2; subst e3
    have hka := bk hka
    have hkb := bk hkb
    by_cases q1 : n3 = 1
    · subst q1; replace h := ifp rfl h
      refine g_callVk (x := 1) (st := [.int 0, va_rf v2]) (xe := ⟨0, 9, 12, 13⟩) B hE ⟨[], [], rfl, ca_p0, rfl, by decide, clk_13, cst_1⟩ (st_n B dL_textByte_12 rfl (Nat.le_of_ble_eq_true rfl)) (cX9_textBytec (o := .error 1) h4x) (Nat.le_of_ble_eq_true rfl) rfl rfl mi_X9_textByte lk_RL_120 ⟨Nat.le_of_ble_eq_true rfl, Nat.le_of_ble_eq_true rfl⟩ rfl rfl (Nat.le_of_ble_eq_true rfl) dL_textByte_4 (Nat.le_trans (bm hka) hla) (Nat.le_trans (bm hkb) hlb) ?_
      refine g_iconst (v := 1) B dL_textByte_13 (by decide) ?_
      obtain ⟨w1, w2, w3, w4⟩ := inA h
      clear h
      subst w1
      subst w2
      subst w3
      subst w4
      exact g_iretW B hE (Nat.le_trans (Nat.le_of_eq hka) hla) (Nat.le_trans (Nat.le_of_eq hkb) hlb) dL_textByte_14
    replace h := ifn q1 h
    cases h
set_option maxRecDepth 100000 in
set_option maxHeartbeats 4000000 in
theorem cL_beginc {l : Launch} {v0 : Option Nat} {v1 : Int32} {v2 : Int32} {v3 : Option Nat} {σ : HpT} {o : Except Nat (Int32)} {σ' : HpT} {a b : Nat} (h : fL_begin v0 v1 v2 v3 σ = some (o, σ', a, b)) : CtW l yL_begin cL_begin 5 (some .int) [(0, 10, 13, 20), (0, 10, 17, 13), (0, 10, 21, 15)] 8 146 [va_rf v0, .int v1, .int v2, va_rf v3] σ (oI o) σ' a b := by
  unfold fL_begin at h
  refine ctW_start miw_L_begin.1 rfl (al_le (al_1 (rf_cat _) (al_1 rfl (al_1 rfl (al_1 (rf_cat _) al_n)))) (Nat.le_of_ble_eq_true rfl)) (ag_1 (rf_cat _) (ag_1 rfl (ag_1 rfl (ag_1 (rf_cat _) ag_n)))) (fun Δ Γ B hE => ?_)
  have hka : 0 + a = a := Nat.zero_add a
  have hkb : 0 + b = b := Nat.zero_add b
  have hla : a ≤ a := Nat.le_refl a
  have hlb : b ≤ b := Nat.le_refl b
  refine g_aload_n B 3 dL_begin_0 rfl rfl ?_
  refine g_iconst (v := 0) B dL_begin_1 (by decide) ?_
  refine g_aload_n B 0 dL_begin_2 rfl rfl ?_
  refine g_iload_n B 1 dL_begin_3 rfl rfl ?_
  refine g_iload_n B 2 dL_begin_4 rfl rfl ?_
  replace h := bnC_s h
  rcases h with ⟨x1, s2, a5, b6, a7, b8, h4, h, ea, eb⟩ | ⟨n3, s2, a5, b6, a7, b8, h4, h, ea, eb⟩
  · subst ea; subst eb
    have hka := bk hka
    have hkb := bk hkb
    refine g_callVsA (st := [.int 0, va_rf v3]) B (cX9_beginc (o := .ok x1) h4) (Nat.le_of_ble_eq_true rfl) rfl rfl mi_X9_begin lk_RL_123 ⟨Nat.le_of_ble_eq_true rfl, Nat.le_of_ble_eq_true rfl⟩ rfl rfl (Nat.le_of_ble_eq_true rfl) dL_begin_5 (Nat.le_trans (bm hka) hla) (Nat.le_trans (bm hkb) hlb) ?_
    refine g_i2l B dL_begin_8 ?_
    replace h := bnP_s h
    obtain ⟨s11, h10, h⟩ := h
    refine g_last B dL_begin_9 h10 ?_
    refine g_goto B 25 dL_begin_10 (by decide) ?_
    refine g_iconst (v := 0) B dL_begin_25 (by decide) ?_
    obtain ⟨w1, w2, w3, w4⟩ := inA h
    clear h
    subst w1
    subst w2
    subst w3
    subst w4
    exact g_iretW B hE (Nat.le_trans (Nat.le_of_eq hka) hla) (Nat.le_trans (Nat.le_of_eq hkb) hlb) dL_begin_26
  · subst ea; subst eb
    have hka := bk hka
    have hkb := bk hkb
    by_cases q0 : n3 = 0
    · subst q0; replace h := ifp rfl h
      refine g_callVk (x := 0) (st := [.int 0, va_rf v3]) (xe := ⟨0, 10, 13, 20⟩) B hE ⟨[], [⟨0, 10, 17, 13⟩, ⟨0, 10, 21, 15⟩], rfl, ca_p0, rfl, by decide, clk_20, cst_0⟩ (st_1 B dL_begin_13 (Nat.le_of_ble_eq_true rfl)) (cX9_beginc (o := .error 0) h4) (Nat.le_of_ble_eq_true rfl) rfl rfl mi_X9_begin lk_RL_123 ⟨Nat.le_of_ble_eq_true rfl, Nat.le_of_ble_eq_true rfl⟩ rfl rfl (Nat.le_of_ble_eq_true rfl) dL_begin_5 (Nat.le_trans (bm hka) hla) (Nat.le_trans (bm hkb) hlb) ?_
      refine g_iconst (v := 1) B dL_begin_15 (by decide) ?_
      obtain ⟨w1, w2, w3, w4⟩ := inA h
      clear h
      subst w1
      subst w2
      subst w3
      subst w4
      exact g_iretW B hE (Nat.le_trans (Nat.le_of_eq hka) hla) (Nat.le_trans (Nat.le_of_eq hkb) hlb) dL_begin_16
    replace h := ifn q0 h
    by_cases q1 : n3 = 1
    · subst q1; replace h := ifp rfl h
      refine g_callVk (x := 1) (st := [.int 0, va_rf v3]) (xe := ⟨0, 10, 17, 13⟩) B hE ⟨[⟨0, 10, 13, 20⟩], [⟨0, 10, 21, 15⟩], rfl, (ca_p1 (Or.inr ⟨by decide, _, clk_20, hE.2.2.2.1⟩) ca_p0), rfl, by decide, clk_13, cst_1⟩ (st_1 B dL_begin_17 (Nat.le_of_ble_eq_true rfl)) (cX9_beginc (o := .error 1) h4) (Nat.le_of_ble_eq_true rfl) rfl rfl mi_X9_begin lk_RL_123 ⟨Nat.le_of_ble_eq_true rfl, Nat.le_of_ble_eq_true rfl⟩ rfl rfl (Nat.le_of_ble_eq_true rfl) dL_begin_5 (Nat.le_trans (bm hka) hla) (Nat.le_trans (bm hkb) hlb) ?_
      refine g_iconst (v := 2) B dL_begin_19 (by decide) ?_
      obtain ⟨w1, w2, w3, w4⟩ := inA h
      clear h
      subst w1
      subst w2
      subst w3
      subst w4
      exact g_iretW B hE (Nat.le_trans (Nat.le_of_eq hka) hla) (Nat.le_trans (Nat.le_of_eq hkb) hlb) dL_begin_20
    replace h := ifn q1 h
    by_cases q2 : n3 = 2
    · subst q2; replace h := ifp rfl h
      refine g_callVk (x := 2) (st := [.int 0, va_rf v3]) (xe := ⟨0, 10, 21, 15⟩) B hE ⟨[⟨0, 10, 13, 20⟩, ⟨0, 10, 17, 13⟩], [], rfl, (ca_p1 (Or.inr ⟨by decide, _, clk_20, hE.2.2.2.2.1⟩) (ca_p1 (Or.inr ⟨by decide, _, clk_13, hE.2.2.2.2.2.1⟩) ca_p0)), rfl, by decide, clk_15, cst_2⟩ (st_1 B dL_begin_21 (Nat.le_of_ble_eq_true rfl)) (cX9_beginc (o := .error 2) h4) (Nat.le_of_ble_eq_true rfl) rfl rfl mi_X9_begin lk_RL_123 ⟨Nat.le_of_ble_eq_true rfl, Nat.le_of_ble_eq_true rfl⟩ rfl rfl (Nat.le_of_ble_eq_true rfl) dL_begin_5 (Nat.le_trans (bm hka) hla) (Nat.le_trans (bm hkb) hlb) ?_
      refine g_iconst (v := 3) B dL_begin_23 (by decide) ?_
      obtain ⟨w1, w2, w3, w4⟩ := inA h
      clear h
      subst w1
      subst w2
      subst w3
      subst w4
      exact g_iretW B hE (Nat.le_trans (Nat.le_of_eq hka) hla) (Nat.le_trans (Nat.le_of_eq hkb) hlb) dL_begin_24
    replace h := ifn q2 h
    cases h
set_option maxRecDepth 100000 in
set_option maxHeartbeats 4000000 in
theorem cL_strikec {l : Launch} {v0 : Option Nat} {v1 : Int32} {v2 : Option Nat} {σ : HpT} {o : Except Nat (Int32)} {σ' : HpT} {a b : Nat} (h : fL_strike v0 v1 v2 σ = some (o, σ', a, b)) : CtW l yL_strike cL_strike 4 (some .int) [(0, 9, 12, 20), (0, 9, 15, 15)] 8 145 [va_rf v0, .int v1, va_rf v2] σ (oI o) σ' a b := by
  unfold fL_strike at h
  refine ctW_start miw_L_strike.1 rfl (al_le (al_1 (rf_cat _) (al_1 rfl (al_1 (rf_cat _) al_n))) (Nat.le_of_ble_eq_true rfl)) (ag_1 (rf_cat _) (ag_1 rfl (ag_1 (rf_cat _) ag_n))) (fun Δ Γ B hE => ?_)
  have hka : 0 + a = a := Nat.zero_add a
  have hkb : 0 + b = b := Nat.zero_add b
  have hla : a ≤ a := Nat.le_refl a
  have hlb : b ≤ b := Nat.le_refl b
  refine g_aload_n B 2 dL_strike_0 rfl rfl ?_
  refine g_iconst (v := 0) B dL_strike_1 (by decide) ?_
  refine g_aload_n B 0 dL_strike_2 rfl rfl ?_
  refine g_iload_n B 1 dL_strike_3 rfl rfl ?_
  replace h := bnC_s h
  rcases h with ⟨x1, s2, a5, b6, a7, b8, h4, h, ea, eb⟩ | ⟨n3, s2, a5, b6, a7, b8, h4, h, ea, eb⟩
  · subst ea; subst eb
    have hka := bk hka
    have hkb := bk hkb
    refine g_callVsA (st := [.int 0, va_rf v2]) B (cX9_strikec (o := .ok x1) h4) (Nat.le_of_ble_eq_true rfl) rfl rfl mi_X9_strike lk_RL_126 ⟨Nat.le_of_ble_eq_true rfl, Nat.le_of_ble_eq_true rfl⟩ rfl rfl (Nat.le_of_ble_eq_true rfl) dL_strike_4 (Nat.le_trans (bm hka) hla) (Nat.le_trans (bm hkb) hlb) ?_
    refine g_i2l B dL_strike_7 ?_
    replace h := bnP_s h
    obtain ⟨s11, h10, h⟩ := h
    refine g_last B dL_strike_8 h10 ?_
    refine g_goto B 18 dL_strike_9 (by decide) ?_
    refine g_iconst (v := 0) B dL_strike_18 (by decide) ?_
    obtain ⟨w1, w2, w3, w4⟩ := inA h
    clear h
    subst w1
    subst w2
    subst w3
    subst w4
    exact g_iretW B hE (Nat.le_trans (Nat.le_of_eq hka) hla) (Nat.le_trans (Nat.le_of_eq hkb) hlb) dL_strike_19
  · subst ea; subst eb
    have hka := bk hka
    have hkb := bk hkb
    by_cases q0 : n3 = 0
    · subst q0; replace h := ifp rfl h
      refine g_callVk (x := 0) (st := [.int 0, va_rf v2]) (xe := ⟨0, 9, 12, 20⟩) B hE ⟨[], [⟨0, 9, 15, 15⟩], rfl, ca_p0, rfl, by decide, clk_20, cst_0⟩ (st_n B dL_strike_12 rfl (Nat.le_of_ble_eq_true rfl)) (cX9_strikec (o := .error 0) h4) (Nat.le_of_ble_eq_true rfl) rfl rfl mi_X9_strike lk_RL_126 ⟨Nat.le_of_ble_eq_true rfl, Nat.le_of_ble_eq_true rfl⟩ rfl rfl (Nat.le_of_ble_eq_true rfl) dL_strike_4 (Nat.le_trans (bm hka) hla) (Nat.le_trans (bm hkb) hlb) ?_
      refine g_iconst (v := 1) B dL_strike_13 (by decide) ?_
      obtain ⟨w1, w2, w3, w4⟩ := inA h
      clear h
      subst w1
      subst w2
      subst w3
      subst w4
      exact g_iretW B hE (Nat.le_trans (Nat.le_of_eq hka) hla) (Nat.le_trans (Nat.le_of_eq hkb) hlb) dL_strike_14
    replace h := ifn q0 h
    by_cases q2 : n3 = 2
    · subst q2; replace h := ifp rfl h
      refine g_callVk (x := 2) (st := [.int 0, va_rf v2]) (xe := ⟨0, 9, 15, 15⟩) B hE ⟨[⟨0, 9, 12, 20⟩], [], rfl, (ca_p1 (Or.inr ⟨by decide, _, clk_20, hE.2.2.2.2.1⟩) ca_p0), rfl, by decide, clk_15, cst_2⟩ (st_n B dL_strike_15 rfl (Nat.le_of_ble_eq_true rfl)) (cX9_strikec (o := .error 2) h4) (Nat.le_of_ble_eq_true rfl) rfl rfl mi_X9_strike lk_RL_126 ⟨Nat.le_of_ble_eq_true rfl, Nat.le_of_ble_eq_true rfl⟩ rfl rfl (Nat.le_of_ble_eq_true rfl) dL_strike_4 (Nat.le_trans (bm hka) hla) (Nat.le_trans (bm hkb) hlb) ?_
      refine g_iconst (v := 2) B dL_strike_16 (by decide) ?_
      obtain ⟨w1, w2, w3, w4⟩ := inA h
      clear h
      subst w1
      subst w2
      subst w3
      subst w4
      exact g_iretW B hE (Nat.le_trans (Nat.le_of_eq hka) hla) (Nat.le_trans (Nat.le_of_eq hkb) hlb) dL_strike_17
    replace h := ifn q2 h
    cases h
set_option maxRecDepth 100000 in
set_option maxHeartbeats 4000000 in
theorem cL_strikeClausec {l : Launch} {v0 : Option Nat} {v1 : Int32} {v2 : Option Nat} {σ : HpT} {o : Except Nat (Int32)} {σ' : HpT} {a b : Nat} (h : fL_strikeClause v0 v1 v2 σ = some (o, σ', a, b)) : CtW l yL_strikeClause cL_strikeClause 4 (some .int) [(0, 9, 12, 20), (0, 9, 15, 15)] 8 145 [va_rf v0, .int v1, va_rf v2] σ (oI o) σ' a b := by
  unfold fL_strikeClause at h
  refine ctW_start miw_L_strikeClause.1 rfl (al_le (al_1 (rf_cat _) (al_1 rfl (al_1 (rf_cat _) al_n))) (Nat.le_of_ble_eq_true rfl)) (ag_1 (rf_cat _) (ag_1 rfl (ag_1 (rf_cat _) ag_n))) (fun Δ Γ B hE => ?_)
  have hka : 0 + a = a := Nat.zero_add a
  have hkb : 0 + b = b := Nat.zero_add b
  have hla : a ≤ a := Nat.le_refl a
  have hlb : b ≤ b := Nat.le_refl b
  refine g_aload_n B 2 dL_strikeClause_0 rfl rfl ?_
  refine g_iconst (v := 0) B dL_strikeClause_1 (by decide) ?_
  refine g_aload_n B 0 dL_strikeClause_2 rfl rfl ?_
  refine g_iload_n B 1 dL_strikeClause_3 rfl rfl ?_
  replace h := bnC_s h
  rcases h with ⟨x1, s2, a5, b6, a7, b8, h4, h, ea, eb⟩ | ⟨n3, s2, a5, b6, a7, b8, h4, h, ea, eb⟩
  · subst ea; subst eb
    have hka := bk hka
    have hkb := bk hkb
    refine g_callVsA (st := [.int 0, va_rf v2]) B (cX9_strikeClausec (o := .ok x1) h4) (Nat.le_of_ble_eq_true rfl) rfl rfl mi_X9_strikeClause lk_RL_129 ⟨Nat.le_of_ble_eq_true rfl, Nat.le_of_ble_eq_true rfl⟩ rfl rfl (Nat.le_of_ble_eq_true rfl) dL_strikeClause_4 (Nat.le_trans (bm hka) hla) (Nat.le_trans (bm hkb) hlb) ?_
    refine g_i2l B dL_strikeClause_7 ?_
    replace h := bnP_s h
    obtain ⟨s11, h10, h⟩ := h
    refine g_last B dL_strikeClause_8 h10 ?_
    refine g_goto B 18 dL_strikeClause_9 (by decide) ?_
    refine g_iconst (v := 0) B dL_strikeClause_18 (by decide) ?_
    obtain ⟨w1, w2, w3, w4⟩ := inA h
    clear h
    subst w1
    subst w2
    subst w3
    subst w4
    exact g_iretW B hE (Nat.le_trans (Nat.le_of_eq hka) hla) (Nat.le_trans (Nat.le_of_eq hkb) hlb) dL_strikeClause_19
  · subst ea; subst eb
    have hka := bk hka
    have hkb := bk hkb
    by_cases q0 : n3 = 0
    · subst q0; replace h := ifp rfl h
      refine g_callVk (x := 0) (st := [.int 0, va_rf v2]) (xe := ⟨0, 9, 12, 20⟩) B hE ⟨[], [⟨0, 9, 15, 15⟩], rfl, ca_p0, rfl, by decide, clk_20, cst_0⟩ (st_n B dL_strikeClause_12 rfl (Nat.le_of_ble_eq_true rfl)) (cX9_strikeClausec (o := .error 0) h4) (Nat.le_of_ble_eq_true rfl) rfl rfl mi_X9_strikeClause lk_RL_129 ⟨Nat.le_of_ble_eq_true rfl, Nat.le_of_ble_eq_true rfl⟩ rfl rfl (Nat.le_of_ble_eq_true rfl) dL_strikeClause_4 (Nat.le_trans (bm hka) hla) (Nat.le_trans (bm hkb) hlb) ?_
      refine g_iconst (v := 1) B dL_strikeClause_13 (by decide) ?_
      obtain ⟨w1, w2, w3, w4⟩ := inA h
      clear h
      subst w1
      subst w2
      subst w3
      subst w4
      exact g_iretW B hE (Nat.le_trans (Nat.le_of_eq hka) hla) (Nat.le_trans (Nat.le_of_eq hkb) hlb) dL_strikeClause_14
    replace h := ifn q0 h
    by_cases q2 : n3 = 2
    · subst q2; replace h := ifp rfl h
      refine g_callVk (x := 2) (st := [.int 0, va_rf v2]) (xe := ⟨0, 9, 15, 15⟩) B hE ⟨[⟨0, 9, 12, 20⟩], [], rfl, (ca_p1 (Or.inr ⟨by decide, _, clk_20, hE.2.2.2.2.1⟩) ca_p0), rfl, by decide, clk_15, cst_2⟩ (st_n B dL_strikeClause_15 rfl (Nat.le_of_ble_eq_true rfl)) (cX9_strikeClausec (o := .error 2) h4) (Nat.le_of_ble_eq_true rfl) rfl rfl mi_X9_strikeClause lk_RL_129 ⟨Nat.le_of_ble_eq_true rfl, Nat.le_of_ble_eq_true rfl⟩ rfl rfl (Nat.le_of_ble_eq_true rfl) dL_strikeClause_4 (Nat.le_trans (bm hka) hla) (Nat.le_trans (bm hkb) hlb) ?_
      refine g_iconst (v := 2) B dL_strikeClause_16 (by decide) ?_
      obtain ⟨w1, w2, w3, w4⟩ := inA h
      clear h
      subst w1
      subst w2
      subst w3
      subst w4
      exact g_iretW B hE (Nat.le_trans (Nat.le_of_eq hka) hla) (Nat.le_trans (Nat.le_of_eq hkb) hlb) dL_strikeClause_17
    replace h := ifn q2 h
    cases h
set_option maxRecDepth 100000 in
set_option maxHeartbeats 4000000 in
theorem cL_interlinec {l : Launch} {v0 : Option Nat} {v1 : Int32} {v2 : Int32} {v3 : Option Nat} {σ : HpT} {o : Except Nat (Int32)} {σ' : HpT} {a b : Nat} (h : fL_interline v0 v1 v2 v3 σ = some (o, σ', a, b)) : CtW l yL_interline cL_interline 5 (some .int) [(0, 10, 13, 20), (0, 10, 17, 13), (0, 10, 21, 15)] 8 148 [va_rf v0, .int v1, .int v2, va_rf v3] σ (oI o) σ' a b := by
  unfold fL_interline at h
  refine ctW_start miw_L_interline.1 rfl (al_le (al_1 (rf_cat _) (al_1 rfl (al_1 rfl (al_1 (rf_cat _) al_n)))) (Nat.le_of_ble_eq_true rfl)) (ag_1 (rf_cat _) (ag_1 rfl (ag_1 rfl (ag_1 (rf_cat _) ag_n)))) (fun Δ Γ B hE => ?_)
  have hka : 0 + a = a := Nat.zero_add a
  have hkb : 0 + b = b := Nat.zero_add b
  have hla : a ≤ a := Nat.le_refl a
  have hlb : b ≤ b := Nat.le_refl b
  refine g_aload_n B 3 dL_interline_0 rfl rfl ?_
  refine g_iconst (v := 0) B dL_interline_1 (by decide) ?_
  refine g_aload_n B 0 dL_interline_2 rfl rfl ?_
  refine g_iload_n B 1 dL_interline_3 rfl rfl ?_
  refine g_iload_n B 2 dL_interline_4 rfl rfl ?_
  replace h := bnC_s h
  rcases h with ⟨x1, s2, a5, b6, a7, b8, h4, h, ea, eb⟩ | ⟨n3, s2, a5, b6, a7, b8, h4, h, ea, eb⟩
  · subst ea; subst eb
    have hka := bk hka
    have hkb := bk hkb
    refine g_callVsA (st := [.int 0, va_rf v3]) B (cX9_interlinec (o := .ok x1) h4) (Nat.le_of_ble_eq_true rfl) rfl rfl mi_X9_interline lk_RL_132 ⟨Nat.le_of_ble_eq_true rfl, Nat.le_of_ble_eq_true rfl⟩ rfl rfl (Nat.le_of_ble_eq_true rfl) dL_interline_5 (Nat.le_trans (bm hka) hla) (Nat.le_trans (bm hkb) hlb) ?_
    refine g_i2l B dL_interline_8 ?_
    replace h := bnP_s h
    obtain ⟨s11, h10, h⟩ := h
    refine g_last B dL_interline_9 h10 ?_
    refine g_goto B 25 dL_interline_10 (by decide) ?_
    refine g_iconst (v := 0) B dL_interline_25 (by decide) ?_
    obtain ⟨w1, w2, w3, w4⟩ := inA h
    clear h
    subst w1
    subst w2
    subst w3
    subst w4
    exact g_iretW B hE (Nat.le_trans (Nat.le_of_eq hka) hla) (Nat.le_trans (Nat.le_of_eq hkb) hlb) dL_interline_26
  · subst ea; subst eb
    have hka := bk hka
    have hkb := bk hkb
    by_cases q0 : n3 = 0
    · subst q0; replace h := ifp rfl h
      refine g_callVk (x := 0) (st := [.int 0, va_rf v3]) (xe := ⟨0, 10, 13, 20⟩) B hE ⟨[], [⟨0, 10, 17, 13⟩, ⟨0, 10, 21, 15⟩], rfl, ca_p0, rfl, by decide, clk_20, cst_0⟩ (st_1 B dL_interline_13 (Nat.le_of_ble_eq_true rfl)) (cX9_interlinec (o := .error 0) h4) (Nat.le_of_ble_eq_true rfl) rfl rfl mi_X9_interline lk_RL_132 ⟨Nat.le_of_ble_eq_true rfl, Nat.le_of_ble_eq_true rfl⟩ rfl rfl (Nat.le_of_ble_eq_true rfl) dL_interline_5 (Nat.le_trans (bm hka) hla) (Nat.le_trans (bm hkb) hlb) ?_
      refine g_iconst (v := 1) B dL_interline_15 (by decide) ?_
      obtain ⟨w1, w2, w3, w4⟩ := inA h
      clear h
      subst w1
      subst w2
      subst w3
      subst w4
      exact g_iretW B hE (Nat.le_trans (Nat.le_of_eq hka) hla) (Nat.le_trans (Nat.le_of_eq hkb) hlb) dL_interline_16
    replace h := ifn q0 h
    by_cases q1 : n3 = 1
    · subst q1; replace h := ifp rfl h
      refine g_callVk (x := 1) (st := [.int 0, va_rf v3]) (xe := ⟨0, 10, 17, 13⟩) B hE ⟨[⟨0, 10, 13, 20⟩], [⟨0, 10, 21, 15⟩], rfl, (ca_p1 (Or.inr ⟨by decide, _, clk_20, hE.2.2.2.1⟩) ca_p0), rfl, by decide, clk_13, cst_1⟩ (st_1 B dL_interline_17 (Nat.le_of_ble_eq_true rfl)) (cX9_interlinec (o := .error 1) h4) (Nat.le_of_ble_eq_true rfl) rfl rfl mi_X9_interline lk_RL_132 ⟨Nat.le_of_ble_eq_true rfl, Nat.le_of_ble_eq_true rfl⟩ rfl rfl (Nat.le_of_ble_eq_true rfl) dL_interline_5 (Nat.le_trans (bm hka) hla) (Nat.le_trans (bm hkb) hlb) ?_
      refine g_iconst (v := 2) B dL_interline_19 (by decide) ?_
      obtain ⟨w1, w2, w3, w4⟩ := inA h
      clear h
      subst w1
      subst w2
      subst w3
      subst w4
      exact g_iretW B hE (Nat.le_trans (Nat.le_of_eq hka) hla) (Nat.le_trans (Nat.le_of_eq hkb) hlb) dL_interline_20
    replace h := ifn q1 h
    by_cases q2 : n3 = 2
    · subst q2; replace h := ifp rfl h
      refine g_callVk (x := 2) (st := [.int 0, va_rf v3]) (xe := ⟨0, 10, 21, 15⟩) B hE ⟨[⟨0, 10, 13, 20⟩, ⟨0, 10, 17, 13⟩], [], rfl, (ca_p1 (Or.inr ⟨by decide, _, clk_20, hE.2.2.2.2.1⟩) (ca_p1 (Or.inr ⟨by decide, _, clk_13, hE.2.2.2.2.2.1⟩) ca_p0)), rfl, by decide, clk_15, cst_2⟩ (st_1 B dL_interline_21 (Nat.le_of_ble_eq_true rfl)) (cX9_interlinec (o := .error 2) h4) (Nat.le_of_ble_eq_true rfl) rfl rfl mi_X9_interline lk_RL_132 ⟨Nat.le_of_ble_eq_true rfl, Nat.le_of_ble_eq_true rfl⟩ rfl rfl (Nat.le_of_ble_eq_true rfl) dL_interline_5 (Nat.le_trans (bm hka) hla) (Nat.le_trans (bm hkb) hlb) ?_
      refine g_iconst (v := 3) B dL_interline_23 (by decide) ?_
      obtain ⟨w1, w2, w3, w4⟩ := inA h
      clear h
      subst w1
      subst w2
      subst w3
      subst w4
      exact g_iretW B hE (Nat.le_trans (Nat.le_of_eq hka) hla) (Nat.le_trans (Nat.le_of_eq hkb) hlb) dL_interline_24
    replace h := ifn q2 h
    cases h
set_option maxRecDepth 100000 in
set_option maxHeartbeats 4000000 in
theorem cL_sealc {l : Launch} {v0 : Option Nat} {v1 : Int32} {v2 : Int32} {v3 : Option Nat} {σ : HpT} {o : Except Nat (Int32)} {σ' : HpT} {a b : Nat} (h : fL_seal v0 v1 v2 v3 σ = some (o, σ', a, b)) : CtW l yL_seal cL_seal 5 (some .int) [(0, 10, 13, 20), (0, 10, 17, 15)] 8 146 [va_rf v0, .int v1, .int v2, va_rf v3] σ (oI o) σ' a b := by
  unfold fL_seal at h
  refine ctW_start miw_L_seal.1 rfl (al_le (al_1 (rf_cat _) (al_1 rfl (al_1 rfl (al_1 (rf_cat _) al_n)))) (Nat.le_of_ble_eq_true rfl)) (ag_1 (rf_cat _) (ag_1 rfl (ag_1 rfl (ag_1 (rf_cat _) ag_n)))) (fun Δ Γ B hE => ?_)
  have hka : 0 + a = a := Nat.zero_add a
  have hkb : 0 + b = b := Nat.zero_add b
  have hla : a ≤ a := Nat.le_refl a
  have hlb : b ≤ b := Nat.le_refl b
  refine g_aload_n B 3 dL_seal_0 rfl rfl ?_
  refine g_iconst (v := 0) B dL_seal_1 (by decide) ?_
  refine g_aload_n B 0 dL_seal_2 rfl rfl ?_
  refine g_iload_n B 1 dL_seal_3 rfl rfl ?_
  refine g_iload_n B 2 dL_seal_4 rfl rfl ?_
  replace h := bnC_s h
  rcases h with ⟨x1, s2, a5, b6, a7, b8, h4, h, ea, eb⟩ | ⟨n3, s2, a5, b6, a7, b8, h4, h, ea, eb⟩
  · subst ea; subst eb
    have hka := bk hka
    have hkb := bk hkb
    refine g_callVsA (st := [.int 0, va_rf v3]) B (cX9_sealc (o := .ok x1) h4) (Nat.le_of_ble_eq_true rfl) rfl rfl mi_X9_seal lk_RL_135 ⟨Nat.le_of_ble_eq_true rfl, Nat.le_of_ble_eq_true rfl⟩ rfl rfl (Nat.le_of_ble_eq_true rfl) dL_seal_5 (Nat.le_trans (bm hka) hla) (Nat.le_trans (bm hkb) hlb) ?_
    refine g_i2l B dL_seal_8 ?_
    replace h := bnP_s h
    obtain ⟨s11, h10, h⟩ := h
    refine g_last B dL_seal_9 h10 ?_
    refine g_goto B 21 dL_seal_10 (by decide) ?_
    refine g_iconst (v := 0) B dL_seal_21 (by decide) ?_
    obtain ⟨w1, w2, w3, w4⟩ := inA h
    clear h
    subst w1
    subst w2
    subst w3
    subst w4
    exact g_iretW B hE (Nat.le_trans (Nat.le_of_eq hka) hla) (Nat.le_trans (Nat.le_of_eq hkb) hlb) dL_seal_22
  · subst ea; subst eb
    have hka := bk hka
    have hkb := bk hkb
    by_cases q0 : n3 = 0
    · subst q0; replace h := ifp rfl h
      refine g_callVk (x := 0) (st := [.int 0, va_rf v3]) (xe := ⟨0, 10, 13, 20⟩) B hE ⟨[], [⟨0, 10, 17, 15⟩], rfl, ca_p0, rfl, by decide, clk_20, cst_0⟩ (st_1 B dL_seal_13 (Nat.le_of_ble_eq_true rfl)) (cX9_sealc (o := .error 0) h4) (Nat.le_of_ble_eq_true rfl) rfl rfl mi_X9_seal lk_RL_135 ⟨Nat.le_of_ble_eq_true rfl, Nat.le_of_ble_eq_true rfl⟩ rfl rfl (Nat.le_of_ble_eq_true rfl) dL_seal_5 (Nat.le_trans (bm hka) hla) (Nat.le_trans (bm hkb) hlb) ?_
      refine g_iconst (v := 1) B dL_seal_15 (by decide) ?_
      obtain ⟨w1, w2, w3, w4⟩ := inA h
      clear h
      subst w1
      subst w2
      subst w3
      subst w4
      exact g_iretW B hE (Nat.le_trans (Nat.le_of_eq hka) hla) (Nat.le_trans (Nat.le_of_eq hkb) hlb) dL_seal_16
    replace h := ifn q0 h
    by_cases q2 : n3 = 2
    · subst q2; replace h := ifp rfl h
      refine g_callVk (x := 2) (st := [.int 0, va_rf v3]) (xe := ⟨0, 10, 17, 15⟩) B hE ⟨[⟨0, 10, 13, 20⟩], [], rfl, (ca_p1 (Or.inr ⟨by decide, _, clk_20, hE.2.2.2.2.1⟩) ca_p0), rfl, by decide, clk_15, cst_2⟩ (st_1 B dL_seal_17 (Nat.le_of_ble_eq_true rfl)) (cX9_sealc (o := .error 2) h4) (Nat.le_of_ble_eq_true rfl) rfl rfl mi_X9_seal lk_RL_135 ⟨Nat.le_of_ble_eq_true rfl, Nat.le_of_ble_eq_true rfl⟩ rfl rfl (Nat.le_of_ble_eq_true rfl) dL_seal_5 (Nat.le_trans (bm hka) hla) (Nat.le_trans (bm hkb) hlb) ?_
      refine g_iconst (v := 2) B dL_seal_19 (by decide) ?_
      obtain ⟨w1, w2, w3, w4⟩ := inA h
      clear h
      subst w1
      subst w2
      subst w3
      subst w4
      exact g_iretW B hE (Nat.le_trans (Nat.le_of_eq hka) hla) (Nat.le_trans (Nat.le_of_eq hkb) hlb) dL_seal_20
    replace h := ifn q2 h
    cases h
set_option maxRecDepth 100000 in
set_option maxHeartbeats 4000000 in
theorem cL_cancelc {l : Launch} {v0 : Option Nat} {v1 : Option Nat} {σ : HpT} {o : Except Nat (Int32)} {σ' : HpT} {a b : Nat} (h : fL_cancel v0 v1 σ = some (o, σ', a, b)) : CtW l yL_cancel cL_cancel 3 (some .int) [(0, 8, 11, 20), (0, 8, 14, 15)] 8 144 [va_rf v0, va_rf v1] σ (oI o) σ' a b := by
  unfold fL_cancel at h
  refine ctW_start miw_L_cancel.1 rfl (al_le (al_1 (rf_cat _) (al_1 (rf_cat _) al_n)) (Nat.le_of_ble_eq_true rfl)) (ag_1 (rf_cat _) (ag_1 (rf_cat _) ag_n)) (fun Δ Γ B hE => ?_)
  have hka : 0 + a = a := Nat.zero_add a
  have hkb : 0 + b = b := Nat.zero_add b
  have hla : a ≤ a := Nat.le_refl a
  have hlb : b ≤ b := Nat.le_refl b
  refine g_aload_n B 1 dL_cancel_0 rfl rfl ?_
  refine g_iconst (v := 0) B dL_cancel_1 (by decide) ?_
  refine g_aload_n B 0 dL_cancel_2 rfl rfl ?_
  replace h := bnC_s h
  rcases h with ⟨x1, s2, a5, b6, a7, b8, h4, h, ea, eb⟩ | ⟨n3, s2, a5, b6, a7, b8, h4, h, ea, eb⟩
  · subst ea; subst eb
    have hka := bk hka
    have hkb := bk hkb
    refine g_callVsA (st := [.int 0, va_rf v1]) B (cX9_cancelc (o := .ok x1) h4) (Nat.le_of_ble_eq_true rfl) rfl rfl mi_X9_cancel lk_RL_138 ⟨Nat.le_of_ble_eq_true rfl, Nat.le_of_ble_eq_true rfl⟩ rfl rfl (Nat.le_of_ble_eq_true rfl) dL_cancel_3 (Nat.le_trans (bm hka) hla) (Nat.le_trans (bm hkb) hlb) ?_
    refine g_i2l B dL_cancel_6 ?_
    replace h := bnP_s h
    obtain ⟨s11, h10, h⟩ := h
    refine g_last B dL_cancel_7 h10 ?_
    refine g_goto B 17 dL_cancel_8 (by decide) ?_
    refine g_iconst (v := 0) B dL_cancel_17 (by decide) ?_
    obtain ⟨w1, w2, w3, w4⟩ := inA h
    clear h
    subst w1
    subst w2
    subst w3
    subst w4
    exact g_iretW B hE (Nat.le_trans (Nat.le_of_eq hka) hla) (Nat.le_trans (Nat.le_of_eq hkb) hlb) dL_cancel_18
  · subst ea; subst eb
    have hka := bk hka
    have hkb := bk hkb
    by_cases q0 : n3 = 0
    · subst q0; replace h := ifp rfl h
      refine g_callVk (x := 0) (st := [.int 0, va_rf v1]) (xe := ⟨0, 8, 11, 20⟩) B hE ⟨[], [⟨0, 8, 14, 15⟩], rfl, ca_p0, rfl, by decide, clk_20, cst_0⟩ (st_n B dL_cancel_11 rfl (Nat.le_of_ble_eq_true rfl)) (cX9_cancelc (o := .error 0) h4) (Nat.le_of_ble_eq_true rfl) rfl rfl mi_X9_cancel lk_RL_138 ⟨Nat.le_of_ble_eq_true rfl, Nat.le_of_ble_eq_true rfl⟩ rfl rfl (Nat.le_of_ble_eq_true rfl) dL_cancel_3 (Nat.le_trans (bm hka) hla) (Nat.le_trans (bm hkb) hlb) ?_
      refine g_iconst (v := 1) B dL_cancel_12 (by decide) ?_
      obtain ⟨w1, w2, w3, w4⟩ := inA h
      clear h
      subst w1
      subst w2
      subst w3
      subst w4
      exact g_iretW B hE (Nat.le_trans (Nat.le_of_eq hka) hla) (Nat.le_trans (Nat.le_of_eq hkb) hlb) dL_cancel_13
    replace h := ifn q0 h
    by_cases q2 : n3 = 2
    · subst q2; replace h := ifp rfl h
      refine g_callVk (x := 2) (st := [.int 0, va_rf v1]) (xe := ⟨0, 8, 14, 15⟩) B hE ⟨[⟨0, 8, 11, 20⟩], [], rfl, (ca_p1 (Or.inr ⟨by decide, _, clk_20, hE.2.2.2.2.1⟩) ca_p0), rfl, by decide, clk_15, cst_2⟩ (st_n B dL_cancel_14 rfl (Nat.le_of_ble_eq_true rfl)) (cX9_cancelc (o := .error 2) h4) (Nat.le_of_ble_eq_true rfl) rfl rfl mi_X9_cancel lk_RL_138 ⟨Nat.le_of_ble_eq_true rfl, Nat.le_of_ble_eq_true rfl⟩ rfl rfl (Nat.le_of_ble_eq_true rfl) dL_cancel_3 (Nat.le_trans (bm hka) hla) (Nat.le_trans (bm hkb) hlb) ?_
      refine g_iconst (v := 2) B dL_cancel_15 (by decide) ?_
      obtain ⟨w1, w2, w3, w4⟩ := inA h
      clear h
      subst w1
      subst w2
      subst w3
      subst w4
      exact g_iretW B hE (Nat.le_trans (Nat.le_of_eq hka) hla) (Nat.le_trans (Nat.le_of_eq hkb) hlb) dL_cancel_16
    replace h := ifn q2 h
    cases h
set_option maxRecDepth 100000 in
set_option maxHeartbeats 4000000 in
theorem cL_addCopyc {l : Launch} {v0 : Option Nat} {v1 : Int32} {v2 : Int32} {v3 : Option Nat} {σ : HpT} {o : Except Nat (Int32)} {σ' : HpT} {a b : Nat} (h : fL_addCopy v0 v1 v2 v3 σ = some (o, σ', a, b)) : CtW l yL_addCopy cL_addCopy 5 (some .int) [(0, 10, 13, 20), (0, 10, 17, 13), (0, 10, 21, 15)] 8 146 [va_rf v0, .int v1, .int v2, va_rf v3] σ (oI o) σ' a b := by
  unfold fL_addCopy at h
  refine ctW_start miw_L_addCopy.1 rfl (al_le (al_1 (rf_cat _) (al_1 rfl (al_1 rfl (al_1 (rf_cat _) al_n)))) (Nat.le_of_ble_eq_true rfl)) (ag_1 (rf_cat _) (ag_1 rfl (ag_1 rfl (ag_1 (rf_cat _) ag_n)))) (fun Δ Γ B hE => ?_)
  have hka : 0 + a = a := Nat.zero_add a
  have hkb : 0 + b = b := Nat.zero_add b
  have hla : a ≤ a := Nat.le_refl a
  have hlb : b ≤ b := Nat.le_refl b
  refine g_aload_n B 3 dL_addCopy_0 rfl rfl ?_
  refine g_iconst (v := 0) B dL_addCopy_1 (by decide) ?_
  refine g_aload_n B 0 dL_addCopy_2 rfl rfl ?_
  refine g_iload_n B 1 dL_addCopy_3 rfl rfl ?_
  refine g_iload_n B 2 dL_addCopy_4 rfl rfl ?_
  replace h := bnC_s h
  rcases h with ⟨x1, s2, a5, b6, a7, b8, h4, h, ea, eb⟩ | ⟨n3, s2, a5, b6, a7, b8, h4, h, ea, eb⟩
  · subst ea; subst eb
    have hka := bk hka
    have hkb := bk hkb
    refine g_callVsA (st := [.int 0, va_rf v3]) B (cX9_addCopyc (o := .ok x1) h4) (Nat.le_of_ble_eq_true rfl) rfl rfl mi_X9_addCopy lk_RL_141 ⟨Nat.le_of_ble_eq_true rfl, Nat.le_of_ble_eq_true rfl⟩ rfl rfl (Nat.le_of_ble_eq_true rfl) dL_addCopy_5 (Nat.le_trans (bm hka) hla) (Nat.le_trans (bm hkb) hlb) ?_
    refine g_i2l B dL_addCopy_8 ?_
    replace h := bnP_s h
    obtain ⟨s11, h10, h⟩ := h
    refine g_last B dL_addCopy_9 h10 ?_
    refine g_goto B 25 dL_addCopy_10 (by decide) ?_
    refine g_iconst (v := 0) B dL_addCopy_25 (by decide) ?_
    obtain ⟨w1, w2, w3, w4⟩ := inA h
    clear h
    subst w1
    subst w2
    subst w3
    subst w4
    exact g_iretW B hE (Nat.le_trans (Nat.le_of_eq hka) hla) (Nat.le_trans (Nat.le_of_eq hkb) hlb) dL_addCopy_26
  · subst ea; subst eb
    have hka := bk hka
    have hkb := bk hkb
    by_cases q0 : n3 = 0
    · subst q0; replace h := ifp rfl h
      refine g_callVk (x := 0) (st := [.int 0, va_rf v3]) (xe := ⟨0, 10, 13, 20⟩) B hE ⟨[], [⟨0, 10, 17, 13⟩, ⟨0, 10, 21, 15⟩], rfl, ca_p0, rfl, by decide, clk_20, cst_0⟩ (st_1 B dL_addCopy_13 (Nat.le_of_ble_eq_true rfl)) (cX9_addCopyc (o := .error 0) h4) (Nat.le_of_ble_eq_true rfl) rfl rfl mi_X9_addCopy lk_RL_141 ⟨Nat.le_of_ble_eq_true rfl, Nat.le_of_ble_eq_true rfl⟩ rfl rfl (Nat.le_of_ble_eq_true rfl) dL_addCopy_5 (Nat.le_trans (bm hka) hla) (Nat.le_trans (bm hkb) hlb) ?_
      refine g_iconst (v := 1) B dL_addCopy_15 (by decide) ?_
      obtain ⟨w1, w2, w3, w4⟩ := inA h
      clear h
      subst w1
      subst w2
      subst w3
      subst w4
      exact g_iretW B hE (Nat.le_trans (Nat.le_of_eq hka) hla) (Nat.le_trans (Nat.le_of_eq hkb) hlb) dL_addCopy_16
    replace h := ifn q0 h
    by_cases q1 : n3 = 1
    · subst q1; replace h := ifp rfl h
      refine g_callVk (x := 1) (st := [.int 0, va_rf v3]) (xe := ⟨0, 10, 17, 13⟩) B hE ⟨[⟨0, 10, 13, 20⟩], [⟨0, 10, 21, 15⟩], rfl, (ca_p1 (Or.inr ⟨by decide, _, clk_20, hE.2.2.2.1⟩) ca_p0), rfl, by decide, clk_13, cst_1⟩ (st_1 B dL_addCopy_17 (Nat.le_of_ble_eq_true rfl)) (cX9_addCopyc (o := .error 1) h4) (Nat.le_of_ble_eq_true rfl) rfl rfl mi_X9_addCopy lk_RL_141 ⟨Nat.le_of_ble_eq_true rfl, Nat.le_of_ble_eq_true rfl⟩ rfl rfl (Nat.le_of_ble_eq_true rfl) dL_addCopy_5 (Nat.le_trans (bm hka) hla) (Nat.le_trans (bm hkb) hlb) ?_
      refine g_iconst (v := 2) B dL_addCopy_19 (by decide) ?_
      obtain ⟨w1, w2, w3, w4⟩ := inA h
      clear h
      subst w1
      subst w2
      subst w3
      subst w4
      exact g_iretW B hE (Nat.le_trans (Nat.le_of_eq hka) hla) (Nat.le_trans (Nat.le_of_eq hkb) hlb) dL_addCopy_20
    replace h := ifn q1 h
    by_cases q2 : n3 = 2
    · subst q2; replace h := ifp rfl h
      refine g_callVk (x := 2) (st := [.int 0, va_rf v3]) (xe := ⟨0, 10, 21, 15⟩) B hE ⟨[⟨0, 10, 13, 20⟩, ⟨0, 10, 17, 13⟩], [], rfl, (ca_p1 (Or.inr ⟨by decide, _, clk_20, hE.2.2.2.2.1⟩) (ca_p1 (Or.inr ⟨by decide, _, clk_13, hE.2.2.2.2.2.1⟩) ca_p0)), rfl, by decide, clk_15, cst_2⟩ (st_1 B dL_addCopy_21 (Nat.le_of_ble_eq_true rfl)) (cX9_addCopyc (o := .error 2) h4) (Nat.le_of_ble_eq_true rfl) rfl rfl mi_X9_addCopy lk_RL_141 ⟨Nat.le_of_ble_eq_true rfl, Nat.le_of_ble_eq_true rfl⟩ rfl rfl (Nat.le_of_ble_eq_true rfl) dL_addCopy_5 (Nat.le_trans (bm hka) hla) (Nat.le_trans (bm hkb) hlb) ?_
      refine g_iconst (v := 3) B dL_addCopy_23 (by decide) ?_
      obtain ⟨w1, w2, w3, w4⟩ := inA h
      clear h
      subst w1
      subst w2
      subst w3
      subst w4
      exact g_iretW B hE (Nat.le_trans (Nat.le_of_eq hka) hla) (Nat.le_trans (Nat.le_of_eq hkb) hlb) dL_addCopy_24
    replace h := ifn q2 h
    cases h
set_option maxRecDepth 100000 in
set_option maxHeartbeats 4000000 in
theorem cL_burnc {l : Launch} {v0 : Option Nat} {v1 : Int32} {v2 : Option Nat} {σ : HpT} {o : Except Nat (Int32)} {σ' : HpT} {a b : Nat} (h : fL_burn v0 v1 v2 σ = some (o, σ', a, b)) : CtW l yL_burn cL_burn 4 (some .int) [(0, 9, 12, 20), (0, 9, 15, 13)] 8 145 [va_rf v0, .int v1, va_rf v2] σ (oI o) σ' a b := by
  unfold fL_burn at h
  refine ctW_start miw_L_burn.1 rfl (al_le (al_1 (rf_cat _) (al_1 rfl (al_1 (rf_cat _) al_n))) (Nat.le_of_ble_eq_true rfl)) (ag_1 (rf_cat _) (ag_1 rfl (ag_1 (rf_cat _) ag_n))) (fun Δ Γ B hE => ?_)
  have hka : 0 + a = a := Nat.zero_add a
  have hkb : 0 + b = b := Nat.zero_add b
  have hla : a ≤ a := Nat.le_refl a
  have hlb : b ≤ b := Nat.le_refl b
  refine g_aload_n B 2 dL_burn_0 rfl rfl ?_
  refine g_iconst (v := 0) B dL_burn_1 (by decide) ?_
  refine g_aload_n B 0 dL_burn_2 rfl rfl ?_
  refine g_iload_n B 1 dL_burn_3 rfl rfl ?_
  replace h := bnC_s h
  rcases h with ⟨x1, s2, a5, b6, a7, b8, h4, h, ea, eb⟩ | ⟨n3, s2, a5, b6, a7, b8, h4, h, ea, eb⟩
  · subst ea; subst eb
    have hka := bk hka
    have hkb := bk hkb
    refine g_callVsA (st := [.int 0, va_rf v2]) B (cX9_burnc (o := .ok x1) h4) (Nat.le_of_ble_eq_true rfl) rfl rfl mi_X9_burn lk_RL_144 ⟨Nat.le_of_ble_eq_true rfl, Nat.le_of_ble_eq_true rfl⟩ rfl rfl (Nat.le_of_ble_eq_true rfl) dL_burn_4 (Nat.le_trans (bm hka) hla) (Nat.le_trans (bm hkb) hlb) ?_
    refine g_i2l B dL_burn_7 ?_
    replace h := bnP_s h
    obtain ⟨s11, h10, h⟩ := h
    refine g_last B dL_burn_8 h10 ?_
    refine g_goto B 18 dL_burn_9 (by decide) ?_
    refine g_iconst (v := 0) B dL_burn_18 (by decide) ?_
    obtain ⟨w1, w2, w3, w4⟩ := inA h
    clear h
    subst w1
    subst w2
    subst w3
    subst w4
    exact g_iretW B hE (Nat.le_trans (Nat.le_of_eq hka) hla) (Nat.le_trans (Nat.le_of_eq hkb) hlb) dL_burn_19
  · subst ea; subst eb
    have hka := bk hka
    have hkb := bk hkb
    by_cases q0 : n3 = 0
    · subst q0; replace h := ifp rfl h
      refine g_callVk (x := 0) (st := [.int 0, va_rf v2]) (xe := ⟨0, 9, 12, 20⟩) B hE ⟨[], [⟨0, 9, 15, 13⟩], rfl, ca_p0, rfl, by decide, clk_20, cst_0⟩ (st_n B dL_burn_12 rfl (Nat.le_of_ble_eq_true rfl)) (cX9_burnc (o := .error 0) h4) (Nat.le_of_ble_eq_true rfl) rfl rfl mi_X9_burn lk_RL_144 ⟨Nat.le_of_ble_eq_true rfl, Nat.le_of_ble_eq_true rfl⟩ rfl rfl (Nat.le_of_ble_eq_true rfl) dL_burn_4 (Nat.le_trans (bm hka) hla) (Nat.le_trans (bm hkb) hlb) ?_
      refine g_iconst (v := 1) B dL_burn_13 (by decide) ?_
      obtain ⟨w1, w2, w3, w4⟩ := inA h
      clear h
      subst w1
      subst w2
      subst w3
      subst w4
      exact g_iretW B hE (Nat.le_trans (Nat.le_of_eq hka) hla) (Nat.le_trans (Nat.le_of_eq hkb) hlb) dL_burn_14
    replace h := ifn q0 h
    by_cases q1 : n3 = 1
    · subst q1; replace h := ifp rfl h
      refine g_callVk (x := 1) (st := [.int 0, va_rf v2]) (xe := ⟨0, 9, 15, 13⟩) B hE ⟨[⟨0, 9, 12, 20⟩], [], rfl, (ca_p1 (Or.inr ⟨by decide, _, clk_20, hE.2.2.2.1⟩) ca_p0), rfl, by decide, clk_13, cst_1⟩ (st_n B dL_burn_15 rfl (Nat.le_of_ble_eq_true rfl)) (cX9_burnc (o := .error 1) h4) (Nat.le_of_ble_eq_true rfl) rfl rfl mi_X9_burn lk_RL_144 ⟨Nat.le_of_ble_eq_true rfl, Nat.le_of_ble_eq_true rfl⟩ rfl rfl (Nat.le_of_ble_eq_true rfl) dL_burn_4 (Nat.le_trans (bm hka) hla) (Nat.le_trans (bm hkb) hlb) ?_
      refine g_iconst (v := 2) B dL_burn_16 (by decide) ?_
      obtain ⟨w1, w2, w3, w4⟩ := inA h
      clear h
      subst w1
      subst w2
      subst w3
      subst w4
      exact g_iretW B hE (Nat.le_trans (Nat.le_of_eq hka) hla) (Nat.le_trans (Nat.le_of_eq hkb) hlb) dL_burn_17
    replace h := ifn q1 h
    cases h
set_option maxRecDepth 100000 in
set_option maxHeartbeats 4000000 in
theorem cL_losec {l : Launch} {v0 : Option Nat} {v1 : Int32} {v2 : Option Nat} {σ : HpT} {o : Except Nat (Int32)} {σ' : HpT} {a b : Nat} (h : fL_lose v0 v1 v2 σ = some (o, σ', a, b)) : CtW l yL_lose cL_lose 4 (some .int) [(0, 9, 12, 20), (0, 9, 15, 13), (0, 9, 18, 15)] 9 155 [va_rf v0, .int v1, va_rf v2] σ (oI o) σ' a b := by
  unfold fL_lose at h
  refine ctW_start miw_L_lose.1 rfl (al_le (al_1 (rf_cat _) (al_1 rfl (al_1 (rf_cat _) al_n))) (Nat.le_of_ble_eq_true rfl)) (ag_1 (rf_cat _) (ag_1 rfl (ag_1 (rf_cat _) ag_n))) (fun Δ Γ B hE => ?_)
  have hka : 0 + a = a := Nat.zero_add a
  have hkb : 0 + b = b := Nat.zero_add b
  have hla : a ≤ a := Nat.le_refl a
  have hlb : b ≤ b := Nat.le_refl b
  refine g_aload_n B 2 dL_lose_0 rfl rfl ?_
  refine g_iconst (v := 0) B dL_lose_1 (by decide) ?_
  refine g_aload_n B 0 dL_lose_2 rfl rfl ?_
  refine g_iload_n B 1 dL_lose_3 rfl rfl ?_
  replace h := bnC_s h
  rcases h with ⟨x1, s2, a5, b6, a7, b8, h4, h, ea, eb⟩ | ⟨n3, s2, a5, b6, a7, b8, h4, h, ea, eb⟩
  · subst ea; subst eb
    have hka := bk hka
    have hkb := bk hkb
    refine g_callVsA (st := [.int 0, va_rf v2]) B (cX9_losec (o := .ok x1) h4) (Nat.le_of_ble_eq_true rfl) rfl rfl mi_X9_lose lk_RL_147 ⟨Nat.le_of_ble_eq_true rfl, Nat.le_of_ble_eq_true rfl⟩ rfl rfl (Nat.le_of_ble_eq_true rfl) dL_lose_4 (Nat.le_trans (bm hka) hla) (Nat.le_trans (bm hkb) hlb) ?_
    refine g_i2l B dL_lose_7 ?_
    replace h := bnP_s h
    obtain ⟨s11, h10, h⟩ := h
    refine g_last B dL_lose_8 h10 ?_
    refine g_goto B 21 dL_lose_9 (by decide) ?_
    refine g_iconst (v := 0) B dL_lose_21 (by decide) ?_
    obtain ⟨w1, w2, w3, w4⟩ := inA h
    clear h
    subst w1
    subst w2
    subst w3
    subst w4
    exact g_iretW B hE (Nat.le_trans (Nat.le_of_eq hka) hla) (Nat.le_trans (Nat.le_of_eq hkb) hlb) dL_lose_22
  · subst ea; subst eb
    have hka := bk hka
    have hkb := bk hkb
    by_cases q0 : n3 = 0
    · subst q0; replace h := ifp rfl h
      refine g_callVk (x := 0) (st := [.int 0, va_rf v2]) (xe := ⟨0, 9, 12, 20⟩) B hE ⟨[], [⟨0, 9, 15, 13⟩, ⟨0, 9, 18, 15⟩], rfl, ca_p0, rfl, by decide, clk_20, cst_0⟩ (st_n B dL_lose_12 rfl (Nat.le_of_ble_eq_true rfl)) (cX9_losec (o := .error 0) h4) (Nat.le_of_ble_eq_true rfl) rfl rfl mi_X9_lose lk_RL_147 ⟨Nat.le_of_ble_eq_true rfl, Nat.le_of_ble_eq_true rfl⟩ rfl rfl (Nat.le_of_ble_eq_true rfl) dL_lose_4 (Nat.le_trans (bm hka) hla) (Nat.le_trans (bm hkb) hlb) ?_
      refine g_iconst (v := 1) B dL_lose_13 (by decide) ?_
      obtain ⟨w1, w2, w3, w4⟩ := inA h
      clear h
      subst w1
      subst w2
      subst w3
      subst w4
      exact g_iretW B hE (Nat.le_trans (Nat.le_of_eq hka) hla) (Nat.le_trans (Nat.le_of_eq hkb) hlb) dL_lose_14
    replace h := ifn q0 h
    by_cases q1 : n3 = 1
    · subst q1; replace h := ifp rfl h
      refine g_callVk (x := 1) (st := [.int 0, va_rf v2]) (xe := ⟨0, 9, 15, 13⟩) B hE ⟨[⟨0, 9, 12, 20⟩], [⟨0, 9, 18, 15⟩], rfl, (ca_p1 (Or.inr ⟨by decide, _, clk_20, hE.2.2.2.1⟩) ca_p0), rfl, by decide, clk_13, cst_1⟩ (st_n B dL_lose_15 rfl (Nat.le_of_ble_eq_true rfl)) (cX9_losec (o := .error 1) h4) (Nat.le_of_ble_eq_true rfl) rfl rfl mi_X9_lose lk_RL_147 ⟨Nat.le_of_ble_eq_true rfl, Nat.le_of_ble_eq_true rfl⟩ rfl rfl (Nat.le_of_ble_eq_true rfl) dL_lose_4 (Nat.le_trans (bm hka) hla) (Nat.le_trans (bm hkb) hlb) ?_
      refine g_iconst (v := 2) B dL_lose_16 (by decide) ?_
      obtain ⟨w1, w2, w3, w4⟩ := inA h
      clear h
      subst w1
      subst w2
      subst w3
      subst w4
      exact g_iretW B hE (Nat.le_trans (Nat.le_of_eq hka) hla) (Nat.le_trans (Nat.le_of_eq hkb) hlb) dL_lose_17
    replace h := ifn q1 h
    by_cases q2 : n3 = 2
    · subst q2; replace h := ifp rfl h
      refine g_callVk (x := 2) (st := [.int 0, va_rf v2]) (xe := ⟨0, 9, 18, 15⟩) B hE ⟨[⟨0, 9, 12, 20⟩, ⟨0, 9, 15, 13⟩], [], rfl, (ca_p1 (Or.inr ⟨by decide, _, clk_20, hE.2.2.2.2.1⟩) (ca_p1 (Or.inr ⟨by decide, _, clk_13, hE.2.2.2.2.2.1⟩) ca_p0)), rfl, by decide, clk_15, cst_2⟩ (st_n B dL_lose_18 rfl (Nat.le_of_ble_eq_true rfl)) (cX9_losec (o := .error 2) h4) (Nat.le_of_ble_eq_true rfl) rfl rfl mi_X9_lose lk_RL_147 ⟨Nat.le_of_ble_eq_true rfl, Nat.le_of_ble_eq_true rfl⟩ rfl rfl (Nat.le_of_ble_eq_true rfl) dL_lose_4 (Nat.le_trans (bm hka) hla) (Nat.le_trans (bm hkb) hlb) ?_
      refine g_iconst (v := 3) B dL_lose_19 (by decide) ?_
      obtain ⟨w1, w2, w3, w4⟩ := inA h
      clear h
      subst w1
      subst w2
      subst w3
      subst w4
      exact g_iretW B hE (Nat.le_trans (Nat.le_of_eq hka) hla) (Nat.le_trans (Nat.le_of_eq hkb) hlb) dL_lose_20
    replace h := ifn q2 h
    cases h
set_option maxRecDepth 100000 in
set_option maxHeartbeats 4000000 in
theorem cL_recoverc {l : Launch} {v0 : Option Nat} {v1 : Int32} {v2 : Option Nat} {σ : HpT} {o : Except Nat (Int32)} {σ' : HpT} {a b : Nat} (h : fL_recover v0 v1 v2 σ = some (o, σ', a, b)) : CtW l yL_recover cL_recover 4 (some .int) [(0, 9, 12, 20), (0, 9, 15, 13), (0, 9, 18, 15)] 9 154 [va_rf v0, .int v1, va_rf v2] σ (oI o) σ' a b := by
  unfold fL_recover at h
  refine ctW_start miw_L_recover.1 rfl (al_le (al_1 (rf_cat _) (al_1 rfl (al_1 (rf_cat _) al_n))) (Nat.le_of_ble_eq_true rfl)) (ag_1 (rf_cat _) (ag_1 rfl (ag_1 (rf_cat _) ag_n))) (fun Δ Γ B hE => ?_)
  have hka : 0 + a = a := Nat.zero_add a
  have hkb : 0 + b = b := Nat.zero_add b
  have hla : a ≤ a := Nat.le_refl a
  have hlb : b ≤ b := Nat.le_refl b
  refine g_aload_n B 2 dL_recover_0 rfl rfl ?_
  refine g_iconst (v := 0) B dL_recover_1 (by decide) ?_
  refine g_aload_n B 0 dL_recover_2 rfl rfl ?_
  refine g_iload_n B 1 dL_recover_3 rfl rfl ?_
  replace h := bnC_s h
  rcases h with ⟨x1, s2, a5, b6, a7, b8, h4, h, ea, eb⟩ | ⟨n3, s2, a5, b6, a7, b8, h4, h, ea, eb⟩
  · subst ea; subst eb
    have hka := bk hka
    have hkb := bk hkb
    refine g_callVsA (st := [.int 0, va_rf v2]) B (cX9_recoverc (o := .ok x1) h4) (Nat.le_of_ble_eq_true rfl) rfl rfl mi_X9_recover lk_RL_150 ⟨Nat.le_of_ble_eq_true rfl, Nat.le_of_ble_eq_true rfl⟩ rfl rfl (Nat.le_of_ble_eq_true rfl) dL_recover_4 (Nat.le_trans (bm hka) hla) (Nat.le_trans (bm hkb) hlb) ?_
    refine g_i2l B dL_recover_7 ?_
    replace h := bnP_s h
    obtain ⟨s11, h10, h⟩ := h
    refine g_last B dL_recover_8 h10 ?_
    refine g_goto B 21 dL_recover_9 (by decide) ?_
    refine g_iconst (v := 0) B dL_recover_21 (by decide) ?_
    obtain ⟨w1, w2, w3, w4⟩ := inA h
    clear h
    subst w1
    subst w2
    subst w3
    subst w4
    exact g_iretW B hE (Nat.le_trans (Nat.le_of_eq hka) hla) (Nat.le_trans (Nat.le_of_eq hkb) hlb) dL_recover_22
  · subst ea; subst eb
    have hka := bk hka
    have hkb := bk hkb
    by_cases q0 : n3 = 0
    · subst q0; replace h := ifp rfl h
      refine g_callVk (x := 0) (st := [.int 0, va_rf v2]) (xe := ⟨0, 9, 12, 20⟩) B hE ⟨[], [⟨0, 9, 15, 13⟩, ⟨0, 9, 18, 15⟩], rfl, ca_p0, rfl, by decide, clk_20, cst_0⟩ (st_n B dL_recover_12 rfl (Nat.le_of_ble_eq_true rfl)) (cX9_recoverc (o := .error 0) h4) (Nat.le_of_ble_eq_true rfl) rfl rfl mi_X9_recover lk_RL_150 ⟨Nat.le_of_ble_eq_true rfl, Nat.le_of_ble_eq_true rfl⟩ rfl rfl (Nat.le_of_ble_eq_true rfl) dL_recover_4 (Nat.le_trans (bm hka) hla) (Nat.le_trans (bm hkb) hlb) ?_
      refine g_iconst (v := 1) B dL_recover_13 (by decide) ?_
      obtain ⟨w1, w2, w3, w4⟩ := inA h
      clear h
      subst w1
      subst w2
      subst w3
      subst w4
      exact g_iretW B hE (Nat.le_trans (Nat.le_of_eq hka) hla) (Nat.le_trans (Nat.le_of_eq hkb) hlb) dL_recover_14
    replace h := ifn q0 h
    by_cases q1 : n3 = 1
    · subst q1; replace h := ifp rfl h
      refine g_callVk (x := 1) (st := [.int 0, va_rf v2]) (xe := ⟨0, 9, 15, 13⟩) B hE ⟨[⟨0, 9, 12, 20⟩], [⟨0, 9, 18, 15⟩], rfl, (ca_p1 (Or.inr ⟨by decide, _, clk_20, hE.2.2.2.1⟩) ca_p0), rfl, by decide, clk_13, cst_1⟩ (st_n B dL_recover_15 rfl (Nat.le_of_ble_eq_true rfl)) (cX9_recoverc (o := .error 1) h4) (Nat.le_of_ble_eq_true rfl) rfl rfl mi_X9_recover lk_RL_150 ⟨Nat.le_of_ble_eq_true rfl, Nat.le_of_ble_eq_true rfl⟩ rfl rfl (Nat.le_of_ble_eq_true rfl) dL_recover_4 (Nat.le_trans (bm hka) hla) (Nat.le_trans (bm hkb) hlb) ?_
      refine g_iconst (v := 2) B dL_recover_16 (by decide) ?_
      obtain ⟨w1, w2, w3, w4⟩ := inA h
      clear h
      subst w1
      subst w2
      subst w3
      subst w4
      exact g_iretW B hE (Nat.le_trans (Nat.le_of_eq hka) hla) (Nat.le_trans (Nat.le_of_eq hkb) hlb) dL_recover_17
    replace h := ifn q1 h
    by_cases q2 : n3 = 2
    · subst q2; replace h := ifp rfl h
      refine g_callVk (x := 2) (st := [.int 0, va_rf v2]) (xe := ⟨0, 9, 18, 15⟩) B hE ⟨[⟨0, 9, 12, 20⟩, ⟨0, 9, 15, 13⟩], [], rfl, (ca_p1 (Or.inr ⟨by decide, _, clk_20, hE.2.2.2.2.1⟩) (ca_p1 (Or.inr ⟨by decide, _, clk_13, hE.2.2.2.2.2.1⟩) ca_p0)), rfl, by decide, clk_15, cst_2⟩ (st_n B dL_recover_18 rfl (Nat.le_of_ble_eq_true rfl)) (cX9_recoverc (o := .error 2) h4) (Nat.le_of_ble_eq_true rfl) rfl rfl mi_X9_recover lk_RL_150 ⟨Nat.le_of_ble_eq_true rfl, Nat.le_of_ble_eq_true rfl⟩ rfl rfl (Nat.le_of_ble_eq_true rfl) dL_recover_4 (Nat.le_trans (bm hka) hla) (Nat.le_trans (bm hkb) hlb) ?_
      refine g_iconst (v := 3) B dL_recover_19 (by decide) ?_
      obtain ⟨w1, w2, w3, w4⟩ := inA h
      clear h
      subst w1
      subst w2
      subst w3
      subst w4
      exact g_iretW B hE (Nat.le_trans (Nat.le_of_eq hka) hla) (Nat.le_trans (Nat.le_of_eq hkb) hlb) dL_recover_20
    replace h := ifn q2 h
    cases h
set_option maxRecDepth 100000 in
set_option maxHeartbeats 4000000 in
theorem cL_sewc {l : Launch} {v0 : Option Nat} {v1 : Int32} {v2 : Option Nat} {σ : HpT} {o : Except Nat (Int32)} {σ' : HpT} {a b : Nat} (h : fL_sew v0 v1 v2 σ = some (o, σ', a, b)) : CtW l yL_sew cL_sew 4 (some .int) [(0, 9, 12, 20), (0, 9, 15, 13), (0, 9, 18, 15)] 9 154 [va_rf v0, .int v1, va_rf v2] σ (oI o) σ' a b := by
  unfold fL_sew at h
  refine ctW_start miw_L_sew.1 rfl (al_le (al_1 (rf_cat _) (al_1 rfl (al_1 (rf_cat _) al_n))) (Nat.le_of_ble_eq_true rfl)) (ag_1 (rf_cat _) (ag_1 rfl (ag_1 (rf_cat _) ag_n))) (fun Δ Γ B hE => ?_)
  have hka : 0 + a = a := Nat.zero_add a
  have hkb : 0 + b = b := Nat.zero_add b
  have hla : a ≤ a := Nat.le_refl a
  have hlb : b ≤ b := Nat.le_refl b
  refine g_aload_n B 2 dL_sew_0 rfl rfl ?_
  refine g_iconst (v := 0) B dL_sew_1 (by decide) ?_
  refine g_aload_n B 0 dL_sew_2 rfl rfl ?_
  refine g_iload_n B 1 dL_sew_3 rfl rfl ?_
  replace h := bnC_s h
  rcases h with ⟨x1, s2, a5, b6, a7, b8, h4, h, ea, eb⟩ | ⟨n3, s2, a5, b6, a7, b8, h4, h, ea, eb⟩
  · subst ea; subst eb
    have hka := bk hka
    have hkb := bk hkb
    refine g_callVsA (st := [.int 0, va_rf v2]) B (cX9_sewc (o := .ok x1) h4) (Nat.le_of_ble_eq_true rfl) rfl rfl mi_X9_sew lk_RL_153 ⟨Nat.le_of_ble_eq_true rfl, Nat.le_of_ble_eq_true rfl⟩ rfl rfl (Nat.le_of_ble_eq_true rfl) dL_sew_4 (Nat.le_trans (bm hka) hla) (Nat.le_trans (bm hkb) hlb) ?_
    refine g_i2l B dL_sew_7 ?_
    replace h := bnP_s h
    obtain ⟨s11, h10, h⟩ := h
    refine g_last B dL_sew_8 h10 ?_
    refine g_goto B 21 dL_sew_9 (by decide) ?_
    refine g_iconst (v := 0) B dL_sew_21 (by decide) ?_
    obtain ⟨w1, w2, w3, w4⟩ := inA h
    clear h
    subst w1
    subst w2
    subst w3
    subst w4
    exact g_iretW B hE (Nat.le_trans (Nat.le_of_eq hka) hla) (Nat.le_trans (Nat.le_of_eq hkb) hlb) dL_sew_22
  · subst ea; subst eb
    have hka := bk hka
    have hkb := bk hkb
    by_cases q0 : n3 = 0
    · subst q0; replace h := ifp rfl h
      refine g_callVk (x := 0) (st := [.int 0, va_rf v2]) (xe := ⟨0, 9, 12, 20⟩) B hE ⟨[], [⟨0, 9, 15, 13⟩, ⟨0, 9, 18, 15⟩], rfl, ca_p0, rfl, by decide, clk_20, cst_0⟩ (st_n B dL_sew_12 rfl (Nat.le_of_ble_eq_true rfl)) (cX9_sewc (o := .error 0) h4) (Nat.le_of_ble_eq_true rfl) rfl rfl mi_X9_sew lk_RL_153 ⟨Nat.le_of_ble_eq_true rfl, Nat.le_of_ble_eq_true rfl⟩ rfl rfl (Nat.le_of_ble_eq_true rfl) dL_sew_4 (Nat.le_trans (bm hka) hla) (Nat.le_trans (bm hkb) hlb) ?_
      refine g_iconst (v := 1) B dL_sew_13 (by decide) ?_
      obtain ⟨w1, w2, w3, w4⟩ := inA h
      clear h
      subst w1
      subst w2
      subst w3
      subst w4
      exact g_iretW B hE (Nat.le_trans (Nat.le_of_eq hka) hla) (Nat.le_trans (Nat.le_of_eq hkb) hlb) dL_sew_14
    replace h := ifn q0 h
    by_cases q1 : n3 = 1
    · subst q1; replace h := ifp rfl h
      refine g_callVk (x := 1) (st := [.int 0, va_rf v2]) (xe := ⟨0, 9, 15, 13⟩) B hE ⟨[⟨0, 9, 12, 20⟩], [⟨0, 9, 18, 15⟩], rfl, (ca_p1 (Or.inr ⟨by decide, _, clk_20, hE.2.2.2.1⟩) ca_p0), rfl, by decide, clk_13, cst_1⟩ (st_n B dL_sew_15 rfl (Nat.le_of_ble_eq_true rfl)) (cX9_sewc (o := .error 1) h4) (Nat.le_of_ble_eq_true rfl) rfl rfl mi_X9_sew lk_RL_153 ⟨Nat.le_of_ble_eq_true rfl, Nat.le_of_ble_eq_true rfl⟩ rfl rfl (Nat.le_of_ble_eq_true rfl) dL_sew_4 (Nat.le_trans (bm hka) hla) (Nat.le_trans (bm hkb) hlb) ?_
      refine g_iconst (v := 2) B dL_sew_16 (by decide) ?_
      obtain ⟨w1, w2, w3, w4⟩ := inA h
      clear h
      subst w1
      subst w2
      subst w3
      subst w4
      exact g_iretW B hE (Nat.le_trans (Nat.le_of_eq hka) hla) (Nat.le_trans (Nat.le_of_eq hkb) hlb) dL_sew_17
    replace h := ifn q1 h
    by_cases q2 : n3 = 2
    · subst q2; replace h := ifp rfl h
      refine g_callVk (x := 2) (st := [.int 0, va_rf v2]) (xe := ⟨0, 9, 18, 15⟩) B hE ⟨[⟨0, 9, 12, 20⟩, ⟨0, 9, 15, 13⟩], [], rfl, (ca_p1 (Or.inr ⟨by decide, _, clk_20, hE.2.2.2.2.1⟩) (ca_p1 (Or.inr ⟨by decide, _, clk_13, hE.2.2.2.2.2.1⟩) ca_p0)), rfl, by decide, clk_15, cst_2⟩ (st_n B dL_sew_18 rfl (Nat.le_of_ble_eq_true rfl)) (cX9_sewc (o := .error 2) h4) (Nat.le_of_ble_eq_true rfl) rfl rfl mi_X9_sew lk_RL_153 ⟨Nat.le_of_ble_eq_true rfl, Nat.le_of_ble_eq_true rfl⟩ rfl rfl (Nat.le_of_ble_eq_true rfl) dL_sew_4 (Nat.le_trans (bm hka) hla) (Nat.le_trans (bm hkb) hlb) ?_
      refine g_iconst (v := 3) B dL_sew_19 (by decide) ?_
      obtain ⟨w1, w2, w3, w4⟩ := inA h
      clear h
      subst w1
      subst w2
      subst w3
      subst w4
      exact g_iretW B hE (Nat.le_trans (Nat.le_of_eq hka) hla) (Nat.le_trans (Nat.le_of_eq hkb) hlb) dL_sew_20
    replace h := ifn q2 h
    cases h
set_option maxRecDepth 100000 in
set_option maxHeartbeats 4000000 in
theorem cL_shakec {l : Launch} {v0 : Option Nat} {v1 : Option Nat} {σ : HpT} {o : Except Nat (Int32)} {σ' : HpT} {a b : Nat} (h : fL_shake v0 v1 σ = some (o, σ', a, b)) : CtW l yL_shake cL_shake 3 (some .int) [(0, 8, 11, 20)] 8 144 [va_rf v0, va_rf v1] σ (oI o) σ' a b := by
  unfold fL_shake at h
  refine ctW_start miw_L_shake.1 rfl (al_le (al_1 (rf_cat _) (al_1 (rf_cat _) al_n)) (Nat.le_of_ble_eq_true rfl)) (ag_1 (rf_cat _) (ag_1 (rf_cat _) ag_n)) (fun Δ Γ B hE => ?_)
  have hka : 0 + a = a := Nat.zero_add a
  have hkb : 0 + b = b := Nat.zero_add b
  have hla : a ≤ a := Nat.le_refl a
  have hlb : b ≤ b := Nat.le_refl b
  refine g_aload_n B 1 dL_shake_0 rfl rfl ?_
  refine g_iconst (v := 0) B dL_shake_1 (by decide) ?_
  refine g_aload_n B 0 dL_shake_2 rfl rfl ?_
  replace h := bnC_s h
  rcases h with ⟨x1, s2, a5, b6, a7, b8, h4, h, ea, eb⟩ | ⟨n3, s2, a5, b6, a7, b8, h4, h, ea, eb⟩
  · subst ea; subst eb
    have hka := bk hka
    have hkb := bk hkb
    refine g_callVsA (st := [.int 0, va_rf v1]) B (cX9_shakec (o := .ok x1) h4) (Nat.le_of_ble_eq_true rfl) rfl rfl mi_X9_shake lk_RL_156 ⟨Nat.le_of_ble_eq_true rfl, Nat.le_of_ble_eq_true rfl⟩ rfl rfl (Nat.le_of_ble_eq_true rfl) dL_shake_3 (Nat.le_trans (bm hka) hla) (Nat.le_trans (bm hkb) hlb) ?_
    refine g_i2l B dL_shake_6 ?_
    replace h := bnP_s h
    obtain ⟨s11, h10, h⟩ := h
    refine g_last B dL_shake_7 h10 ?_
    refine g_goto B 14 dL_shake_8 (by decide) ?_
    refine g_iconst (v := 0) B dL_shake_14 (by decide) ?_
    obtain ⟨w1, w2, w3, w4⟩ := inA h
    clear h
    subst w1
    subst w2
    subst w3
    subst w4
    exact g_iretW B hE (Nat.le_trans (Nat.le_of_eq hka) hla) (Nat.le_trans (Nat.le_of_eq hkb) hlb) dL_shake_15
  · subst ea; subst eb
    have hka := bk hka
    have hkb := bk hkb
    by_cases q0 : n3 = 0
    · subst q0; replace h := ifp rfl h
      refine g_callVk (x := 0) (st := [.int 0, va_rf v1]) (xe := ⟨0, 8, 11, 20⟩) B hE ⟨[], [], rfl, ca_p0, rfl, by decide, clk_20, cst_0⟩ (st_n B dL_shake_11 rfl (Nat.le_of_ble_eq_true rfl)) (cX9_shakec (o := .error 0) h4) (Nat.le_of_ble_eq_true rfl) rfl rfl mi_X9_shake lk_RL_156 ⟨Nat.le_of_ble_eq_true rfl, Nat.le_of_ble_eq_true rfl⟩ rfl rfl (Nat.le_of_ble_eq_true rfl) dL_shake_3 (Nat.le_trans (bm hka) hla) (Nat.le_trans (bm hkb) hlb) ?_
      refine g_iconst (v := 1) B dL_shake_12 (by decide) ?_
      obtain ⟨w1, w2, w3, w4⟩ := inA h
      clear h
      subst w1
      subst w2
      subst w3
      subst w4
      exact g_iretW B hE (Nat.le_trans (Nat.le_of_eq hka) hla) (Nat.le_trans (Nat.le_of_eq hkb) hlb) dL_shake_13
    replace h := ifn q0 h
    cases h
set_option maxRecDepth 100000 in
set_option maxHeartbeats 4000000 in
theorem cL_undoc {l : Launch} {v0 : Option Nat} {v1 : Option Nat} {σ : HpT} {o : Except Nat (Int32)} {σ' : HpT} {a b : Nat} (h : fL_undo v0 v1 σ = some (o, σ', a, b)) : CtW l yL_undo cL_undo 3 (some .int) [(0, 8, 11, 20)] 7 112 [va_rf v0, va_rf v1] σ (oI o) σ' a b := by
  unfold fL_undo at h
  refine ctW_start miw_L_undo.1 rfl (al_le (al_1 (rf_cat _) (al_1 (rf_cat _) al_n)) (Nat.le_of_ble_eq_true rfl)) (ag_1 (rf_cat _) (ag_1 (rf_cat _) ag_n)) (fun Δ Γ B hE => ?_)
  have hka : 0 + a = a := Nat.zero_add a
  have hkb : 0 + b = b := Nat.zero_add b
  have hla : a ≤ a := Nat.le_refl a
  have hlb : b ≤ b := Nat.le_refl b
  refine g_aload_n B 1 dL_undo_0 rfl rfl ?_
  refine g_iconst (v := 0) B dL_undo_1 (by decide) ?_
  refine g_aload_n B 0 dL_undo_2 rfl rfl ?_
  replace h := bnC_s h
  rcases h with ⟨x1, s2, a5, b6, a7, b8, h4, h, ea, eb⟩ | ⟨n3, s2, a5, b6, a7, b8, h4, h, ea, eb⟩
  · subst ea; subst eb
    have hka := bk hka
    have hkb := bk hkb
    refine g_callVsA (st := [.int 0, va_rf v1]) B (cX9_undoc (o := .ok x1) h4) (Nat.le_of_ble_eq_true rfl) rfl rfl mi_X9_undo lk_RL_159 ⟨Nat.le_of_ble_eq_true rfl, Nat.le_of_ble_eq_true rfl⟩ rfl rfl (Nat.le_of_ble_eq_true rfl) dL_undo_3 (Nat.le_trans (bm hka) hla) (Nat.le_trans (bm hkb) hlb) ?_
    refine g_i2l B dL_undo_6 ?_
    replace h := bnP_s h
    obtain ⟨s11, h10, h⟩ := h
    refine g_last B dL_undo_7 h10 ?_
    refine g_goto B 14 dL_undo_8 (by decide) ?_
    refine g_iconst (v := 0) B dL_undo_14 (by decide) ?_
    obtain ⟨w1, w2, w3, w4⟩ := inA h
    clear h
    subst w1
    subst w2
    subst w3
    subst w4
    exact g_iretW B hE (Nat.le_trans (Nat.le_of_eq hka) hla) (Nat.le_trans (Nat.le_of_eq hkb) hlb) dL_undo_15
  · subst ea; subst eb
    have hka := bk hka
    have hkb := bk hkb
    by_cases q0 : n3 = 0
    · subst q0; replace h := ifp rfl h
      refine g_callVk (x := 0) (st := [.int 0, va_rf v1]) (xe := ⟨0, 8, 11, 20⟩) B hE ⟨[], [], rfl, ca_p0, rfl, by decide, clk_20, cst_0⟩ (st_n B dL_undo_11 rfl (Nat.le_of_ble_eq_true rfl)) (cX9_undoc (o := .error 0) h4) (Nat.le_of_ble_eq_true rfl) rfl rfl mi_X9_undo lk_RL_159 ⟨Nat.le_of_ble_eq_true rfl, Nat.le_of_ble_eq_true rfl⟩ rfl rfl (Nat.le_of_ble_eq_true rfl) dL_undo_3 (Nat.le_trans (bm hka) hla) (Nat.le_trans (bm hkb) hlb) ?_
      refine g_iconst (v := 1) B dL_undo_12 (by decide) ?_
      obtain ⟨w1, w2, w3, w4⟩ := inA h
      clear h
      subst w1
      subst w2
      subst w3
      subst w4
      exact g_iretW B hE (Nat.le_trans (Nat.le_of_eq hka) hla) (Nat.le_trans (Nat.le_of_eq hkb) hlb) dL_undo_13
    replace h := ifn q0 h
    cases h
set_option maxRecDepth 100000 in
set_option maxHeartbeats 4000000 in
theorem cL_savec {l : Launch} {v0 : Option Nat} {v1 : Int32} {v2 : Option Nat} {σ : HpT} {o : Except Nat (Int32)} {σ' : HpT} {a b : Nat} (h : fL_save v0 v1 v2 σ = some (o, σ', a, b)) : CtW l yL_save cL_save 4 (some .int) [(0, 9, 12, 20), (0, 9, 15, 13)] 8 131 [va_rf v0, .int v1, va_rf v2] σ (oI o) σ' a b := by
  unfold fL_save at h
  refine ctW_start miw_L_save.1 rfl (al_le (al_1 (rf_cat _) (al_1 rfl (al_1 (rf_cat _) al_n))) (Nat.le_of_ble_eq_true rfl)) (ag_1 (rf_cat _) (ag_1 rfl (ag_1 (rf_cat _) ag_n))) (fun Δ Γ B hE => ?_)
  have hka : 0 + a = a := Nat.zero_add a
  have hkb : 0 + b = b := Nat.zero_add b
  have hla : a ≤ a := Nat.le_refl a
  have hlb : b ≤ b := Nat.le_refl b
  refine g_aload_n B 2 dL_save_0 rfl rfl ?_
  refine g_iconst (v := 0) B dL_save_1 (by decide) ?_
  refine g_aload_n B 0 dL_save_2 rfl rfl ?_
  refine g_iload_n B 1 dL_save_3 rfl rfl ?_
  replace h := bnC_s h
  rcases h with ⟨x1, s2, a5, b6, a7, b8, h4, h, ea, eb⟩ | ⟨n3, s2, a5, b6, a7, b8, h4, h, ea, eb⟩
  · subst ea; subst eb
    have hka := bk hka
    have hkb := bk hkb
    refine g_callVsA (st := [.int 0, va_rf v2]) B (cX9_savec (o := .ok x1) h4) (Nat.le_of_ble_eq_true rfl) rfl rfl mi_X9_save lk_RL_162 ⟨Nat.le_of_ble_eq_true rfl, Nat.le_of_ble_eq_true rfl⟩ rfl rfl (Nat.le_of_ble_eq_true rfl) dL_save_4 (Nat.le_trans (bm hka) hla) (Nat.le_trans (bm hkb) hlb) ?_
    refine g_i2l B dL_save_7 ?_
    replace h := bnP_s h
    obtain ⟨s11, h10, h⟩ := h
    refine g_last B dL_save_8 h10 ?_
    refine g_goto B 18 dL_save_9 (by decide) ?_
    refine g_iconst (v := 0) B dL_save_18 (by decide) ?_
    obtain ⟨w1, w2, w3, w4⟩ := inA h
    clear h
    subst w1
    subst w2
    subst w3
    subst w4
    exact g_iretW B hE (Nat.le_trans (Nat.le_of_eq hka) hla) (Nat.le_trans (Nat.le_of_eq hkb) hlb) dL_save_19
  · subst ea; subst eb
    have hka := bk hka
    have hkb := bk hkb
    by_cases q0 : n3 = 0
    · subst q0; replace h := ifp rfl h
      refine g_callVk (x := 0) (st := [.int 0, va_rf v2]) (xe := ⟨0, 9, 12, 20⟩) B hE ⟨[], [⟨0, 9, 15, 13⟩], rfl, ca_p0, rfl, by decide, clk_20, cst_0⟩ (st_n B dL_save_12 rfl (Nat.le_of_ble_eq_true rfl)) (cX9_savec (o := .error 0) h4) (Nat.le_of_ble_eq_true rfl) rfl rfl mi_X9_save lk_RL_162 ⟨Nat.le_of_ble_eq_true rfl, Nat.le_of_ble_eq_true rfl⟩ rfl rfl (Nat.le_of_ble_eq_true rfl) dL_save_4 (Nat.le_trans (bm hka) hla) (Nat.le_trans (bm hkb) hlb) ?_
      refine g_iconst (v := 1) B dL_save_13 (by decide) ?_
      obtain ⟨w1, w2, w3, w4⟩ := inA h
      clear h
      subst w1
      subst w2
      subst w3
      subst w4
      exact g_iretW B hE (Nat.le_trans (Nat.le_of_eq hka) hla) (Nat.le_trans (Nat.le_of_eq hkb) hlb) dL_save_14
    replace h := ifn q0 h
    by_cases q1 : n3 = 1
    · subst q1; replace h := ifp rfl h
      refine g_callVk (x := 1) (st := [.int 0, va_rf v2]) (xe := ⟨0, 9, 15, 13⟩) B hE ⟨[⟨0, 9, 12, 20⟩], [], rfl, (ca_p1 (Or.inr ⟨by decide, _, clk_20, hE.2.2.2.1⟩) ca_p0), rfl, by decide, clk_13, cst_1⟩ (st_n B dL_save_15 rfl (Nat.le_of_ble_eq_true rfl)) (cX9_savec (o := .error 1) h4) (Nat.le_of_ble_eq_true rfl) rfl rfl mi_X9_save lk_RL_162 ⟨Nat.le_of_ble_eq_true rfl, Nat.le_of_ble_eq_true rfl⟩ rfl rfl (Nat.le_of_ble_eq_true rfl) dL_save_4 (Nat.le_trans (bm hka) hla) (Nat.le_trans (bm hkb) hlb) ?_
      refine g_iconst (v := 2) B dL_save_16 (by decide) ?_
      obtain ⟨w1, w2, w3, w4⟩ := inA h
      clear h
      subst w1
      subst w2
      subst w3
      subst w4
      exact g_iretW B hE (Nat.le_trans (Nat.le_of_eq hka) hla) (Nat.le_trans (Nat.le_of_eq hkb) hlb) dL_save_17
    replace h := ifn q1 h
    cases h
set_option maxRecDepth 100000 in
set_option maxHeartbeats 4000000 in
theorem cL_restorec {l : Launch} {v0 : Option Nat} {v1 : Int32} {v2 : Option Nat} {σ : HpT} {o : Except Nat (Int32)} {σ' : HpT} {a b : Nat} (h : fL_restore v0 v1 v2 σ = some (o, σ', a, b)) : CtW l yL_restore cL_restore 4 (some .int) [(0, 9, 12, 13), (0, 9, 15, 20)] 8 131 [va_rf v0, .int v1, va_rf v2] σ (oI o) σ' a b := by
  unfold fL_restore at h
  refine ctW_start miw_L_restore.1 rfl (al_le (al_1 (rf_cat _) (al_1 rfl (al_1 (rf_cat _) al_n))) (Nat.le_of_ble_eq_true rfl)) (ag_1 (rf_cat _) (ag_1 rfl (ag_1 (rf_cat _) ag_n))) (fun Δ Γ B hE => ?_)
  have hka : 0 + a = a := Nat.zero_add a
  have hkb : 0 + b = b := Nat.zero_add b
  have hla : a ≤ a := Nat.le_refl a
  have hlb : b ≤ b := Nat.le_refl b
  refine g_aload_n B 2 dL_restore_0 rfl rfl ?_
  refine g_iconst (v := 0) B dL_restore_1 (by decide) ?_
  refine g_aload_n B 0 dL_restore_2 rfl rfl ?_
  refine g_iload_n B 1 dL_restore_3 rfl rfl ?_
  replace h := bnC_s h
  rcases h with ⟨x1, s2, a5, b6, a7, b8, h4, h, ea, eb⟩ | ⟨n3, s2, a5, b6, a7, b8, h4, h, ea, eb⟩
  · subst ea; subst eb
    have hka := bk hka
    have hkb := bk hkb
    refine g_callVsA (st := [.int 0, va_rf v2]) B (cX9_restorec (o := .ok x1) h4) (Nat.le_of_ble_eq_true rfl) rfl rfl mi_X9_restore lk_RL_165 ⟨Nat.le_of_ble_eq_true rfl, Nat.le_of_ble_eq_true rfl⟩ rfl rfl (Nat.le_of_ble_eq_true rfl) dL_restore_4 (Nat.le_trans (bm hka) hla) (Nat.le_trans (bm hkb) hlb) ?_
    refine g_i2l B dL_restore_7 ?_
    replace h := bnP_s h
    obtain ⟨s11, h10, h⟩ := h
    refine g_last B dL_restore_8 h10 ?_
    refine g_goto B 18 dL_restore_9 (by decide) ?_
    refine g_iconst (v := 0) B dL_restore_18 (by decide) ?_
    obtain ⟨w1, w2, w3, w4⟩ := inA h
    clear h
    subst w1
    subst w2
    subst w3
    subst w4
    exact g_iretW B hE (Nat.le_trans (Nat.le_of_eq hka) hla) (Nat.le_trans (Nat.le_of_eq hkb) hlb) dL_restore_19
  · subst ea; subst eb
    have hka := bk hka
    have hkb := bk hkb
    by_cases q1 : n3 = 1
    · subst q1; replace h := ifp rfl h
      refine g_callVk (x := 1) (st := [.int 0, va_rf v2]) (xe := ⟨0, 9, 12, 13⟩) B hE ⟨[], [⟨0, 9, 15, 20⟩], rfl, ca_p0, rfl, by decide, clk_13, cst_1⟩ (st_n B dL_restore_12 rfl (Nat.le_of_ble_eq_true rfl)) (cX9_restorec (o := .error 1) h4) (Nat.le_of_ble_eq_true rfl) rfl rfl mi_X9_restore lk_RL_165 ⟨Nat.le_of_ble_eq_true rfl, Nat.le_of_ble_eq_true rfl⟩ rfl rfl (Nat.le_of_ble_eq_true rfl) dL_restore_4 (Nat.le_trans (bm hka) hla) (Nat.le_trans (bm hkb) hlb) ?_
      refine g_iconst (v := 1) B dL_restore_13 (by decide) ?_
      obtain ⟨w1, w2, w3, w4⟩ := inA h
      clear h
      subst w1
      subst w2
      subst w3
      subst w4
      exact g_iretW B hE (Nat.le_trans (Nat.le_of_eq hka) hla) (Nat.le_trans (Nat.le_of_eq hkb) hlb) dL_restore_14
    replace h := ifn q1 h
    by_cases q0 : n3 = 0
    · subst q0; replace h := ifp rfl h
      refine g_callVk (x := 0) (st := [.int 0, va_rf v2]) (xe := ⟨0, 9, 15, 20⟩) B hE ⟨[⟨0, 9, 12, 13⟩], [], rfl, (ca_p1 (Or.inr ⟨by decide, _, clk_13, hE.2.2.2.2.2.2⟩) ca_p0), rfl, by decide, clk_20, cst_0⟩ (st_n B dL_restore_15 rfl (Nat.le_of_ble_eq_true rfl)) (cX9_restorec (o := .error 0) h4) (Nat.le_of_ble_eq_true rfl) rfl rfl mi_X9_restore lk_RL_165 ⟨Nat.le_of_ble_eq_true rfl, Nat.le_of_ble_eq_true rfl⟩ rfl rfl (Nat.le_of_ble_eq_true rfl) dL_restore_4 (Nat.le_trans (bm hka) hla) (Nat.le_trans (bm hkb) hlb) ?_
      refine g_iconst (v := 2) B dL_restore_16 (by decide) ?_
      obtain ⟨w1, w2, w3, w4⟩ := inA h
      clear h
      subst w1
      subst w2
      subst w3
      subst w4
      exact g_iretW B hE (Nat.le_trans (Nat.le_of_eq hka) hla) (Nat.le_trans (Nat.le_of_eq hkb) hlb) dL_restore_17
    replace h := ifn q0 h
    cases h
