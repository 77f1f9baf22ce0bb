theorem mi_X1_beginAct : MI yX1_beginAct cX1_beginAct 4 none 2 := ⟨by decide +kernel, (mw (i := 849) (by decide +kernel) rfl), (mw (i := 163) (by decide +kernel) rfl), by decide +kernel, by decide +kernel⟩
theorem mi_X1_canInsert : MI yX1_canInsert cX1_canInsert 3 (some .boolean) 1 := ⟨by decide +kernel, (mw (i := 955) (by decide +kernel) rfl), (mw (i := 163) (by decide +kernel) rfl), by decide +kernel, by decide +kernel⟩
theorem mi_X1_cancelOpen : MI yX1_cancelOpen cX1_cancelOpen 2 none 0 := ⟨by decide +kernel, (mw (i := 998) (by decide +kernel) rfl), (mw (i := 163) (by decide +kernel) rfl), by decide +kernel, by decide +kernel⟩
theorem mi_X1_cashGap : MI yX1_cashGap cX1_cashGap 3 (some .int) 0 := ⟨by decide +kernel, (mw (i := 1314) (by decide +kernel) rfl), (mw (i := 163) (by decide +kernel) rfl), by decide +kernel, by decide +kernel⟩
theorem mi_X1_insertWord : MI yX1_insertWord cX1_insertWord 5 none 2 := ⟨by decide +kernel, (mw (i := 959) (by decide +kernel) rfl), (mw (i := 163) (by decide +kernel) rfl), by decide +kernel, by decide +kernel⟩
theorem mi_X1_numbersGap : MI yX1_numbersGap cX1_numbersGap 3 (some .int) 0 := ⟨by decide +kernel, (mw (i := 1318) (by decide +kernel) rfl), (mw (i := 163) (by decide +kernel) rfl), by decide +kernel, by decide +kernel⟩
theorem mi_X1_sealOpen : MI yX1_sealOpen cX1_sealOpen 3 (some .int) 1 := ⟨by decide +kernel, (mw (i := 985) (by decide +kernel) rfl), (mw (i := 163) (by decide +kernel) rfl), by decide +kernel, by decide +kernel⟩
theorem mi_X1_sealReason : MI yX1_sealReason cX1_sealReason 4 (some .int) 2 := ⟨by decide +kernel, (mw (i := 973) (by decide +kernel) rfl), (mw (i := 163) (by decide +kernel) rfl), by decide +kernel, by decide +kernel⟩
theorem mi_X1_standingGap : MI yX1_standingGap cX1_standingGap 4 (some .int) 0 := ⟨by decide +kernel, (mw (i := 1305) (by decide +kernel) rfl), (mw (i := 163) (by decide +kernel) rfl), by decide +kernel, by decide +kernel⟩
theorem mi_X1_strikeAround : MI yX1_strikeAround cX1_strikeAround 3 (some .int) 1 := ⟨by decide +kernel, (mw (i := 945) (by decide +kernel) rfl), (mw (i := 163) (by decide +kernel) rfl), by decide +kernel, by decide +kernel⟩
theorem mi_X1_strikeReason : MI yX1_strikeReason cX1_strikeReason 3 (some .int) 1 := ⟨by decide +kernel, (mw (i := 904) (by decide +kernel) rfl), (mw (i := 163) (by decide +kernel) rfl), by decide +kernel, by decide +kernel⟩
theorem mi_X1_strikeWord : MI yX1_strikeWord cX1_strikeWord 3 none 1 := ⟨by decide +kernel, (mw (i := 908) (by decide +kernel) rfl), (mw (i := 163) (by decide +kernel) rfl), by decide +kernel, by decide +kernel⟩
theorem mi_X1_wordsGap : MI yX1_wordsGap cX1_wordsGap 3 (some .int) 0 := ⟨by decide +kernel, (mw (i := 1298) (by decide +kernel) rfl), (mw (i := 163) (by decide +kernel) rfl), by decide +kernel, by decide +kernel⟩
theorem mi_X4_bringBack : MI yX4_bringBack cX4_bringBack 3 none 1 := ⟨by decide +kernel, (mw (i := 1061) (by decide +kernel) rfl), (mw (i := 165) (by decide +kernel) rfl), by decide +kernel, by decide +kernel⟩
theorem mi_X4_countOf : MI yX4_countOf cX4_countOf 4 (some .int) 1 := ⟨by decide +kernel, (mw (i := 1124) (by decide +kernel) rfl), (mw (i := 165) (by decide +kernel) rfl), by decide +kernel, by decide +kernel⟩
theorem mi_X4_drop : MI yX4_drop cX4_drop 2 none 1 := ⟨by decide +kernel, (mw (i := 1057) (by decide +kernel) rfl), (mw (i := 165) (by decide +kernel) rfl), by decide +kernel, by decide +kernel⟩
theorem mi_X4_dropLoose : MI yX4_dropLoose cX4_dropLoose 3 (some .int) 0 := ⟨by decide +kernel, (mw (i := 1041) (by decide +kernel) rfl), (mw (i := 165) (by decide +kernel) rfl), by decide +kernel, by decide +kernel⟩
theorem mi_X4_extendTo : MI yX4_extendTo cX4_extendTo 3 none 1 := ⟨by decide +kernel, (mw (i := 881) (by decide +kernel) rfl), (mw (i := 165) (by decide +kernel) rfl), by decide +kernel, by decide +kernel⟩
theorem mi_X4_isLoose : MI yX4_isLoose cX4_isLoose 2 (some .boolean) 1 := ⟨by decide +kernel, (mw (i := 1066) (by decide +kernel) rfl), (mw (i := 165) (by decide +kernel) rfl), by decide +kernel, by decide +kernel⟩
theorem mi_X4_loosenMateOf : MI yX4_loosenMateOf cX4_loosenMateOf 3 none 1 := ⟨by decide +kernel, (mw (i := 1045) (by decide +kernel) rfl), (mw (i := 165) (by decide +kernel) rfl), by decide +kernel, by decide +kernel⟩
theorem mi_X4_mateOf : MI yX4_mateOf cX4_mateOf 4 (some .int) 1 := ⟨by decide +kernel, (mw (i := 885) (by decide +kernel) rfl), (mw (i := 165) (by decide +kernel) rfl), by decide +kernel, by decide +kernel⟩
theorem mi_X4_stateOf : MI yX4_stateOf cX4_stateOf 2 (some .int) 1 := ⟨by decide +kernel, (mw (i := 1233) (by decide +kernel) rfl), (mw (i := 165) (by decide +kernel) rfl), by decide +kernel, by decide +kernel⟩
theorem mi_X5_fail : MI yX5_fail cX5_fail 2 (some .boolean) 1 := ⟨by decide +kernel, (mw (i := 795) (by decide +kernel) rfl), (mw (i := 169) (by decide +kernel) rfl), by decide +kernel, by decide +kernel⟩
theorem mi_X5_init : MI yX5_init cX5_init 1 none 0 := ⟨by decide +kernel, (mw (i := 441) (by decide +kernel) rfl), (mw (i := 169) (by decide +kernel) rfl), by decide +kernel, by decide +kernel⟩
theorem mi_X7_init : MI yX7_init cX7_init 1 none 0 := ⟨by decide +kernel, (mw (i := 447) (by decide +kernel) rfl), (mw (i := 170) (by decide +kernel) rfl), by decide +kernel, by decide +kernel⟩
theorem mi_X7_readWord : MI yX7_readWord cX7_readWord 1 none 0 := ⟨by decide +kernel, (mw (i := 718) (by decide +kernel) rfl), (mw (i := 170) (by decide +kernel) rfl), by decide +kernel, by decide +kernel⟩
theorem mi_X8_insert : MI yX8_insert cX8_insert 4 none 2 := ⟨by decide +kernel, (mw (i := 964) (by decide +kernel) rfl), (mw (i := 164) (by decide +kernel) rfl), by decide +kernel, by decide +kernel⟩
theorem mi_X8_standingByClauses : MI yX8_standingByClauses cX8_standingByClauses 7 (some .int) 2 := ⟨by decide +kernel, (mw (i := 1309) (by decide +kernel) rfl), (mw (i := 164) (by decide +kernel) rfl), by decide +kernel, by decide +kernel⟩
theorem mi_X8_strikeFrom : MI yX8_strikeFrom cX8_strikeFrom 5 (some .int) 2 := ⟨by decide +kernel, (mw (i := 912) (by decide +kernel) rfl), (mw (i := 164) (by decide +kernel) rfl), by decide +kernel, by decide +kernel⟩
theorem mi_X9_isLetter : MI yX9_isLetter cX9_isLetter 1 (some .boolean) 1 := ⟨by decide +kernel, (mw (i := 714) (by decide +kernel) rfl), (mw (i := 162) (by decide +kernel) rfl), by decide +kernel, by decide +kernel⟩
theorem mi_X9_joined : MI yX9_joined cX9_joined 3 (some .long) 2 := ⟨by decide +kernel, (mw (i := 721) (by decide +kernel) rfl), (mw (i := 162) (by decide +kernel) rfl), by decide +kernel, by decide +kernel⟩
theorem fl_RX1_181 : Fg RX1 181 8 4 := ⟨RX8, TX8, 7, rfl, by decide, rfl, lay_8, (mw (i := 231) (by decide +kernel) rfl)⟩
theorem fl_RX1_191 : Fl RX1 191 2 0 .int false := ⟨RX2, TX2, 4, tyX2, rfl, by decide, rfl, lay_2, (mw (i := 288) (by decide +kernel) rfl), tyX2_ok, nmX2, tyX2_ok 0 (by decide), rfl, by decide, by decide⟩
theorem fl_RX1_192 : Fl RX1 192 2 1 .int false := ⟨RX2, TX2, 4, tyX2, rfl, by decide, rfl, lay_2, (mw (i := 291) (by decide +kernel) rfl), tyX2_ok, nmX2, tyX2_ok 1 (by decide), rfl, by decide, by decide⟩
theorem fl_RX1_193 : Fg RX1 193 8 5 := ⟨RX8, TX8, 7, rfl, by decide, rfl, lay_8, (mw (i := 235) (by decide +kernel) rfl)⟩
theorem fl_RX1_210 : Fl RX1 210 0 7 .int false := ⟨RX0, TX0, 8, tyX0, rfl, by decide, rfl, lay_0, (mw (i := 365) (by decide +kernel) rfl), tyX0_ok, nmX0, tyX0_ok 7 (by decide), rfl, by decide, by decide⟩
theorem fl_RX1_212 : Fl RX1 212 0 3 .int false := ⟨RX0, TX0, 8, tyX0, rfl, by decide, rfl, lay_0, (mw (i := 347) (by decide +kernel) rfl), tyX0_ok, nmX0, tyX0_ok 3 (by decide), rfl, by decide, by decide⟩
theorem fl_RX1_221 : Fl RX1 221 0 0 .int false := ⟨RX0, TX0, 8, tyX0, rfl, by decide, rfl, lay_0, (mw (i := 339) (by decide +kernel) rfl), tyX0_ok, nmX0, tyX0_ok 0 (by decide), rfl, by decide, by decide⟩
theorem fl_RX5_12 : Fl RX5 12 5 3 (.object "NotaryBook$Scanner") true := ⟨RX5, TX5, 5, tyX5, rfl, by decide, rfl, lay_5, (mw (i := 482) (by decide +kernel) rfl), tyX5_ok, nmX5, tyX5_ok 3 (by decide), rfl, by decide, fun _ => rfl⟩
theorem fl_RX5_18 : Fl RX5 18 5 0 .int false := ⟨RX5, TX5, 5, tyX5, rfl, by decide, rfl, lay_5, (mw (i := 476) (by decide +kernel) rfl), tyX5_ok, nmX5, tyX5_ok 0 (by decide), rfl, by decide, by decide⟩
theorem fl_RX5_22 : Fl RX5 22 7 4 .int false := ⟨RX7, TX7, 7, tyX7, rfl, by decide, rfl, lay_7, (mw (i := 455) (by decide +kernel) rfl), tyX7_ok, nmX7, tyX7_ok 4 (by decide), rfl, by decide, by decide⟩
theorem fl_RX5_25 : Fl RX5 25 5 1 .int false := ⟨RX5, TX5, 5, tyX5, rfl, by decide, rfl, lay_5, (mw (i := 478) (by decide +kernel) rfl), tyX5_ok, nmX5, tyX5_ok 1 (by decide), rfl, by decide, by decide⟩
theorem fl_RX7_9 : Fl RX7 9 7 0 (.array .byte) false := ⟨RX7, TX7, 7, tyX7, rfl, by decide, rfl, lay_7, (mw (i := 449) (by decide +kernel) rfl), tyX7_ok, nmX7, tyX7_ok 0 (by decide), rfl, by decide, by decide⟩
theorem fl_RX7_21 : Fl RX7 21 7 2 .int false := ⟨RX7, TX7, 7, tyX7, rfl, by decide, rfl, lay_7, (mw (i := 451) (by decide +kernel) rfl), tyX7_ok, nmX7, tyX7_ok 2 (by decide), rfl, by decide, by decide⟩
theorem fl_RX7_25 : Fl RX7 25 7 1 .int false := ⟨RX7, TX7, 7, tyX7, rfl, by decide, rfl, lay_7, (mw (i := 450) (by decide +kernel) rfl), tyX7_ok, nmX7, tyX7_ok 1 (by decide), rfl, by decide, by decide⟩
theorem fl_RX7_31 : Fl RX7 31 7 4 .int false := ⟨RX7, TX7, 7, tyX7, rfl, by decide, rfl, lay_7, (mw (i := 456) (by decide +kernel) rfl), tyX7_ok, nmX7, tyX7_ok 4 (by decide), rfl, by decide, by decide⟩
theorem fl_RX7_34 : Fl RX7 34 7 3 .int false := ⟨RX7, TX7, 7, tyX7, rfl, by decide, rfl, lay_7, (mw (i := 454) (by decide +kernel) rfl), tyX7_ok, nmX7, tyX7_ok 3 (by decide), rfl, by decide, by decide⟩
theorem fl_RX7_54 : Fl RX7 54 7 6 .long false := ⟨RX7, TX7, 7, tyX7, rfl, by decide, rfl, lay_7, (mw (i := 460) (by decide +kernel) rfl), tyX7_ok, nmX7, tyX7_ok 6 (by decide), rfl, by decide, by decide⟩
theorem lk_RX1_164 : LV RX1 164 yX1_mostWords := ⟨(mw (i := 850) (by decide +kernel) rfl), (mw (i := 834) (by decide +kernel) rfl), (mw (i := 835) (by decide +kernel) rfl)⟩
theorem lk_RX1_167 : LV RX1 167 yX4_fasten := ⟨(mw (i := 866) (by decide +kernel) rfl), (mw (i := 867) (by decide +kernel) rfl), (mw (i := 868) (by decide +kernel) rfl)⟩
theorem lk_RX1_171 : LV RX1 171 yX0_start := ⟨(mw (i := 870) (by decide +kernel) rfl), (mw (i := 871) (by decide +kernel) rfl), (mw (i := 872) (by decide +kernel) rfl)⟩
theorem lk_RX1_175 : LV RX1 175 yX1_leavesOf := ⟨(mw (i := 874) (by decide +kernel) rfl), (mw (i := 875) (by decide +kernel) rfl), (mw (i := 876) (by decide +kernel) rfl)⟩
theorem lk_RX1_178 : LV RX1 178 yX4_extendTo := ⟨(mw (i := 878) (by decide +kernel) rfl), (mw (i := 879) (by decide +kernel) rfl), (mw (i := 880) (by decide +kernel) rfl)⟩
theorem lk_RX1_185 : LV RX1 185 yX8_strikeFrom := ⟨(mw (i := 909) (by decide +kernel) rfl), (mw (i := 910) (by decide +kernel) rfl), (mw (i := 911) (by decide +kernel) rfl)⟩
theorem lk_RX1_188 : LV RX1 188 yX1_seekClauseAround := ⟨(mw (i := 946) (by decide +kernel) rfl), (mw (i := 923) (by decide +kernel) rfl), (mw (i := 924) (by decide +kernel) rfl)⟩
theorem lk_RX1_197 : LV RX1 197 yX1_canInsert := ⟨(mw (i := 960) (by decide +kernel) rfl), (mw (i := 953) (by decide +kernel) rfl), (mw (i := 954) (by decide +kernel) rfl)⟩
theorem lk_RX1_200 : LV RX1 200 yX8_insert := ⟨(mw (i := 961) (by decide +kernel) rfl), (mw (i := 962) (by decide +kernel) rfl), (mw (i := 963) (by decide +kernel) rfl)⟩
theorem lk_RX1_204 : LV RX1 204 yX1_openStanding := ⟨(mw (i := 974) (by decide +kernel) rfl), (mw (i := 975) (by decide +kernel) rfl), (mw (i := 976) (by decide +kernel) rfl)⟩
theorem lk_RX1_207 : LV RX1 207 yX0_baseFee := ⟨(mw (i := 986) (by decide +kernel) rfl), (mw (i := 987) (by decide +kernel) rfl), (mw (i := 988) (by decide +kernel) rfl)⟩
theorem lk_RX1_218 : LV RX1 218 yX8_standingByClauses := ⟨(mw (i := 1306) (by decide +kernel) rfl), (mw (i := 1307) (by decide +kernel) rfl), (mw (i := 1308) (by decide +kernel) rfl)⟩
theorem lk_RX4_36 : LV RX4 36 yX4_gatheringOf := ⟨(mw (i := 886) (by decide +kernel) rfl), (mw (i := 887) (by decide +kernel) rfl), (mw (i := 888) (by decide +kernel) rfl)⟩
theorem lk_RX4_40 : LV RX4 40 yX4_loosenMateOf := ⟨(mw (i := 1042) (by decide +kernel) rfl), (mw (i := 1044) (by decide +kernel) rfl), (mw (i := 22) (by decide +kernel) rfl)⟩
theorem lk_RX4_44 : LV RX4 44 yX4_mateOf := ⟨(mw (i := 882) (by decide +kernel) rfl), (mw (i := 883) (by decide +kernel) rfl), (mw (i := 884) (by decide +kernel) rfl)⟩
theorem lk_RX4_47 : LV RX4 47 yX4_fasten := ⟨(mw (i := 1062) (by decide +kernel) rfl), (mw (i := 867) (by decide +kernel) rfl), (mw (i := 868) (by decide +kernel) rfl)⟩
theorem lk_RX4_50 : LV RX4 50 yX4_isLoose := ⟨(mw (i := 1063) (by decide +kernel) rfl), (mw (i := 1064) (by decide +kernel) rfl), (mw (i := 1065) (by decide +kernel) rfl)⟩
theorem lk_RX4_53 : LV RX4 53 yX4_isLost := ⟨(mw (i := 890) (by decide +kernel) rfl), (mw (i := 852) (by decide +kernel) rfl), (mw (i := 853) (by decide +kernel) rfl)⟩
theorem lk_RX5_11 : LNI RX5 "NotaryBook" 11 yX7_init := ⟨(mn (i := 445) (by decide +kernel) rfl), (mw (i := 446) (by decide +kernel) rfl), rfl⟩
theorem lk_RX7_37 : LNS RX7 "NotaryBook" 37 yX9_isLetter := ⟨(mn (i := 712) (by decide +kernel) rfl), (mw (i := 713) (by decide +kernel) rfl)⟩
theorem lk_RX7_58 : LNS RX7 "NotaryBook" 58 yX9_joined := ⟨(mn (i := 719) (by decide +kernel) rfl), (mw (i := 720) (by decide +kernel) rfl)⟩
theorem lk_RX8_46 : LV RX8 46 yX8_standingFrom := ⟨(mw (i := 1310) (by decide +kernel) rfl), (mw (i := 979) (by decide +kernel) rfl), (mw (i := 980) (by decide +kernel) rfl)⟩
theorem nw_RX5_9 : NW RX5 9 7 := ⟨RX7, TX7, 7, tyX7, rfl, rfl, lay_7, tyX7_ok, (mw (i := 443) (by decide +kernel) rfl), (mw (i := 444) (by decide +kernel) rfl), (mw (i := 170) (by decide +kernel) rfl), by decide, dv_7⟩
theorem mt_RX1_215 : MTW RX1 215 Lib.Math.abs.name Lib.Math.abs.code 1 := ⟨(mw (i := 1299) (by decide +kernel) rfl), (mw (i := 1300) (by decide +kernel) rfl), (mw (i := 181) (by decide +kernel) rfl), (mw (i := 1301) (by decide +kernel) rfl)⟩
theorem obj_RX5_3 : OBW RX5 3 := ⟨(mw (i := 442) (by decide +kernel) rfl), (mw (i := 198) (by decide +kernel) rfl), (mw (i := 199) (by decide +kernel) rfl)⟩
theorem obj_RX7_3 : OBW RX7 3 := ⟨(mw (i := 448) (by decide +kernel) rfl), (mw (i := 198) (by decide +kernel) rfl), (mw (i := 199) (by decide +kernel) rfl)⟩
theorem dX4_mateOf_0 : decode cX4_mateOf 0 = .ok (.aload_n 0, 1) := by decide +kernel
theorem dX4_mateOf_1 : decode cX4_mateOf 1 = .ok (.iload_n 1, 1) := by decide +kernel
theorem dX4_mateOf_2 : decode cX4_mateOf 2 = .ok (.invokevirtual 36, 3) := by decide +kernel
theorem dX4_mateOf_5 : decode cX4_mateOf 5 = .ok (.aload_n 0, 1) := by decide +kernel
theorem dX4_mateOf_6 : decode cX4_mateOf 6 = .ok (.getfield 19, 3) := by decide +kernel
theorem dX4_mateOf_9 : decode cX4_mateOf 9 = .ok (.imul, 1) := by decide +kernel
theorem dX4_mateOf_10 : decode cX4_mateOf 10 = .ok (.istore_n 2, 1) := by decide +kernel
theorem dX4_mateOf_11 : decode cX4_mateOf 11 = .ok (.iload_n 2, 1) := by decide +kernel
theorem dX4_mateOf_12 : decode cX4_mateOf 12 = .ok (.aload_n 0, 1) := by decide +kernel
theorem dX4_mateOf_13 : decode cX4_mateOf 13 = .ok (.getfield 19, 3) := by decide +kernel
theorem dX4_mateOf_16 : decode cX4_mateOf 16 = .ok (.iadd, 1) := by decide +kernel
theorem dX4_mateOf_17 : decode cX4_mateOf 17 = .ok (.iconst 1, 1) := by decide +kernel
theorem dX4_mateOf_18 : decode cX4_mateOf 18 = .ok (.isub, 1) := by decide +kernel
theorem dX4_mateOf_19 : decode cX4_mateOf 19 = .ok (.iload_n 1, 1) := by decide +kernel
theorem dX4_mateOf_20 : decode cX4_mateOf 20 = .ok (.iload_n 2, 1) := by decide +kernel
theorem dX4_mateOf_21 : decode cX4_mateOf 21 = .ok (.isub, 1) := by decide +kernel
theorem dX4_mateOf_22 : decode cX4_mateOf 22 = .ok (.isub, 1) := by decide +kernel
theorem dX4_mateOf_23 : decode cX4_mateOf 23 = .ok (.istore_n 3, 1) := by decide +kernel
theorem dX4_mateOf_24 : decode cX4_mateOf 24 = .ok (.iload_n 3, 1) := by decide +kernel
theorem dX4_mateOf_25 : decode cX4_mateOf 25 = .ok (.iload_n 1, 1) := by decide +kernel
theorem dX4_mateOf_26 : decode cX4_mateOf 26 = .ok (.if_icmp .eq 15, 3) := by decide +kernel
theorem dX4_mateOf_29 : decode cX4_mateOf 29 = .ok (.aload_n 0, 1) := by decide +kernel
theorem dX4_mateOf_30 : decode cX4_mateOf 30 = .ok (.iload_n 3, 1) := by decide +kernel
theorem dX4_mateOf_31 : decode cX4_mateOf 31 = .ok (.invokevirtual 32, 3) := by decide +kernel
theorem dX4_mateOf_34 : decode cX4_mateOf 34 = .ok (.ifCond .eq 7, 3) := by decide +kernel
theorem dX4_mateOf_37 : decode cX4_mateOf 37 = .ok (.iload_n 3, 1) := by decide +kernel
theorem dX4_mateOf_38 : decode cX4_mateOf 38 = .ok (.goto 4, 3) := by decide +kernel
theorem dX4_mateOf_41 : decode cX4_mateOf 41 = .ok (.iconst (-1), 1) := by decide +kernel
theorem dX4_mateOf_42 : decode cX4_mateOf 42 = .ok (.ireturn, 1) := by decide +kernel
theorem dX4_extendTo_0 : decode cX4_extendTo 0 = .ok (.aload_n 0, 1) := by decide +kernel
theorem dX4_extendTo_1 : decode cX4_extendTo 1 = .ok (.getfield 23, 3) := by decide +kernel
theorem dX4_extendTo_4 : decode cX4_extendTo 4 = .ok (.iload_n 1, 1) := by decide +kernel
theorem dX4_extendTo_5 : decode cX4_extendTo 5 = .ok (.if_icmp .ge 60, 3) := by decide +kernel
theorem dX4_extendTo_8 : decode cX4_extendTo 8 = .ok (.aload_n 0, 1) := by decide +kernel
theorem dX4_extendTo_9 : decode cX4_extendTo 9 = .ok (.getfield 23, 3) := by decide +kernel
theorem dX4_extendTo_12 : decode cX4_extendTo 12 = .ok (.bipush 12, 2) := by decide +kernel
theorem dX4_extendTo_14 : decode cX4_extendTo 14 = .ok (.if_icmp .ge 51, 3) := by decide +kernel
theorem dX4_extendTo_17 : decode cX4_extendTo 17 = .ok (.aload_n 0, 1) := by decide +kernel
theorem dX4_extendTo_18 : decode cX4_extendTo 18 = .ok (.dup, 1) := by decide +kernel
theorem dX4_extendTo_19 : decode cX4_extendTo 19 = .ok (.getfield 23, 3) := by decide +kernel
theorem dX4_extendTo_22 : decode cX4_extendTo 22 = .ok (.iconst 1, 1) := by decide +kernel
theorem dX4_extendTo_23 : decode cX4_extendTo 23 = .ok (.iadd, 1) := by decide +kernel
theorem dX4_extendTo_24 : decode cX4_extendTo 24 = .ok (.putfield 23, 3) := by decide +kernel
theorem dX4_extendTo_27 : decode cX4_extendTo 27 = .ok (.aload_n 0, 1) := by decide +kernel
theorem dX4_extendTo_28 : decode cX4_extendTo 28 = .ok (.aload_n 0, 1) := by decide +kernel
theorem dX4_extendTo_29 : decode cX4_extendTo 29 = .ok (.aload_n 0, 1) := by decide +kernel
theorem dX4_extendTo_30 : decode cX4_extendTo 30 = .ok (.getfield 23, 3) := by decide +kernel
theorem dX4_extendTo_33 : decode cX4_extendTo 33 = .ok (.iconst 1, 1) := by decide +kernel
theorem dX4_extendTo_34 : decode cX4_extendTo 34 = .ok (.isub, 1) := by decide +kernel
theorem dX4_extendTo_35 : decode cX4_extendTo 35 = .ok (.invokevirtual 44, 3) := by decide +kernel
theorem dX4_extendTo_38 : decode cX4_extendTo 38 = .ok (.invokevirtual 53, 3) := by decide +kernel
theorem dX4_extendTo_41 : decode cX4_extendTo 41 = .ok (.istore_n 2, 1) := by decide +kernel
theorem dX4_extendTo_42 : decode cX4_extendTo 42 = .ok (.aload_n 0, 1) := by decide +kernel
theorem dX4_extendTo_43 : decode cX4_extendTo 43 = .ok (.getfield 11, 3) := by decide +kernel
theorem dX4_extendTo_46 : decode cX4_extendTo 46 = .ok (.aload_n 0, 1) := by decide +kernel
theorem dX4_extendTo_47 : decode cX4_extendTo 47 = .ok (.getfield 23, 3) := by decide +kernel
theorem dX4_extendTo_50 : decode cX4_extendTo 50 = .ok (.iconst 1, 1) := by decide +kernel
theorem dX4_extendTo_51 : decode cX4_extendTo 51 = .ok (.isub, 1) := by decide +kernel
theorem dX4_extendTo_52 : decode cX4_extendTo 52 = .ok (.iload_n 2, 1) := by decide +kernel
theorem dX4_extendTo_53 : decode cX4_extendTo 53 = .ok (.ifCond .eq 7, 3) := by decide +kernel
theorem dX4_extendTo_56 : decode cX4_extendTo 56 = .ok (.iconst 1, 1) := by decide +kernel
theorem dX4_extendTo_57 : decode cX4_extendTo 57 = .ok (.goto 4, 3) := by decide +kernel
theorem dX4_extendTo_60 : decode cX4_extendTo 60 = .ok (.iconst 0, 1) := by decide +kernel
theorem dX4_extendTo_61 : decode cX4_extendTo 61 = .ok (.iastore, 1) := by decide +kernel
theorem dX4_extendTo_62 : decode cX4_extendTo 62 = .ok (.goto (-62), 3) := by decide +kernel
theorem dX4_extendTo_65 : decode cX4_extendTo 65 = .ok (.return_, 1) := by decide +kernel
theorem dX1_beginAct_0 : decode cX1_beginAct 0 = .ok (.aload_n 0, 1) := by decide +kernel
theorem dX1_beginAct_1 : decode cX1_beginAct 1 = .ok (.getfield 55, 3) := by decide +kernel
theorem dX1_beginAct_4 : decode cX1_beginAct 4 = .ok (.bipush 10, 2) := by decide +kernel
theorem dX1_beginAct_6 : decode cX1_beginAct 6 = .ok (.if_icmp .ge 19, 3) := by decide +kernel
theorem dX1_beginAct_9 : decode cX1_beginAct 9 = .ok (.aload_n 0, 1) := by decide +kernel
theorem dX1_beginAct_10 : decode cX1_beginAct 10 = .ok (.getfield 24, 3) := by decide +kernel
theorem dX1_beginAct_13 : decode cX1_beginAct 13 = .ok (.getfield 80, 3) := by decide +kernel
theorem dX1_beginAct_16 : decode cX1_beginAct 16 = .ok (.iload_n 2, 1) := by decide +kernel
theorem dX1_beginAct_17 : decode cX1_beginAct 17 = .ok (.iadd, 1) := by decide +kernel
theorem dX1_beginAct_18 : decode cX1_beginAct 18 = .ok (.aload_n 0, 1) := by decide +kernel
theorem dX1_beginAct_19 : decode cX1_beginAct 19 = .ok (.invokevirtual 164, 3) := by decide +kernel
theorem dX1_beginAct_22 : decode cX1_beginAct 22 = .ok (.if_icmp .le 4, 3) := by decide +kernel
theorem dX1_beginAct_25 : decode cX1_beginAct 25 = .ok (.return_, 1) := by decide +kernel
theorem dX1_beginAct_26 : decode cX1_beginAct 26 = .ok (.aload_n 0, 1) := by decide +kernel
theorem dX1_beginAct_27 : decode cX1_beginAct 27 = .ok (.getfield 31, 3) := by decide +kernel
theorem dX1_beginAct_30 : decode cX1_beginAct 30 = .ok (.getfield 83, 3) := by decide +kernel
theorem dX1_beginAct_33 : decode cX1_beginAct 33 = .ok (.iconst 1, 1) := by decide +kernel
theorem dX1_beginAct_34 : decode cX1_beginAct 34 = .ok (.isub, 1) := by decide +kernel
theorem dX1_beginAct_35 : decode cX1_beginAct 35 = .ok (.istore_n 3, 1) := by decide +kernel
theorem dX1_beginAct_36 : decode cX1_beginAct 36 = .ok (.aload_n 0, 1) := by decide +kernel
theorem dX1_beginAct_37 : decode cX1_beginAct 37 = .ok (.getfield 31, 3) := by decide +kernel
theorem dX1_beginAct_40 : decode cX1_beginAct 40 = .ok (.iload_n 3, 1) := by decide +kernel
theorem dX1_beginAct_41 : decode cX1_beginAct 41 = .ok (.invokevirtual 136, 3) := by decide +kernel
theorem dX1_beginAct_44 : decode cX1_beginAct 44 = .ok (.ifCond .eq 23, 3) := by decide +kernel
theorem dX1_beginAct_47 : decode cX1_beginAct 47 = .ok (.aload_n 0, 1) := by decide +kernel
theorem dX1_beginAct_48 : decode cX1_beginAct 48 = .ok (.iload_n 3, 1) := by decide +kernel
theorem dX1_beginAct_49 : decode cX1_beginAct 49 = .ok (.invokevirtual 146, 3) := by decide +kernel
theorem dX1_beginAct_52 : decode cX1_beginAct 52 = .ok (.aload_n 0, 1) := by decide +kernel
theorem dX1_beginAct_53 : decode cX1_beginAct 53 = .ok (.getfield 48, 3) := by decide +kernel
theorem dX1_beginAct_56 : decode cX1_beginAct 56 = .ok (.if_icmp .ge 11, 3) := by decide +kernel
theorem dX1_beginAct_59 : decode cX1_beginAct 59 = .ok (.aload_n 0, 1) := by decide +kernel
theorem dX1_beginAct_60 : decode cX1_beginAct 60 = .ok (.getfield 31, 3) := by decide +kernel
theorem dX1_beginAct_63 : decode cX1_beginAct 63 = .ok (.iload_n 3, 1) := by decide +kernel
theorem dX1_beginAct_64 : decode cX1_beginAct 64 = .ok (.invokevirtual 167, 3) := by decide +kernel
theorem dX1_beginAct_67 : decode cX1_beginAct 67 = .ok (.aload_n 0, 1) := by decide +kernel
theorem dX1_beginAct_68 : decode cX1_beginAct 68 = .ok (.getfield 11, 3) := by decide +kernel
theorem dX1_beginAct_71 : decode cX1_beginAct 71 = .ok (.aload_n 0, 1) := by decide +kernel
theorem dX1_beginAct_72 : decode cX1_beginAct 72 = .ok (.getfield 55, 3) := by decide +kernel
theorem dX1_beginAct_75 : decode cX1_beginAct 75 = .ok (.aaload, 1) := by decide +kernel
theorem dX1_beginAct_76 : decode cX1_beginAct 76 = .ok (.aload_n 0, 1) := by decide +kernel
theorem dX1_beginAct_77 : decode cX1_beginAct 77 = .ok (.getfield 55, 3) := by decide +kernel
theorem dX1_beginAct_80 : decode cX1_beginAct 80 = .ok (.iconst 1, 1) := by decide +kernel
theorem dX1_beginAct_81 : decode cX1_beginAct 81 = .ok (.iadd, 1) := by decide +kernel
theorem dX1_beginAct_82 : decode cX1_beginAct 82 = .ok (.iload_n 1, 1) := by decide +kernel
theorem dX1_beginAct_83 : decode cX1_beginAct 83 = .ok (.aload_n 0, 1) := by decide +kernel
theorem dX1_beginAct_84 : decode cX1_beginAct 84 = .ok (.getfield 24, 3) := by decide +kernel
theorem dX1_beginAct_87 : decode cX1_beginAct 87 = .ok (.getfield 80, 3) := by decide +kernel
theorem dX1_beginAct_90 : decode cX1_beginAct 90 = .ok (.iload_n 2, 1) := by decide +kernel
theorem dX1_beginAct_91 : decode cX1_beginAct 91 = .ok (.invokevirtual 171, 3) := by decide +kernel
theorem dX1_beginAct_94 : decode cX1_beginAct 94 = .ok (.aload_n 0, 1) := by decide +kernel
theorem dX1_beginAct_95 : decode cX1_beginAct 95 = .ok (.dup, 1) := by decide +kernel
theorem dX1_beginAct_96 : decode cX1_beginAct 96 = .ok (.getfield 55, 3) := by decide +kernel
theorem dX1_beginAct_99 : decode cX1_beginAct 99 = .ok (.iconst 1, 1) := by decide +kernel
theorem dX1_beginAct_100 : decode cX1_beginAct 100 = .ok (.iadd, 1) := by decide +kernel
theorem dX1_beginAct_101 : decode cX1_beginAct 101 = .ok (.putfield 55, 3) := by decide +kernel
theorem dX1_beginAct_104 : decode cX1_beginAct 104 = .ok (.aload_n 0, 1) := by decide +kernel
theorem dX1_beginAct_105 : decode cX1_beginAct 105 = .ok (.getfield 24, 3) := by decide +kernel
theorem dX1_beginAct_108 : decode cX1_beginAct 108 = .ok (.dup, 1) := by decide +kernel
theorem dX1_beginAct_109 : decode cX1_beginAct 109 = .ok (.getfield 80, 3) := by decide +kernel
theorem dX1_beginAct_112 : decode cX1_beginAct 112 = .ok (.iload_n 2, 1) := by decide +kernel
theorem dX1_beginAct_113 : decode cX1_beginAct 113 = .ok (.iadd, 1) := by decide +kernel
theorem dX1_beginAct_114 : decode cX1_beginAct 114 = .ok (.putfield 80, 3) := by decide +kernel
theorem dX1_beginAct_117 : decode cX1_beginAct 117 = .ok (.aload_n 0, 1) := by decide +kernel
theorem dX1_beginAct_118 : decode cX1_beginAct 118 = .ok (.getfield 31, 3) := by decide +kernel
theorem dX1_beginAct_121 : decode cX1_beginAct 121 = .ok (.aload_n 0, 1) := by decide +kernel
theorem dX1_beginAct_122 : decode cX1_beginAct 122 = .ok (.aload_n 0, 1) := by decide +kernel
theorem dX1_beginAct_123 : decode cX1_beginAct 123 = .ok (.getfield 24, 3) := by decide +kernel
theorem dX1_beginAct_126 : decode cX1_beginAct 126 = .ok (.getfield 80, 3) := by decide +kernel
theorem dX1_beginAct_129 : decode cX1_beginAct 129 = .ok (.invokevirtual 175, 3) := by decide +kernel
theorem dX1_beginAct_132 : decode cX1_beginAct 132 = .ok (.invokevirtual 178, 3) := by decide +kernel
theorem dX1_beginAct_135 : decode cX1_beginAct 135 = .ok (.return_, 1) := by decide +kernel
theorem dX1_strikeReason_0 : decode cX1_strikeReason 0 = .ok (.aload_n 0, 1) := by decide +kernel
theorem dX1_strikeReason_1 : decode cX1_strikeReason 1 = .ok (.invokevirtual 87, 3) := by decide +kernel
theorem dX1_strikeReason_4 : decode cX1_strikeReason 4 = .ok (.astore_n 2, 1) := by decide +kernel
theorem dX1_strikeReason_5 : decode cX1_strikeReason 5 = .ok (.aload_n 2, 1) := by decide +kernel
theorem dX1_strikeReason_6 : decode cX1_strikeReason 6 = .ok (.ifnonnull 5, 3) := by decide +kernel
theorem dX1_strikeReason_9 : decode cX1_strikeReason 9 = .ok (.iconst 1, 1) := by decide +kernel
theorem dX1_strikeReason_10 : decode cX1_strikeReason 10 = .ok (.ireturn, 1) := by decide +kernel
theorem dX1_strikeReason_11 : decode cX1_strikeReason 11 = .ok (.iload_n 1, 1) := by decide +kernel
theorem dX1_strikeReason_12 : decode cX1_strikeReason 12 = .ok (.ifCond .lt 11, 3) := by decide +kernel
theorem dX1_strikeReason_15 : decode cX1_strikeReason 15 = .ok (.iload_n 1, 1) := by decide +kernel
theorem dX1_strikeReason_16 : decode cX1_strikeReason 16 = .ok (.aload_n 2, 1) := by decide +kernel
theorem dX1_strikeReason_17 : decode cX1_strikeReason 17 = .ok (.getfield 91, 3) := by decide +kernel
theorem dX1_strikeReason_20 : decode cX1_strikeReason 20 = .ok (.if_icmp .lt 5, 3) := by decide +kernel
theorem dX1_strikeReason_23 : decode cX1_strikeReason 23 = .ok (.iconst 2, 1) := by decide +kernel
theorem dX1_strikeReason_24 : decode cX1_strikeReason 24 = .ok (.ireturn, 1) := by decide +kernel
theorem dX1_strikeReason_25 : decode cX1_strikeReason 25 = .ok (.aload_n 0, 1) := by decide +kernel
theorem dX1_strikeReason_26 : decode cX1_strikeReason 26 = .ok (.getfield 24, 3) := by decide +kernel
theorem dX1_strikeReason_29 : decode cX1_strikeReason 29 = .ok (.getfield 181, 3) := by decide +kernel
theorem dX1_strikeReason_32 : decode cX1_strikeReason 32 = .ok (.aload_n 2, 1) := by decide +kernel
theorem dX1_strikeReason_33 : decode cX1_strikeReason 33 = .ok (.getfield 92, 3) := by decide +kernel
theorem dX1_strikeReason_36 : decode cX1_strikeReason 36 = .ok (.iload_n 1, 1) := by decide +kernel
theorem dX1_strikeReason_37 : decode cX1_strikeReason 37 = .ok (.iadd, 1) := by decide +kernel
theorem dX1_strikeReason_38 : decode cX1_strikeReason 38 = .ok (.baload, 1) := by decide +kernel
theorem dX1_strikeReason_39 : decode cX1_strikeReason 39 = .ok (.ifCond .eq 7, 3) := by decide +kernel
theorem dX1_strikeReason_42 : decode cX1_strikeReason 42 = .ok (.iconst 3, 1) := by decide +kernel
theorem dX1_strikeReason_43 : decode cX1_strikeReason 43 = .ok (.goto 4, 3) := by decide +kernel
theorem dX1_strikeReason_46 : decode cX1_strikeReason 46 = .ok (.iconst 0, 1) := by decide +kernel
theorem dX1_strikeReason_47 : decode cX1_strikeReason 47 = .ok (.ireturn, 1) := by decide +kernel
theorem dX8_strikeFrom_0 : decode cX8_strikeFrom 0 = .ok (.aload_n 0, 1) := by decide +kernel
theorem dX8_strikeFrom_1 : decode cX8_strikeFrom 1 = .ok (.iload_n 1, 1) := by decide +kernel
theorem dX8_strikeFrom_2 : decode cX8_strikeFrom 2 = .ok (.iload_n 2, 1) := by decide +kernel
theorem dX8_strikeFrom_3 : decode cX8_strikeFrom 3 = .ok (.invokevirtual 42, 3) := by decide +kernel
theorem dX8_strikeFrom_6 : decode cX8_strikeFrom 6 = .ok (.istore_n 3, 1) := by decide +kernel
theorem dX8_strikeFrom_7 : decode cX8_strikeFrom 7 = .ok (.iload_n 1, 1) := by decide +kernel
theorem dX8_strikeFrom_8 : decode cX8_strikeFrom 8 = .ok (.istore 4, 2) := by decide +kernel
theorem dX8_strikeFrom_10 : decode cX8_strikeFrom 10 = .ok (.iload 4, 2) := by decide +kernel
theorem dX8_strikeFrom_12 : decode cX8_strikeFrom 12 = .ok (.iload_n 1, 1) := by decide +kernel
theorem dX8_strikeFrom_13 : decode cX8_strikeFrom 13 = .ok (.iload_n 2, 1) := by decide +kernel
theorem dX8_strikeFrom_14 : decode cX8_strikeFrom 14 = .ok (.iadd, 1) := by decide +kernel
theorem dX8_strikeFrom_15 : decode cX8_strikeFrom 15 = .ok (.if_icmp .ge 17, 3) := by decide +kernel
theorem dX8_strikeFrom_18 : decode cX8_strikeFrom 18 = .ok (.aload_n 0, 1) := by decide +kernel
theorem dX8_strikeFrom_19 : decode cX8_strikeFrom 19 = .ok (.getfield 22, 3) := by decide +kernel
theorem dX8_strikeFrom_22 : decode cX8_strikeFrom 22 = .ok (.iload 4, 2) := by decide +kernel
theorem dX8_strikeFrom_24 : decode cX8_strikeFrom 24 = .ok (.iconst 1, 1) := by decide +kernel
theorem dX8_strikeFrom_25 : decode cX8_strikeFrom 25 = .ok (.bastore, 1) := by decide +kernel
theorem dX8_strikeFrom_26 : decode cX8_strikeFrom 26 = .ok (.iinc 4 1, 3) := by decide +kernel
theorem dX8_strikeFrom_29 : decode cX8_strikeFrom 29 = .ok (.goto (-19), 3) := by decide +kernel
theorem dX8_strikeFrom_32 : decode cX8_strikeFrom 32 = .ok (.iload_n 3, 1) := by decide +kernel
theorem dX8_strikeFrom_33 : decode cX8_strikeFrom 33 = .ok (.ireturn, 1) := by decide +kernel
theorem dX1_strikeWord_0 : decode cX1_strikeWord 0 = .ok (.aload_n 0, 1) := by decide +kernel
theorem dX1_strikeWord_1 : decode cX1_strikeWord 1 = .ok (.invokevirtual 87, 3) := by decide +kernel
theorem dX1_strikeWord_4 : decode cX1_strikeWord 4 = .ok (.astore_n 2, 1) := by decide +kernel
theorem dX1_strikeWord_5 : decode cX1_strikeWord 5 = .ok (.aload_n 2, 1) := by decide +kernel
theorem dX1_strikeWord_6 : decode cX1_strikeWord 6 = .ok (.ifnull 40, 3) := by decide +kernel
theorem dX1_strikeWord_9 : decode cX1_strikeWord 9 = .ok (.iload_n 1, 1) := by decide +kernel
theorem dX1_strikeWord_10 : decode cX1_strikeWord 10 = .ok (.ifCond .lt 36, 3) := by decide +kernel
theorem dX1_strikeWord_13 : decode cX1_strikeWord 13 = .ok (.iload_n 1, 1) := by decide +kernel
theorem dX1_strikeWord_14 : decode cX1_strikeWord 14 = .ok (.aload_n 2, 1) := by decide +kernel
theorem dX1_strikeWord_15 : decode cX1_strikeWord 15 = .ok (.getfield 91, 3) := by decide +kernel
theorem dX1_strikeWord_18 : decode cX1_strikeWord 18 = .ok (.if_icmp .ge 28, 3) := by decide +kernel
theorem dX1_strikeWord_21 : decode cX1_strikeWord 21 = .ok (.aload_n 0, 1) := by decide +kernel
theorem dX1_strikeWord_22 : decode cX1_strikeWord 22 = .ok (.getfield 24, 3) := by decide +kernel
theorem dX1_strikeWord_25 : decode cX1_strikeWord 25 = .ok (.aload_n 2, 1) := by decide +kernel
theorem dX1_strikeWord_26 : decode cX1_strikeWord 26 = .ok (.getfield 92, 3) := by decide +kernel
theorem dX1_strikeWord_29 : decode cX1_strikeWord 29 = .ok (.iload_n 1, 1) := by decide +kernel
theorem dX1_strikeWord_30 : decode cX1_strikeWord 30 = .ok (.iadd, 1) := by decide +kernel
theorem dX1_strikeWord_31 : decode cX1_strikeWord 31 = .ok (.iconst 1, 1) := by decide +kernel
theorem dX1_strikeWord_32 : decode cX1_strikeWord 32 = .ok (.invokevirtual 185, 3) := by decide +kernel
theorem dX1_strikeWord_35 : decode cX1_strikeWord 35 = .ok (.pop, 1) := by decide +kernel
theorem dX1_strikeWord_36 : decode cX1_strikeWord 36 = .ok (.aload_n 2, 1) := by decide +kernel
theorem dX1_strikeWord_37 : decode cX1_strikeWord 37 = .ok (.dup, 1) := by decide +kernel
theorem dX1_strikeWord_38 : decode cX1_strikeWord 38 = .ok (.getfield 99, 3) := by decide +kernel
theorem dX1_strikeWord_41 : decode cX1_strikeWord 41 = .ok (.iconst 1, 1) := by decide +kernel
theorem dX1_strikeWord_42 : decode cX1_strikeWord 42 = .ok (.iadd, 1) := by decide +kernel
theorem dX1_strikeWord_43 : decode cX1_strikeWord 43 = .ok (.putfield 99, 3) := by decide +kernel
theorem dX1_strikeWord_46 : decode cX1_strikeWord 46 = .ok (.return_, 1) := by decide +kernel
theorem dX1_strikeAround_0 : decode cX1_strikeAround 0 = .ok (.aload_n 0, 1) := by decide +kernel
theorem dX1_strikeAround_1 : decode cX1_strikeAround 1 = .ok (.invokevirtual 87, 3) := by decide +kernel
theorem dX1_strikeAround_4 : decode cX1_strikeAround 4 = .ok (.astore_n 2, 1) := by decide +kernel
theorem dX1_strikeAround_5 : decode cX1_strikeAround 5 = .ok (.aload_n 2, 1) := by decide +kernel
theorem dX1_strikeAround_6 : decode cX1_strikeAround 6 = .ok (.ifnull 11, 3) := by decide +kernel
theorem dX1_strikeAround_9 : decode cX1_strikeAround 9 = .ok (.aload_n 0, 1) := by decide +kernel
theorem dX1_strikeAround_10 : decode cX1_strikeAround 10 = .ok (.iload_n 1, 1) := by decide +kernel
theorem dX1_strikeAround_11 : decode cX1_strikeAround 11 = .ok (.invokevirtual 188, 3) := by decide +kernel
theorem dX1_strikeAround_14 : decode cX1_strikeAround 14 = .ok (.ifCond .ne 5, 3) := by decide +kernel
theorem dX1_strikeAround_17 : decode cX1_strikeAround 17 = .ok (.iconst 0, 1) := by decide +kernel
theorem dX1_strikeAround_18 : decode cX1_strikeAround 18 = .ok (.ireturn, 1) := by decide +kernel
theorem dX1_strikeAround_19 : decode cX1_strikeAround 19 = .ok (.aload_n 2, 1) := by decide +kernel
theorem dX1_strikeAround_20 : decode cX1_strikeAround 20 = .ok (.dup, 1) := by decide +kernel
theorem dX1_strikeAround_21 : decode cX1_strikeAround 21 = .ok (.getfield 99, 3) := by decide +kernel
theorem dX1_strikeAround_24 : decode cX1_strikeAround 24 = .ok (.iconst 1, 1) := by decide +kernel
theorem dX1_strikeAround_25 : decode cX1_strikeAround 25 = .ok (.iadd, 1) := by decide +kernel
theorem dX1_strikeAround_26 : decode cX1_strikeAround 26 = .ok (.putfield 99, 3) := by decide +kernel
theorem dX1_strikeAround_29 : decode cX1_strikeAround 29 = .ok (.aload_n 0, 1) := by decide +kernel
theorem dX1_strikeAround_30 : decode cX1_strikeAround 30 = .ok (.getfield 24, 3) := by decide +kernel
theorem dX1_strikeAround_33 : decode cX1_strikeAround 33 = .ok (.aload_n 0, 1) := by decide +kernel
theorem dX1_strikeAround_34 : decode cX1_strikeAround 34 = .ok (.getfield 38, 3) := by decide +kernel
theorem dX1_strikeAround_37 : decode cX1_strikeAround 37 = .ok (.getfield 191, 3) := by decide +kernel
theorem dX1_strikeAround_40 : decode cX1_strikeAround 40 = .ok (.aload_n 0, 1) := by decide +kernel
theorem dX1_strikeAround_41 : decode cX1_strikeAround 41 = .ok (.getfield 38, 3) := by decide +kernel
theorem dX1_strikeAround_44 : decode cX1_strikeAround 44 = .ok (.getfield 192, 3) := by decide +kernel
theorem dX1_strikeAround_47 : decode cX1_strikeAround 47 = .ok (.invokevirtual 185, 3) := by decide +kernel
theorem dX1_strikeAround_50 : decode cX1_strikeAround 50 = .ok (.ireturn, 1) := by decide +kernel
theorem dX1_canInsert_0 : decode cX1_canInsert 0 = .ok (.aload_n 0, 1) := by decide +kernel
theorem dX1_canInsert_1 : decode cX1_canInsert 1 = .ok (.invokevirtual 87, 3) := by decide +kernel
theorem dX1_canInsert_4 : decode cX1_canInsert 4 = .ok (.astore_n 2, 1) := by decide +kernel
theorem dX1_canInsert_5 : decode cX1_canInsert 5 = .ok (.aload_n 2, 1) := by decide +kernel
theorem dX1_canInsert_6 : decode cX1_canInsert 6 = .ok (.ifnull 37, 3) := by decide +kernel
theorem dX1_canInsert_9 : decode cX1_canInsert 9 = .ok (.iload_n 1, 1) := by decide +kernel
theorem dX1_canInsert_10 : decode cX1_canInsert 10 = .ok (.ifCond .lt 33, 3) := by decide +kernel
theorem dX1_canInsert_13 : decode cX1_canInsert 13 = .ok (.iload_n 1, 1) := by decide +kernel
theorem dX1_canInsert_14 : decode cX1_canInsert 14 = .ok (.aload_n 2, 1) := by decide +kernel
theorem dX1_canInsert_15 : decode cX1_canInsert 15 = .ok (.getfield 91, 3) := by decide +kernel
theorem dX1_canInsert_18 : decode cX1_canInsert 18 = .ok (.if_icmp .ge 25, 3) := by decide +kernel
theorem dX1_canInsert_21 : decode cX1_canInsert 21 = .ok (.aload_n 0, 1) := by decide +kernel
theorem dX1_canInsert_22 : decode cX1_canInsert 22 = .ok (.getfield 24, 3) := by decide +kernel
theorem dX1_canInsert_25 : decode cX1_canInsert 25 = .ok (.getfield 193, 3) := by decide +kernel
theorem dX1_canInsert_28 : decode cX1_canInsert 28 = .ok (.aload_n 2, 1) := by decide +kernel
theorem dX1_canInsert_29 : decode cX1_canInsert 29 = .ok (.getfield 92, 3) := by decide +kernel
theorem dX1_canInsert_32 : decode cX1_canInsert 32 = .ok (.iload_n 1, 1) := by decide +kernel
theorem dX1_canInsert_33 : decode cX1_canInsert 33 = .ok (.iadd, 1) := by decide +kernel
theorem dX1_canInsert_34 : decode cX1_canInsert 34 = .ok (.iaload, 1) := by decide +kernel
theorem dX1_canInsert_35 : decode cX1_canInsert 35 = .ok (.iconst 4, 1) := by decide +kernel
theorem dX1_canInsert_36 : decode cX1_canInsert 36 = .ok (.if_icmp .ge 7, 3) := by decide +kernel
theorem dX1_canInsert_39 : decode cX1_canInsert 39 = .ok (.iconst 1, 1) := by decide +kernel
theorem dX1_canInsert_40 : decode cX1_canInsert 40 = .ok (.goto 4, 3) := by decide +kernel
theorem dX1_canInsert_43 : decode cX1_canInsert 43 = .ok (.iconst 0, 1) := by decide +kernel
theorem dX1_canInsert_44 : decode cX1_canInsert 44 = .ok (.ireturn, 1) := by decide +kernel
theorem dX8_insert_0 : decode cX8_insert 0 = .ok (.aload_n 0, 1) := by decide +kernel
theorem dX8_insert_1 : decode cX8_insert 1 = .ok (.getfield 26, 3) := by decide +kernel
theorem dX8_insert_4 : decode cX8_insert 4 = .ok (.iload_n 1, 1) := by decide +kernel
theorem dX8_insert_5 : decode cX8_insert 5 = .ok (.iaload, 1) := by decide +kernel
theorem dX8_insert_6 : decode cX8_insert 6 = .ok (.iconst 4, 1) := by decide +kernel
theorem dX8_insert_7 : decode cX8_insert 7 = .ok (.if_icmp .ge 29, 3) := by decide +kernel
theorem dX8_insert_10 : decode cX8_insert 10 = .ok (.aload_n 0, 1) := by decide +kernel
theorem dX8_insert_11 : decode cX8_insert 11 = .ok (.getfield 29, 3) := by decide +kernel
theorem dX8_insert_14 : decode cX8_insert 14 = .ok (.iload_n 1, 1) := by decide +kernel
theorem dX8_insert_15 : decode cX8_insert 15 = .ok (.iconst 4, 1) := by decide +kernel
theorem dX8_insert_16 : decode cX8_insert 16 = .ok (.imul, 1) := by decide +kernel
theorem dX8_insert_17 : decode cX8_insert 17 = .ok (.aload_n 0, 1) := by decide +kernel
theorem dX8_insert_18 : decode cX8_insert 18 = .ok (.getfield 26, 3) := by decide +kernel
theorem dX8_insert_21 : decode cX8_insert 21 = .ok (.iload_n 1, 1) := by decide +kernel
theorem dX8_insert_22 : decode cX8_insert 22 = .ok (.iaload, 1) := by decide +kernel
theorem dX8_insert_23 : decode cX8_insert 23 = .ok (.iadd, 1) := by decide +kernel
theorem dX8_insert_24 : decode cX8_insert 24 = .ok (.lload_n 2, 1) := by decide +kernel
theorem dX8_insert_25 : decode cX8_insert 25 = .ok (.lastore, 1) := by decide +kernel
theorem dX8_insert_26 : decode cX8_insert 26 = .ok (.aload_n 0, 1) := by decide +kernel
theorem dX8_insert_27 : decode cX8_insert 27 = .ok (.getfield 26, 3) := by decide +kernel
theorem dX8_insert_30 : decode cX8_insert 30 = .ok (.iload_n 1, 1) := by decide +kernel
theorem dX8_insert_31 : decode cX8_insert 31 = .ok (.dup2, 1) := by decide +kernel
theorem dX8_insert_32 : decode cX8_insert 32 = .ok (.iaload, 1) := by decide +kernel
theorem dX8_insert_33 : decode cX8_insert 33 = .ok (.iconst 1, 1) := by decide +kernel
theorem dX8_insert_34 : decode cX8_insert 34 = .ok (.iadd, 1) := by decide +kernel
theorem dX8_insert_35 : decode cX8_insert 35 = .ok (.iastore, 1) := by decide +kernel
theorem dX8_insert_36 : decode cX8_insert 36 = .ok (.return_, 1) := by decide +kernel
theorem dX1_insertWord_0 : decode cX1_insertWord 0 = .ok (.aload_n 0, 1) := by decide +kernel
theorem dX1_insertWord_1 : decode cX1_insertWord 1 = .ok (.invokevirtual 87, 3) := by decide +kernel
theorem dX1_insertWord_4 : decode cX1_insertWord 4 = .ok (.astore 4, 2) := by decide +kernel
theorem dX1_insertWord_6 : decode cX1_insertWord 6 = .ok (.aload 4, 2) := by decide +kernel
theorem dX1_insertWord_8 : decode cX1_insertWord 8 = .ok (.ifnull 37, 3) := by decide +kernel
theorem dX1_insertWord_11 : decode cX1_insertWord 11 = .ok (.aload_n 0, 1) := by decide +kernel
theorem dX1_insertWord_12 : decode cX1_insertWord 12 = .ok (.iload_n 1, 1) := by decide +kernel
theorem dX1_insertWord_13 : decode cX1_insertWord 13 = .ok (.invokevirtual 197, 3) := by decide +kernel
theorem dX1_insertWord_16 : decode cX1_insertWord 16 = .ok (.ifCond .eq 29, 3) := by decide +kernel
theorem dX1_insertWord_19 : decode cX1_insertWord 19 = .ok (.aload_n 0, 1) := by decide +kernel
theorem dX1_insertWord_20 : decode cX1_insertWord 20 = .ok (.getfield 24, 3) := by decide +kernel
theorem dX1_insertWord_23 : decode cX1_insertWord 23 = .ok (.aload 4, 2) := by decide +kernel
theorem dX1_insertWord_25 : decode cX1_insertWord 25 = .ok (.getfield 92, 3) := by decide +kernel
theorem dX1_insertWord_28 : decode cX1_insertWord 28 = .ok (.iload_n 1, 1) := by decide +kernel
theorem dX1_insertWord_29 : decode cX1_insertWord 29 = .ok (.iadd, 1) := by decide +kernel
theorem dX1_insertWord_30 : decode cX1_insertWord 30 = .ok (.lload_n 2, 1) := by decide +kernel
theorem dX1_insertWord_31 : decode cX1_insertWord 31 = .ok (.invokevirtual 200, 3) := by decide +kernel
theorem dX1_insertWord_34 : decode cX1_insertWord 34 = .ok (.aload 4, 2) := by decide +kernel
theorem dX1_insertWord_36 : decode cX1_insertWord 36 = .ok (.dup, 1) := by decide +kernel
theorem dX1_insertWord_37 : decode cX1_insertWord 37 = .ok (.getfield 99, 3) := by decide +kernel
theorem dX1_insertWord_40 : decode cX1_insertWord 40 = .ok (.iconst 1, 1) := by decide +kernel
theorem dX1_insertWord_41 : decode cX1_insertWord 41 = .ok (.iadd, 1) := by decide +kernel
theorem dX1_insertWord_42 : decode cX1_insertWord 42 = .ok (.putfield 99, 3) := by decide +kernel
theorem dX1_insertWord_45 : decode cX1_insertWord 45 = .ok (.return_, 1) := by decide +kernel
theorem dX1_sealReason_0 : decode cX1_sealReason 0 = .ok (.aload_n 0, 1) := by decide +kernel
theorem dX1_sealReason_1 : decode cX1_sealReason 1 = .ok (.invokevirtual 87, 3) := by decide +kernel
theorem dX1_sealReason_4 : decode cX1_sealReason 4 = .ok (.astore_n 3, 1) := by decide +kernel
theorem dX1_sealReason_5 : decode cX1_sealReason 5 = .ok (.aload_n 3, 1) := by decide +kernel
theorem dX1_sealReason_6 : decode cX1_sealReason 6 = .ok (.ifnonnull 5, 3) := by decide +kernel
theorem dX1_sealReason_9 : decode cX1_sealReason 9 = .ok (.iconst 1, 1) := by decide +kernel
theorem dX1_sealReason_10 : decode cX1_sealReason 10 = .ok (.ireturn, 1) := by decide +kernel
theorem dX1_sealReason_11 : decode cX1_sealReason 11 = .ok (.iload_n 1, 1) := by decide +kernel
theorem dX1_sealReason_12 : decode cX1_sealReason 12 = .ok (.aload_n 0, 1) := by decide +kernel
theorem dX1_sealReason_13 : decode cX1_sealReason 13 = .ok (.getfield 52, 3) := by decide +kernel
theorem dX1_sealReason_16 : decode cX1_sealReason 16 = .ok (.if_icmp .ge 5, 3) := by decide +kernel
theorem dX1_sealReason_19 : decode cX1_sealReason 19 = .ok (.iconst 2, 1) := by decide +kernel
theorem dX1_sealReason_20 : decode cX1_sealReason 20 = .ok (.ireturn, 1) := by decide +kernel
theorem dX1_sealReason_21 : decode cX1_sealReason 21 = .ok (.iload_n 2, 1) := by decide +kernel
theorem dX1_sealReason_22 : decode cX1_sealReason 22 = .ok (.aload_n 3, 1) := by decide +kernel
theorem dX1_sealReason_23 : decode cX1_sealReason 23 = .ok (.getfield 99, 3) := by decide +kernel
theorem dX1_sealReason_26 : decode cX1_sealReason 26 = .ok (.if_icmp .eq 5, 3) := by decide +kernel
theorem dX1_sealReason_29 : decode cX1_sealReason 29 = .ok (.iconst 3, 1) := by decide +kernel
theorem dX1_sealReason_30 : decode cX1_sealReason 30 = .ok (.ireturn, 1) := by decide +kernel
theorem dX1_sealReason_31 : decode cX1_sealReason 31 = .ok (.aload_n 0, 1) := by decide +kernel
theorem dX1_sealReason_32 : decode cX1_sealReason 32 = .ok (.invokevirtual 204, 3) := by decide +kernel
theorem dX1_sealReason_35 : decode cX1_sealReason 35 = .ok (.ifCond .ne 7, 3) := by decide +kernel
theorem dX1_sealReason_38 : decode cX1_sealReason 38 = .ok (.iconst 4, 1) := by decide +kernel
theorem dX1_sealReason_39 : decode cX1_sealReason 39 = .ok (.goto 4, 3) := by decide +kernel
theorem dX1_sealReason_42 : decode cX1_sealReason 42 = .ok (.iconst 0, 1) := by decide +kernel
theorem dX1_sealReason_43 : decode cX1_sealReason 43 = .ok (.ireturn, 1) := by decide +kernel
theorem dX1_sealOpen_0 : decode cX1_sealOpen 0 = .ok (.aload_n 0, 1) := by decide +kernel
theorem dX1_sealOpen_1 : decode cX1_sealOpen 1 = .ok (.invokevirtual 87, 3) := by decide +kernel
theorem dX1_sealOpen_4 : decode cX1_sealOpen 4 = .ok (.astore_n 2, 1) := by decide +kernel
theorem dX1_sealOpen_5 : decode cX1_sealOpen 5 = .ok (.aload_n 2, 1) := by decide +kernel
theorem dX1_sealOpen_6 : decode cX1_sealOpen 6 = .ok (.ifnonnull 5, 3) := by decide +kernel
theorem dX1_sealOpen_9 : decode cX1_sealOpen 9 = .ok (.iconst 0, 1) := by decide +kernel
theorem dX1_sealOpen_10 : decode cX1_sealOpen 10 = .ok (.ireturn, 1) := by decide +kernel
theorem dX1_sealOpen_11 : decode cX1_sealOpen 11 = .ok (.aload_n 2, 1) := by decide +kernel
theorem dX1_sealOpen_12 : decode cX1_sealOpen 12 = .ok (.aload_n 2, 1) := by decide +kernel
theorem dX1_sealOpen_13 : decode cX1_sealOpen 13 = .ok (.invokevirtual 207, 3) := by decide +kernel
theorem dX1_sealOpen_16 : decode cX1_sealOpen 16 = .ok (.aload_n 0, 1) := by decide +kernel
theorem dX1_sealOpen_17 : decode cX1_sealOpen 17 = .ok (.invokevirtual 204, 3) := by decide +kernel
theorem dX1_sealOpen_20 : decode cX1_sealOpen 20 = .ok (.iadd, 1) := by decide +kernel
theorem dX1_sealOpen_21 : decode cX1_sealOpen 21 = .ok (.putfield 210, 3) := by decide +kernel
theorem dX1_sealOpen_24 : decode cX1_sealOpen 24 = .ok (.aload_n 2, 1) := by decide +kernel
theorem dX1_sealOpen_25 : decode cX1_sealOpen 25 = .ok (.iload_n 1, 1) := by decide +kernel
theorem dX1_sealOpen_26 : decode cX1_sealOpen 26 = .ok (.putfield 212, 3) := by decide +kernel
theorem dX1_sealOpen_29 : decode cX1_sealOpen 29 = .ok (.aload_n 2, 1) := by decide +kernel
theorem dX1_sealOpen_30 : decode cX1_sealOpen 30 = .ok (.iconst 1, 1) := by decide +kernel
theorem dX1_sealOpen_31 : decode cX1_sealOpen 31 = .ok (.putfield 84, 3) := by decide +kernel
theorem dX1_sealOpen_34 : decode cX1_sealOpen 34 = .ok (.aload_n 0, 1) := by decide +kernel
theorem dX1_sealOpen_35 : decode cX1_sealOpen 35 = .ok (.dup, 1) := by decide +kernel
theorem dX1_sealOpen_36 : decode cX1_sealOpen 36 = .ok (.getfield 61, 3) := by decide +kernel
theorem dX1_sealOpen_39 : decode cX1_sealOpen 39 = .ok (.aload_n 2, 1) := by decide +kernel
theorem dX1_sealOpen_40 : decode cX1_sealOpen 40 = .ok (.getfield 210, 3) := by decide +kernel
theorem dX1_sealOpen_43 : decode cX1_sealOpen 43 = .ok (.iadd, 1) := by decide +kernel
theorem dX1_sealOpen_44 : decode cX1_sealOpen 44 = .ok (.putfield 61, 3) := by decide +kernel
theorem dX1_sealOpen_47 : decode cX1_sealOpen 47 = .ok (.aload_n 2, 1) := by decide +kernel
theorem dX1_sealOpen_48 : decode cX1_sealOpen 48 = .ok (.getfield 210, 3) := by decide +kernel
theorem dX1_sealOpen_51 : decode cX1_sealOpen 51 = .ok (.ireturn, 1) := by decide +kernel
theorem dX1_cancelOpen_0 : decode cX1_cancelOpen 0 = .ok (.aload_n 0, 1) := by decide +kernel
theorem dX1_cancelOpen_1 : decode cX1_cancelOpen 1 = .ok (.invokevirtual 87, 3) := by decide +kernel
theorem dX1_cancelOpen_4 : decode cX1_cancelOpen 4 = .ok (.astore_n 1, 1) := by decide +kernel
theorem dX1_cancelOpen_5 : decode cX1_cancelOpen 5 = .ok (.aload_n 1, 1) := by decide +kernel
theorem dX1_cancelOpen_6 : decode cX1_cancelOpen 6 = .ok (.ifnull 8, 3) := by decide +kernel
theorem dX1_cancelOpen_9 : decode cX1_cancelOpen 9 = .ok (.aload_n 1, 1) := by decide +kernel
theorem dX1_cancelOpen_10 : decode cX1_cancelOpen 10 = .ok (.iconst 2, 1) := by decide +kernel
theorem dX1_cancelOpen_11 : decode cX1_cancelOpen 11 = .ok (.putfield 84, 3) := by decide +kernel
theorem dX1_cancelOpen_14 : decode cX1_cancelOpen 14 = .ok (.return_, 1) := by decide +kernel
theorem dX1_wordsGap_0 : decode cX1_wordsGap 0 = .ok (.iconst 0, 1) := by decide +kernel
theorem dX1_wordsGap_1 : decode cX1_wordsGap 1 = .ok (.istore_n 1, 1) := by decide +kernel
theorem dX1_wordsGap_2 : decode cX1_wordsGap 2 = .ok (.iconst 0, 1) := by decide +kernel
theorem dX1_wordsGap_3 : decode cX1_wordsGap 3 = .ok (.istore_n 2, 1) := by decide +kernel
theorem dX1_wordsGap_4 : decode cX1_wordsGap 4 = .ok (.iload_n 2, 1) := by decide +kernel
theorem dX1_wordsGap_5 : decode cX1_wordsGap 5 = .ok (.aload_n 0, 1) := by decide +kernel
theorem dX1_wordsGap_6 : decode cX1_wordsGap 6 = .ok (.getfield 31, 3) := by decide +kernel
theorem dX1_wordsGap_9 : decode cX1_wordsGap 9 = .ok (.getfield 83, 3) := by decide +kernel
theorem dX1_wordsGap_12 : decode cX1_wordsGap 12 = .ok (.if_icmp .ge 17, 3) := by decide +kernel
theorem dX1_wordsGap_15 : decode cX1_wordsGap 15 = .ok (.iload_n 1, 1) := by decide +kernel
theorem dX1_wordsGap_16 : decode cX1_wordsGap 16 = .ok (.aload_n 0, 1) := by decide +kernel
theorem dX1_wordsGap_17 : decode cX1_wordsGap 17 = .ok (.iload_n 2, 1) := by decide +kernel
theorem dX1_wordsGap_18 : decode cX1_wordsGap 18 = .ok (.invokevirtual 146, 3) := by decide +kernel
theorem dX1_wordsGap_21 : decode cX1_wordsGap 21 = .ok (.iadd, 1) := by decide +kernel
theorem dX1_wordsGap_22 : decode cX1_wordsGap 22 = .ok (.istore_n 1, 1) := by decide +kernel
theorem dX1_wordsGap_23 : decode cX1_wordsGap 23 = .ok (.iinc 2 1, 3) := by decide +kernel
theorem dX1_wordsGap_26 : decode cX1_wordsGap 26 = .ok (.goto (-22), 3) := by decide +kernel
theorem dX1_wordsGap_29 : decode cX1_wordsGap 29 = .ok (.iconst 0, 1) := by decide +kernel
theorem dX1_wordsGap_30 : decode cX1_wordsGap 30 = .ok (.istore_n 2, 1) := by decide +kernel
theorem dX1_wordsGap_31 : decode cX1_wordsGap 31 = .ok (.iload_n 2, 1) := by decide +kernel
theorem dX1_wordsGap_32 : decode cX1_wordsGap 32 = .ok (.aload_n 0, 1) := by decide +kernel
theorem dX1_wordsGap_33 : decode cX1_wordsGap 33 = .ok (.getfield 55, 3) := by decide +kernel
theorem dX1_wordsGap_36 : decode cX1_wordsGap 36 = .ok (.if_icmp .ge 21, 3) := by decide +kernel
theorem dX1_wordsGap_39 : decode cX1_wordsGap 39 = .ok (.iload_n 1, 1) := by decide +kernel
theorem dX1_wordsGap_40 : decode cX1_wordsGap 40 = .ok (.aload_n 0, 1) := by decide +kernel
theorem dX1_wordsGap_41 : decode cX1_wordsGap 41 = .ok (.getfield 11, 3) := by decide +kernel
theorem dX1_wordsGap_44 : decode cX1_wordsGap 44 = .ok (.iload_n 2, 1) := by decide +kernel
theorem dX1_wordsGap_45 : decode cX1_wordsGap 45 = .ok (.aaload, 1) := by decide +kernel
theorem dX1_wordsGap_46 : decode cX1_wordsGap 46 = .ok (.getfield 91, 3) := by decide +kernel
theorem dX1_wordsGap_49 : decode cX1_wordsGap 49 = .ok (.isub, 1) := by decide +kernel
theorem dX1_wordsGap_50 : decode cX1_wordsGap 50 = .ok (.istore_n 1, 1) := by decide +kernel
theorem dX1_wordsGap_51 : decode cX1_wordsGap 51 = .ok (.iinc 2 1, 3) := by decide +kernel
theorem dX1_wordsGap_54 : decode cX1_wordsGap 54 = .ok (.goto (-23), 3) := by decide +kernel
theorem dX1_wordsGap_57 : decode cX1_wordsGap 57 = .ok (.iload_n 1, 1) := by decide +kernel
theorem dX1_wordsGap_58 : decode cX1_wordsGap 58 = .ok (.invokestatic 215, 3) := by decide +kernel
theorem dX1_wordsGap_61 : decode cX1_wordsGap 61 = .ok (.ireturn, 1) := by decide +kernel
theorem dX8_standingByClauses_0 : decode cX8_standingByClauses 0 = .ok (.iconst 0, 1) := by decide +kernel
theorem dX8_standingByClauses_1 : decode cX8_standingByClauses 1 = .ok (.istore_n 3, 1) := by decide +kernel
theorem dX8_standingByClauses_2 : decode cX8_standingByClauses 2 = .ok (.iconst 0, 1) := by decide +kernel
theorem dX8_standingByClauses_3 : decode cX8_standingByClauses 3 = .ok (.istore 4, 2) := by decide +kernel
theorem dX8_standingByClauses_5 : decode cX8_standingByClauses 5 = .ok (.iconst 0, 1) := by decide +kernel
theorem dX8_standingByClauses_6 : decode cX8_standingByClauses 6 = .ok (.istore 5, 2) := by decide +kernel
theorem dX8_standingByClauses_8 : decode cX8_standingByClauses 8 = .ok (.iload_n 1, 1) := by decide +kernel
theorem dX8_standingByClauses_9 : decode cX8_standingByClauses 9 = .ok (.istore 6, 2) := by decide +kernel
theorem dX8_standingByClauses_11 : decode cX8_standingByClauses 11 = .ok (.iload 6, 2) := by decide +kernel
theorem dX8_standingByClauses_13 : decode cX8_standingByClauses 13 = .ok (.iload_n 1, 1) := by decide +kernel
theorem dX8_standingByClauses_14 : decode cX8_standingByClauses 14 = .ok (.iload_n 2, 1) := by decide +kernel
theorem dX8_standingByClauses_15 : decode cX8_standingByClauses 15 = .ok (.iadd, 1) := by decide +kernel
theorem dX8_standingByClauses_16 : decode cX8_standingByClauses 16 = .ok (.if_icmp .ge 58, 3) := by decide +kernel
theorem dX8_standingByClauses_19 : decode cX8_standingByClauses 19 = .ok (.iload 5, 2) := by decide +kernel
theorem dX8_standingByClauses_21 : decode cX8_standingByClauses 21 = .ok (.aload_n 0, 1) := by decide +kernel
theorem dX8_standingByClauses_22 : decode cX8_standingByClauses 22 = .ok (.getfield 15, 3) := by decide +kernel
theorem dX8_standingByClauses_25 : decode cX8_standingByClauses 25 = .ok (.iload 6, 2) := by decide +kernel
theorem dX8_standingByClauses_27 : decode cX8_standingByClauses 27 = .ok (.iaload, 1) := by decide +kernel
theorem dX8_standingByClauses_28 : decode cX8_standingByClauses 28 = .ok (.iadd, 1) := by decide +kernel
theorem dX8_standingByClauses_29 : decode cX8_standingByClauses 29 = .ok (.istore 5, 2) := by decide +kernel
theorem dX8_standingByClauses_31 : decode cX8_standingByClauses 31 = .ok (.iload 4, 2) := by decide +kernel
theorem dX8_standingByClauses_33 : decode cX8_standingByClauses 33 = .ok (.aload_n 0, 1) := by decide +kernel
theorem dX8_standingByClauses_34 : decode cX8_standingByClauses 34 = .ok (.iload 6, 2) := by decide +kernel
theorem dX8_standingByClauses_36 : decode cX8_standingByClauses 36 = .ok (.iconst 1, 1) := by decide +kernel
theorem dX8_standingByClauses_37 : decode cX8_standingByClauses 37 = .ok (.invokevirtual 46, 3) := by decide +kernel
theorem dX8_standingByClauses_40 : decode cX8_standingByClauses 40 = .ok (.iadd, 1) := by decide +kernel
theorem dX8_standingByClauses_41 : decode cX8_standingByClauses 41 = .ok (.istore 4, 2) := by decide +kernel
theorem dX8_standingByClauses_43 : decode cX8_standingByClauses 43 = .ok (.iload 5, 2) := by decide +kernel
theorem dX8_standingByClauses_45 : decode cX8_standingByClauses 45 = .ok (.aload_n 0, 1) := by decide +kernel
theorem dX8_standingByClauses_46 : decode cX8_standingByClauses 46 = .ok (.getfield 19, 3) := by decide +kernel
theorem dX8_standingByClauses_49 : decode cX8_standingByClauses 49 = .ok (.iload 6, 2) := by decide +kernel
theorem dX8_standingByClauses_51 : decode cX8_standingByClauses 51 = .ok (.iaload, 1) := by decide +kernel
theorem dX8_standingByClauses_52 : decode cX8_standingByClauses 52 = .ok (.isub, 1) := by decide +kernel
theorem dX8_standingByClauses_53 : decode cX8_standingByClauses 53 = .ok (.istore 5, 2) := by decide +kernel
theorem dX8_standingByClauses_55 : decode cX8_standingByClauses 55 = .ok (.iload 5, 2) := by decide +kernel
theorem dX8_standingByClauses_57 : decode cX8_standingByClauses 57 = .ok (.ifCond .ne 11, 3) := by decide +kernel
theorem dX8_standingByClauses_60 : decode cX8_standingByClauses 60 = .ok (.iload_n 3, 1) := by decide +kernel
theorem dX8_standingByClauses_61 : decode cX8_standingByClauses 61 = .ok (.iload 4, 2) := by decide +kernel
theorem dX8_standingByClauses_63 : decode cX8_standingByClauses 63 = .ok (.iadd, 1) := by decide +kernel
theorem dX8_standingByClauses_64 : decode cX8_standingByClauses 64 = .ok (.istore_n 3, 1) := by decide +kernel
theorem dX8_standingByClauses_65 : decode cX8_standingByClauses 65 = .ok (.iconst 0, 1) := by decide +kernel
theorem dX8_standingByClauses_66 : decode cX8_standingByClauses 66 = .ok (.istore 4, 2) := by decide +kernel
theorem dX8_standingByClauses_68 : decode cX8_standingByClauses 68 = .ok (.iinc 6 1, 3) := by decide +kernel
theorem dX8_standingByClauses_71 : decode cX8_standingByClauses 71 = .ok (.goto (-60), 3) := by decide +kernel
theorem dX8_standingByClauses_74 : decode cX8_standingByClauses 74 = .ok (.iload_n 3, 1) := by decide +kernel
theorem dX8_standingByClauses_75 : decode cX8_standingByClauses 75 = .ok (.ireturn, 1) := by decide +kernel
theorem dX1_standingGap_0 : decode cX1_standingGap 0 = .ok (.iconst 0, 1) := by decide +kernel
theorem dX1_standingGap_1 : decode cX1_standingGap 1 = .ok (.istore_n 1, 1) := by decide +kernel
theorem dX1_standingGap_2 : decode cX1_standingGap 2 = .ok (.iconst 0, 1) := by decide +kernel
theorem dX1_standingGap_3 : decode cX1_standingGap 3 = .ok (.istore_n 2, 1) := by decide +kernel
theorem dX1_standingGap_4 : decode cX1_standingGap 4 = .ok (.iload_n 2, 1) := by decide +kernel
theorem dX1_standingGap_5 : decode cX1_standingGap 5 = .ok (.aload_n 0, 1) := by decide +kernel
theorem dX1_standingGap_6 : decode cX1_standingGap 6 = .ok (.getfield 55, 3) := by decide +kernel
theorem dX1_standingGap_9 : decode cX1_standingGap 9 = .ok (.if_icmp .ge 67, 3) := by decide +kernel
theorem dX1_standingGap_12 : decode cX1_standingGap 12 = .ok (.aload_n 0, 1) := by decide +kernel
theorem dX1_standingGap_13 : decode cX1_standingGap 13 = .ok (.getfield 24, 3) := by decide +kernel
theorem dX1_standingGap_16 : decode cX1_standingGap 16 = .ok (.aload_n 0, 1) := by decide +kernel
theorem dX1_standingGap_17 : decode cX1_standingGap 17 = .ok (.getfield 11, 3) := by decide +kernel
theorem dX1_standingGap_20 : decode cX1_standingGap 20 = .ok (.iload_n 2, 1) := by decide +kernel
theorem dX1_standingGap_21 : decode cX1_standingGap 21 = .ok (.aaload, 1) := by decide +kernel
theorem dX1_standingGap_22 : decode cX1_standingGap 22 = .ok (.getfield 92, 3) := by decide +kernel
theorem dX1_standingGap_25 : decode cX1_standingGap 25 = .ok (.aload_n 0, 1) := by decide +kernel
theorem dX1_standingGap_26 : decode cX1_standingGap 26 = .ok (.getfield 11, 3) := by decide +kernel
theorem dX1_standingGap_29 : decode cX1_standingGap 29 = .ok (.iload_n 2, 1) := by decide +kernel
theorem dX1_standingGap_30 : decode cX1_standingGap 30 = .ok (.aaload, 1) := by decide +kernel
theorem dX1_standingGap_31 : decode cX1_standingGap 31 = .ok (.getfield 91, 3) := by decide +kernel
theorem dX1_standingGap_34 : decode cX1_standingGap 34 = .ok (.invokevirtual 218, 3) := by decide +kernel
theorem dX1_standingGap_37 : decode cX1_standingGap 37 = .ok (.istore_n 3, 1) := by decide +kernel
theorem dX1_standingGap_38 : decode cX1_standingGap 38 = .ok (.iload_n 3, 1) := by decide +kernel
theorem dX1_standingGap_39 : decode cX1_standingGap 39 = .ok (.aload_n 0, 1) := by decide +kernel
theorem dX1_standingGap_40 : decode cX1_standingGap 40 = .ok (.getfield 24, 3) := by decide +kernel
theorem dX1_standingGap_43 : decode cX1_standingGap 43 = .ok (.aload_n 0, 1) := by decide +kernel
theorem dX1_standingGap_44 : decode cX1_standingGap 44 = .ok (.getfield 11, 3) := by decide +kernel
theorem dX1_standingGap_47 : decode cX1_standingGap 47 = .ok (.iload_n 2, 1) := by decide +kernel
theorem dX1_standingGap_48 : decode cX1_standingGap 48 = .ok (.aaload, 1) := by decide +kernel
theorem dX1_standingGap_49 : decode cX1_standingGap 49 = .ok (.getfield 92, 3) := by decide +kernel
theorem dX1_standingGap_52 : decode cX1_standingGap 52 = .ok (.aload_n 0, 1) := by decide +kernel
theorem dX1_standingGap_53 : decode cX1_standingGap 53 = .ok (.getfield 11, 3) := by decide +kernel
theorem dX1_standingGap_56 : decode cX1_standingGap 56 = .ok (.iload_n 2, 1) := by decide +kernel
theorem dX1_standingGap_57 : decode cX1_standingGap 57 = .ok (.aaload, 1) := by decide +kernel
theorem dX1_standingGap_58 : decode cX1_standingGap 58 = .ok (.getfield 91, 3) := by decide +kernel
theorem dX1_standingGap_61 : decode cX1_standingGap 61 = .ok (.invokevirtual 95, 3) := by decide +kernel
theorem dX1_standingGap_64 : decode cX1_standingGap 64 = .ok (.if_icmp .eq 6, 3) := by decide +kernel
theorem dX1_standingGap_67 : decode cX1_standingGap 67 = .ok (.iinc 1 1, 3) := by decide +kernel
theorem dX1_standingGap_70 : decode cX1_standingGap 70 = .ok (.iinc 2 1, 3) := by decide +kernel
theorem dX1_standingGap_73 : decode cX1_standingGap 73 = .ok (.goto (-69), 3) := by decide +kernel
theorem dX1_standingGap_76 : decode cX1_standingGap 76 = .ok (.iload_n 1, 1) := by decide +kernel
theorem dX1_standingGap_77 : decode cX1_standingGap 77 = .ok (.ireturn, 1) := by decide +kernel
theorem dX1_cashGap_0 : decode cX1_cashGap 0 = .ok (.aload_n 0, 1) := by decide +kernel
theorem dX1_cashGap_1 : decode cX1_cashGap 1 = .ok (.getfield 61, 3) := by decide +kernel
theorem dX1_cashGap_4 : decode cX1_cashGap 4 = .ok (.aload_n 0, 1) := by decide +kernel
theorem dX1_cashGap_5 : decode cX1_cashGap 5 = .ok (.getfield 64, 3) := by decide +kernel
theorem dX1_cashGap_8 : decode cX1_cashGap 8 = .ok (.isub, 1) := by decide +kernel
theorem dX1_cashGap_9 : decode cX1_cashGap 9 = .ok (.istore_n 1, 1) := by decide +kernel
theorem dX1_cashGap_10 : decode cX1_cashGap 10 = .ok (.iconst 0, 1) := by decide +kernel
theorem dX1_cashGap_11 : decode cX1_cashGap 11 = .ok (.istore_n 2, 1) := by decide +kernel
theorem dX1_cashGap_12 : decode cX1_cashGap 12 = .ok (.iload_n 2, 1) := by decide +kernel
theorem dX1_cashGap_13 : decode cX1_cashGap 13 = .ok (.aload_n 0, 1) := by decide +kernel
theorem dX1_cashGap_14 : decode cX1_cashGap 14 = .ok (.getfield 55, 3) := by decide +kernel
theorem dX1_cashGap_17 : decode cX1_cashGap 17 = .ok (.if_icmp .ge 21, 3) := by decide +kernel
theorem dX1_cashGap_20 : decode cX1_cashGap 20 = .ok (.iload_n 1, 1) := by decide +kernel
theorem dX1_cashGap_21 : decode cX1_cashGap 21 = .ok (.aload_n 0, 1) := by decide +kernel
theorem dX1_cashGap_22 : decode cX1_cashGap 22 = .ok (.getfield 11, 3) := by decide +kernel
theorem dX1_cashGap_25 : decode cX1_cashGap 25 = .ok (.iload_n 2, 1) := by decide +kernel
theorem dX1_cashGap_26 : decode cX1_cashGap 26 = .ok (.aaload, 1) := by decide +kernel
theorem dX1_cashGap_27 : decode cX1_cashGap 27 = .ok (.getfield 210, 3) := by decide +kernel
theorem dX1_cashGap_30 : decode cX1_cashGap 30 = .ok (.isub, 1) := by decide +kernel
theorem dX1_cashGap_31 : decode cX1_cashGap 31 = .ok (.istore_n 1, 1) := by decide +kernel
theorem dX1_cashGap_32 : decode cX1_cashGap 32 = .ok (.iinc 2 1, 3) := by decide +kernel
theorem dX1_cashGap_35 : decode cX1_cashGap 35 = .ok (.goto (-23), 3) := by decide +kernel
theorem dX1_cashGap_38 : decode cX1_cashGap 38 = .ok (.iconst 0, 1) := by decide +kernel
theorem dX1_cashGap_39 : decode cX1_cashGap 39 = .ok (.istore_n 2, 1) := by decide +kernel
theorem dX1_cashGap_40 : decode cX1_cashGap 40 = .ok (.iload_n 2, 1) := by decide +kernel
theorem dX1_cashGap_41 : decode cX1_cashGap 41 = .ok (.aload_n 0, 1) := by decide +kernel
theorem dX1_cashGap_42 : decode cX1_cashGap 42 = .ok (.getfield 58, 3) := by decide +kernel
theorem dX1_cashGap_45 : decode cX1_cashGap 45 = .ok (.if_icmp .ge 21, 3) := by decide +kernel
theorem dX1_cashGap_48 : decode cX1_cashGap 48 = .ok (.iload_n 1, 1) := by decide +kernel
theorem dX1_cashGap_49 : decode cX1_cashGap 49 = .ok (.aload_n 0, 1) := by decide +kernel
theorem dX1_cashGap_50 : decode cX1_cashGap 50 = .ok (.getfield 17, 3) := by decide +kernel
theorem dX1_cashGap_53 : decode cX1_cashGap 53 = .ok (.iload_n 2, 1) := by decide +kernel
theorem dX1_cashGap_54 : decode cX1_cashGap 54 = .ok (.aaload, 1) := by decide +kernel
theorem dX1_cashGap_55 : decode cX1_cashGap 55 = .ok (.invokevirtual 160, 3) := by decide +kernel
theorem dX1_cashGap_58 : decode cX1_cashGap 58 = .ok (.isub, 1) := by decide +kernel
theorem dX1_cashGap_59 : decode cX1_cashGap 59 = .ok (.istore_n 1, 1) := by decide +kernel
theorem dX1_cashGap_60 : decode cX1_cashGap 60 = .ok (.iinc 2 1, 3) := by decide +kernel
theorem dX1_cashGap_63 : decode cX1_cashGap 63 = .ok (.goto (-23), 3) := by decide +kernel
theorem dX1_cashGap_66 : decode cX1_cashGap 66 = .ok (.iload_n 1, 1) := by decide +kernel
theorem dX1_cashGap_67 : decode cX1_cashGap 67 = .ok (.invokestatic 215, 3) := by decide +kernel
theorem dX1_cashGap_70 : decode cX1_cashGap 70 = .ok (.ireturn, 1) := by decide +kernel
theorem dX1_numbersGap_0 : decode cX1_numbersGap 0 = .ok (.iconst 0, 1) := by decide +kernel
theorem dX1_numbersGap_1 : decode cX1_numbersGap 1 = .ok (.istore_n 1, 1) := by decide +kernel
theorem dX1_numbersGap_2 : decode cX1_numbersGap 2 = .ok (.iconst 0, 1) := by decide +kernel
theorem dX1_numbersGap_3 : decode cX1_numbersGap 3 = .ok (.istore_n 2, 1) := by decide +kernel
theorem dX1_numbersGap_4 : decode cX1_numbersGap 4 = .ok (.iload_n 2, 1) := by decide +kernel
theorem dX1_numbersGap_5 : decode cX1_numbersGap 5 = .ok (.aload_n 0, 1) := by decide +kernel
theorem dX1_numbersGap_6 : decode cX1_numbersGap 6 = .ok (.getfield 55, 3) := by decide +kernel
theorem dX1_numbersGap_9 : decode cX1_numbersGap 9 = .ok (.if_icmp .ge 27, 3) := by decide +kernel
theorem dX1_numbersGap_12 : decode cX1_numbersGap 12 = .ok (.aload_n 0, 1) := by decide +kernel
theorem dX1_numbersGap_13 : decode cX1_numbersGap 13 = .ok (.getfield 11, 3) := by decide +kernel
theorem dX1_numbersGap_16 : decode cX1_numbersGap 16 = .ok (.iload_n 2, 1) := by decide +kernel
theorem dX1_numbersGap_17 : decode cX1_numbersGap 17 = .ok (.aaload, 1) := by decide +kernel
theorem dX1_numbersGap_18 : decode cX1_numbersGap 18 = .ok (.getfield 221, 3) := by decide +kernel
theorem dX1_numbersGap_21 : decode cX1_numbersGap 21 = .ok (.iload_n 2, 1) := by decide +kernel
theorem dX1_numbersGap_22 : decode cX1_numbersGap 22 = .ok (.iconst 1, 1) := by decide +kernel
theorem dX1_numbersGap_23 : decode cX1_numbersGap 23 = .ok (.iadd, 1) := by decide +kernel
theorem dX1_numbersGap_24 : decode cX1_numbersGap 24 = .ok (.if_icmp .eq 6, 3) := by decide +kernel
theorem dX1_numbersGap_27 : decode cX1_numbersGap 27 = .ok (.iinc 1 1, 3) := by decide +kernel
theorem dX1_numbersGap_30 : decode cX1_numbersGap 30 = .ok (.iinc 2 1, 3) := by decide +kernel
theorem dX1_numbersGap_33 : decode cX1_numbersGap 33 = .ok (.goto (-29), 3) := by decide +kernel
theorem dX1_numbersGap_36 : decode cX1_numbersGap 36 = .ok (.iload_n 1, 1) := by decide +kernel
theorem dX1_numbersGap_37 : decode cX1_numbersGap 37 = .ok (.ireturn, 1) := by decide +kernel
theorem dX4_stateOf_0 : decode cX4_stateOf 0 = .ok (.aload_n 0, 1) := by decide +kernel
theorem dX4_stateOf_1 : decode cX4_stateOf 1 = .ok (.iload_n 1, 1) := by decide +kernel
theorem dX4_stateOf_2 : decode cX4_stateOf 2 = .ok (.invokevirtual 32, 3) := by decide +kernel
theorem dX4_stateOf_5 : decode cX4_stateOf 5 = .ok (.ifCond .eq 12, 3) := by decide +kernel
theorem dX4_stateOf_8 : decode cX4_stateOf 8 = .ok (.aload_n 0, 1) := by decide +kernel
theorem dX4_stateOf_9 : decode cX4_stateOf 9 = .ok (.getfield 11, 3) := by decide +kernel
theorem dX4_stateOf_12 : decode cX4_stateOf 12 = .ok (.iload_n 1, 1) := by decide +kernel
theorem dX4_stateOf_13 : decode cX4_stateOf 13 = .ok (.iaload, 1) := by decide +kernel
theorem dX4_stateOf_14 : decode cX4_stateOf 14 = .ok (.goto 4, 3) := by decide +kernel
theorem dX4_stateOf_17 : decode cX4_stateOf 17 = .ok (.iconst 0, 1) := by decide +kernel
theorem dX4_stateOf_18 : decode cX4_stateOf 18 = .ok (.ireturn, 1) := by decide +kernel
theorem dX4_isLoose_0 : decode cX4_isLoose 0 = .ok (.aload_n 0, 1) := by decide +kernel
theorem dX4_isLoose_1 : decode cX4_isLoose 1 = .ok (.iload_n 1, 1) := by decide +kernel
theorem dX4_isLoose_2 : decode cX4_isLoose 2 = .ok (.invokevirtual 32, 3) := by decide +kernel
theorem dX4_isLoose_5 : decode cX4_isLoose 5 = .ok (.ifCond .eq 17, 3) := by decide +kernel
theorem dX4_isLoose_8 : decode cX4_isLoose 8 = .ok (.aload_n 0, 1) := by decide +kernel
theorem dX4_isLoose_9 : decode cX4_isLoose 9 = .ok (.getfield 11, 3) := by decide +kernel
theorem dX4_isLoose_12 : decode cX4_isLoose 12 = .ok (.iload_n 1, 1) := by decide +kernel
theorem dX4_isLoose_13 : decode cX4_isLoose 13 = .ok (.iaload, 1) := by decide +kernel
theorem dX4_isLoose_14 : decode cX4_isLoose 14 = .ok (.iconst 1, 1) := by decide +kernel
theorem dX4_isLoose_15 : decode cX4_isLoose 15 = .ok (.if_icmp .ne 7, 3) := by decide +kernel
theorem dX4_isLoose_18 : decode cX4_isLoose 18 = .ok (.iconst 1, 1) := by decide +kernel
theorem dX4_isLoose_19 : decode cX4_isLoose 19 = .ok (.goto 4, 3) := by decide +kernel
theorem dX4_isLoose_22 : decode cX4_isLoose 22 = .ok (.iconst 0, 1) := by decide +kernel
theorem dX4_isLoose_23 : decode cX4_isLoose 23 = .ok (.ireturn, 1) := by decide +kernel
theorem dX4_countOf_0 : decode cX4_countOf 0 = .ok (.iconst 0, 1) := by decide +kernel
theorem dX4_countOf_1 : decode cX4_countOf 1 = .ok (.istore_n 2, 1) := by decide +kernel
theorem dX4_countOf_2 : decode cX4_countOf 2 = .ok (.iconst 0, 1) := by decide +kernel
theorem dX4_countOf_3 : decode cX4_countOf 3 = .ok (.istore_n 3, 1) := by decide +kernel
theorem dX4_countOf_4 : decode cX4_countOf 4 = .ok (.iload_n 3, 1) := by decide +kernel
theorem dX4_countOf_5 : decode cX4_countOf 5 = .ok (.aload_n 0, 1) := by decide +kernel
theorem dX4_countOf_6 : decode cX4_countOf 6 = .ok (.getfield 23, 3) := by decide +kernel
theorem dX4_countOf_9 : decode cX4_countOf 9 = .ok (.if_icmp .ge 22, 3) := by decide +kernel
theorem dX4_countOf_12 : decode cX4_countOf 12 = .ok (.aload_n 0, 1) := by decide +kernel
theorem dX4_countOf_13 : decode cX4_countOf 13 = .ok (.getfield 11, 3) := by decide +kernel
theorem dX4_countOf_16 : decode cX4_countOf 16 = .ok (.iload_n 3, 1) := by decide +kernel
theorem dX4_countOf_17 : decode cX4_countOf 17 = .ok (.iaload, 1) := by decide +kernel
theorem dX4_countOf_18 : decode cX4_countOf 18 = .ok (.iload_n 1, 1) := by decide +kernel
theorem dX4_countOf_19 : decode cX4_countOf 19 = .ok (.if_icmp .ne 6, 3) := by decide +kernel
theorem dX4_countOf_22 : decode cX4_countOf 22 = .ok (.iinc 2 1, 3) := by decide +kernel
theorem dX4_countOf_25 : decode cX4_countOf 25 = .ok (.iinc 3 1, 3) := by decide +kernel
theorem dX4_countOf_28 : decode cX4_countOf 28 = .ok (.goto (-24), 3) := by decide +kernel
theorem dX4_countOf_31 : decode cX4_countOf 31 = .ok (.iload_n 2, 1) := by decide +kernel
theorem dX4_countOf_32 : decode cX4_countOf 32 = .ok (.ireturn, 1) := by decide +kernel
theorem dX4_loosenMateOf_0 : decode cX4_loosenMateOf 0 = .ok (.aload_n 0, 1) := by decide +kernel
theorem dX4_loosenMateOf_1 : decode cX4_loosenMateOf 1 = .ok (.iload_n 1, 1) := by decide +kernel
theorem dX4_loosenMateOf_2 : decode cX4_loosenMateOf 2 = .ok (.invokevirtual 44, 3) := by decide +kernel
theorem dX4_loosenMateOf_5 : decode cX4_loosenMateOf 5 = .ok (.istore_n 2, 1) := by decide +kernel
theorem dX4_loosenMateOf_6 : decode cX4_loosenMateOf 6 = .ok (.aload_n 0, 1) := by decide +kernel
theorem dX4_loosenMateOf_7 : decode cX4_loosenMateOf 7 = .ok (.iload_n 2, 1) := by decide +kernel
theorem dX4_loosenMateOf_8 : decode cX4_loosenMateOf 8 = .ok (.invokevirtual 32, 3) := by decide +kernel
theorem dX4_loosenMateOf_11 : decode cX4_loosenMateOf 11 = .ok (.ifCond .eq 19, 3) := by decide +kernel
theorem dX4_loosenMateOf_14 : decode cX4_loosenMateOf 14 = .ok (.aload_n 0, 1) := by decide +kernel
theorem dX4_loosenMateOf_15 : decode cX4_loosenMateOf 15 = .ok (.getfield 11, 3) := by decide +kernel
theorem dX4_loosenMateOf_18 : decode cX4_loosenMateOf 18 = .ok (.iload_n 2, 1) := by decide +kernel
theorem dX4_loosenMateOf_19 : decode cX4_loosenMateOf 19 = .ok (.iaload, 1) := by decide +kernel
theorem dX4_loosenMateOf_20 : decode cX4_loosenMateOf 20 = .ok (.ifCond .ne 10, 3) := by decide +kernel
theorem dX4_loosenMateOf_23 : decode cX4_loosenMateOf 23 = .ok (.aload_n 0, 1) := by decide +kernel
theorem dX4_loosenMateOf_24 : decode cX4_loosenMateOf 24 = .ok (.getfield 11, 3) := by decide +kernel
theorem dX4_loosenMateOf_27 : decode cX4_loosenMateOf 27 = .ok (.iload_n 2, 1) := by decide +kernel
theorem dX4_loosenMateOf_28 : decode cX4_loosenMateOf 28 = .ok (.iconst 1, 1) := by decide +kernel
theorem dX4_loosenMateOf_29 : decode cX4_loosenMateOf 29 = .ok (.iastore, 1) := by decide +kernel
theorem dX4_loosenMateOf_30 : decode cX4_loosenMateOf 30 = .ok (.return_, 1) := by decide +kernel
theorem dX4_drop_0 : decode cX4_drop 0 = .ok (.aload_n 0, 1) := by decide +kernel
theorem dX4_drop_1 : decode cX4_drop 1 = .ok (.iload_n 1, 1) := by decide +kernel
theorem dX4_drop_2 : decode cX4_drop 2 = .ok (.invokevirtual 32, 3) := by decide +kernel
theorem dX4_drop_5 : decode cX4_drop 5 = .ok (.ifCond .eq 15, 3) := by decide +kernel
theorem dX4_drop_8 : decode cX4_drop 8 = .ok (.aload_n 0, 1) := by decide +kernel
theorem dX4_drop_9 : decode cX4_drop 9 = .ok (.getfield 11, 3) := by decide +kernel
theorem dX4_drop_12 : decode cX4_drop 12 = .ok (.iload_n 1, 1) := by decide +kernel
theorem dX4_drop_13 : decode cX4_drop 13 = .ok (.iconst 2, 1) := by decide +kernel
theorem dX4_drop_14 : decode cX4_drop 14 = .ok (.iastore, 1) := by decide +kernel
theorem dX4_drop_15 : decode cX4_drop 15 = .ok (.aload_n 0, 1) := by decide +kernel
theorem dX4_drop_16 : decode cX4_drop 16 = .ok (.iload_n 1, 1) := by decide +kernel
theorem dX4_drop_17 : decode cX4_drop 17 = .ok (.invokevirtual 40, 3) := by decide +kernel
theorem dX4_drop_20 : decode cX4_drop 20 = .ok (.return_, 1) := by decide +kernel
theorem dX4_bringBack_0 : decode cX4_bringBack 0 = .ok (.aload_n 0, 1) := by decide +kernel
theorem dX4_bringBack_1 : decode cX4_bringBack 1 = .ok (.iload_n 1, 1) := by decide +kernel
theorem dX4_bringBack_2 : decode cX4_bringBack 2 = .ok (.invokevirtual 47, 3) := by decide +kernel
theorem dX4_bringBack_5 : decode cX4_bringBack 5 = .ok (.aload_n 0, 1) := by decide +kernel
theorem dX4_bringBack_6 : decode cX4_bringBack 6 = .ok (.iload_n 1, 1) := by decide +kernel
theorem dX4_bringBack_7 : decode cX4_bringBack 7 = .ok (.invokevirtual 44, 3) := by decide +kernel
theorem dX4_bringBack_10 : decode cX4_bringBack 10 = .ok (.istore_n 2, 1) := by decide +kernel
theorem dX4_bringBack_11 : decode cX4_bringBack 11 = .ok (.aload_n 0, 1) := by decide +kernel
theorem dX4_bringBack_12 : decode cX4_bringBack 12 = .ok (.iload_n 2, 1) := by decide +kernel
theorem dX4_bringBack_13 : decode cX4_bringBack 13 = .ok (.invokevirtual 50, 3) := by decide +kernel
theorem dX4_bringBack_16 : decode cX4_bringBack 16 = .ok (.ifCond .eq 8, 3) := by decide +kernel
theorem dX4_bringBack_19 : decode cX4_bringBack 19 = .ok (.aload_n 0, 1) := by decide +kernel
theorem dX4_bringBack_20 : decode cX4_bringBack 20 = .ok (.iload_n 2, 1) := by decide +kernel
theorem dX4_bringBack_21 : decode cX4_bringBack 21 = .ok (.invokevirtual 47, 3) := by decide +kernel
theorem dX4_bringBack_24 : decode cX4_bringBack 24 = .ok (.return_, 1) := by decide +kernel
theorem dX4_dropLoose_0 : decode cX4_dropLoose 0 = .ok (.iconst 0, 1) := by decide +kernel
theorem dX4_dropLoose_1 : decode cX4_dropLoose 1 = .ok (.istore_n 1, 1) := by decide +kernel
theorem dX4_dropLoose_2 : decode cX4_dropLoose 2 = .ok (.iconst 0, 1) := by decide +kernel
theorem dX4_dropLoose_3 : decode cX4_dropLoose 3 = .ok (.istore_n 2, 1) := by decide +kernel
theorem dX4_dropLoose_4 : decode cX4_dropLoose 4 = .ok (.iload_n 2, 1) := by decide +kernel
theorem dX4_dropLoose_5 : decode cX4_dropLoose 5 = .ok (.aload_n 0, 1) := by decide +kernel
theorem dX4_dropLoose_6 : decode cX4_dropLoose 6 = .ok (.getfield 23, 3) := by decide +kernel
theorem dX4_dropLoose_9 : decode cX4_dropLoose 9 = .ok (.if_icmp .ge 49, 3) := by decide +kernel
theorem dX4_dropLoose_12 : decode cX4_dropLoose 12 = .ok (.aload_n 0, 1) := by decide +kernel
theorem dX4_dropLoose_13 : decode cX4_dropLoose 13 = .ok (.getfield 15, 3) := by decide +kernel
theorem dX4_dropLoose_16 : decode cX4_dropLoose 16 = .ok (.iload_n 2, 1) := by decide +kernel
theorem dX4_dropLoose_17 : decode cX4_dropLoose 17 = .ok (.aload_n 0, 1) := by decide +kernel
theorem dX4_dropLoose_18 : decode cX4_dropLoose 18 = .ok (.getfield 11, 3) := by decide +kernel
theorem dX4_dropLoose_21 : decode cX4_dropLoose 21 = .ok (.iload_n 2, 1) := by decide +kernel
theorem dX4_dropLoose_22 : decode cX4_dropLoose 22 = .ok (.iaload, 1) := by decide +kernel
theorem dX4_dropLoose_23 : decode cX4_dropLoose 23 = .ok (.iconst 1, 1) := by decide +kernel
theorem dX4_dropLoose_24 : decode cX4_dropLoose 24 = .ok (.if_icmp .ne 7, 3) := by decide +kernel
theorem dX4_dropLoose_27 : decode cX4_dropLoose 27 = .ok (.iconst 1, 1) := by decide +kernel
theorem dX4_dropLoose_28 : decode cX4_dropLoose 28 = .ok (.goto 4, 3) := by decide +kernel
theorem dX4_dropLoose_31 : decode cX4_dropLoose 31 = .ok (.iconst 0, 1) := by decide +kernel
theorem dX4_dropLoose_32 : decode cX4_dropLoose 32 = .ok (.bastore, 1) := by decide +kernel
theorem dX4_dropLoose_33 : decode cX4_dropLoose 33 = .ok (.aload_n 0, 1) := by decide +kernel
theorem dX4_dropLoose_34 : decode cX4_dropLoose 34 = .ok (.getfield 15, 3) := by decide +kernel
theorem dX4_dropLoose_37 : decode cX4_dropLoose 37 = .ok (.iload_n 2, 1) := by decide +kernel
theorem dX4_dropLoose_38 : decode cX4_dropLoose 38 = .ok (.baload, 1) := by decide +kernel
theorem dX4_dropLoose_39 : decode cX4_dropLoose 39 = .ok (.ifCond .eq 13, 3) := by decide +kernel
theorem dX4_dropLoose_42 : decode cX4_dropLoose 42 = .ok (.aload_n 0, 1) := by decide +kernel
theorem dX4_dropLoose_43 : decode cX4_dropLoose 43 = .ok (.getfield 11, 3) := by decide +kernel
theorem dX4_dropLoose_46 : decode cX4_dropLoose 46 = .ok (.iload_n 2, 1) := by decide +kernel
theorem dX4_dropLoose_47 : decode cX4_dropLoose 47 = .ok (.iconst 2, 1) := by decide +kernel
theorem dX4_dropLoose_48 : decode cX4_dropLoose 48 = .ok (.iastore, 1) := by decide +kernel
theorem dX4_dropLoose_49 : decode cX4_dropLoose 49 = .ok (.iinc 1 1, 3) := by decide +kernel
theorem dX4_dropLoose_52 : decode cX4_dropLoose 52 = .ok (.iinc 2 1, 3) := by decide +kernel
theorem dX4_dropLoose_55 : decode cX4_dropLoose 55 = .ok (.goto (-51), 3) := by decide +kernel
theorem dX4_dropLoose_58 : decode cX4_dropLoose 58 = .ok (.iconst 0, 1) := by decide +kernel
theorem dX4_dropLoose_59 : decode cX4_dropLoose 59 = .ok (.istore_n 2, 1) := by decide +kernel
theorem dX4_dropLoose_60 : decode cX4_dropLoose 60 = .ok (.iload_n 2, 1) := by decide +kernel
theorem dX4_dropLoose_61 : decode cX4_dropLoose 61 = .ok (.aload_n 0, 1) := by decide +kernel
theorem dX4_dropLoose_62 : decode cX4_dropLoose 62 = .ok (.getfield 23, 3) := by decide +kernel
theorem dX4_dropLoose_65 : decode cX4_dropLoose 65 = .ok (.if_icmp .ge 23, 3) := by decide +kernel
theorem dX4_dropLoose_68 : decode cX4_dropLoose 68 = .ok (.aload_n 0, 1) := by decide +kernel
theorem dX4_dropLoose_69 : decode cX4_dropLoose 69 = .ok (.getfield 15, 3) := by decide +kernel
theorem dX4_dropLoose_72 : decode cX4_dropLoose 72 = .ok (.iload_n 2, 1) := by decide +kernel
theorem dX4_dropLoose_73 : decode cX4_dropLoose 73 = .ok (.baload, 1) := by decide +kernel
theorem dX4_dropLoose_74 : decode cX4_dropLoose 74 = .ok (.ifCond .eq 8, 3) := by decide +kernel
theorem dX4_dropLoose_77 : decode cX4_dropLoose 77 = .ok (.aload_n 0, 1) := by decide +kernel
theorem dX4_dropLoose_78 : decode cX4_dropLoose 78 = .ok (.iload_n 2, 1) := by decide +kernel
theorem dX4_dropLoose_79 : decode cX4_dropLoose 79 = .ok (.invokevirtual 40, 3) := by decide +kernel
theorem dX4_dropLoose_82 : decode cX4_dropLoose 82 = .ok (.iinc 2 1, 3) := by decide +kernel
theorem dX4_dropLoose_85 : decode cX4_dropLoose 85 = .ok (.goto (-25), 3) := by decide +kernel
theorem dX4_dropLoose_88 : decode cX4_dropLoose 88 = .ok (.iload_n 1, 1) := by decide +kernel
theorem dX4_dropLoose_89 : decode cX4_dropLoose 89 = .ok (.ireturn, 1) := by decide +kernel
theorem dX7_init_0 : decode cX7_init 0 = .ok (.aload_n 0, 1) := by decide +kernel
theorem dX7_init_1 : decode cX7_init 1 = .ok (.invokespecial 3, 3) := by decide +kernel
theorem dX7_init_4 : decode cX7_init 4 = .ok (.aload_n 0, 1) := by decide +kernel
theorem dX7_init_5 : decode cX7_init 5 = .ok (.iconst 0, 1) := by decide +kernel
theorem dX7_init_6 : decode cX7_init 6 = .ok (.newarray .byte, 2) := by decide +kernel
theorem dX7_init_8 : decode cX7_init 8 = .ok (.putfield 9, 3) := by decide +kernel
theorem dX7_init_11 : decode cX7_init 11 = .ok (.return_, 1) := by decide +kernel
theorem dX5_init_0 : decode cX5_init 0 = .ok (.aload_n 0, 1) := by decide +kernel
theorem dX5_init_1 : decode cX5_init 1 = .ok (.invokespecial 3, 3) := by decide +kernel
theorem dX5_init_4 : decode cX5_init 4 = .ok (.aload_n 0, 1) := by decide +kernel
theorem dX5_init_5 : decode cX5_init 5 = .ok (.new 9, 3) := by decide +kernel
theorem dX5_init_8 : decode cX5_init 8 = .ok (.dup, 1) := by decide +kernel
theorem dX5_init_9 : decode cX5_init 9 = .ok (.invokespecial 11, 3) := by decide +kernel
theorem dX5_init_12 : decode cX5_init 12 = .ok (.putfield 12, 3) := by decide +kernel
theorem dX5_init_15 : decode cX5_init 15 = .ok (.return_, 1) := by decide +kernel
theorem dX5_fail_0 : decode cX5_fail 0 = .ok (.aload_n 0, 1) := by decide +kernel
theorem dX5_fail_1 : decode cX5_fail 1 = .ok (.iload_n 1, 1) := by decide +kernel
theorem dX5_fail_2 : decode cX5_fail 2 = .ok (.putfield 18, 3) := by decide +kernel
theorem dX5_fail_5 : decode cX5_fail 5 = .ok (.aload_n 0, 1) := by decide +kernel
theorem dX5_fail_6 : decode cX5_fail 6 = .ok (.aload_n 0, 1) := by decide +kernel
theorem dX5_fail_7 : decode cX5_fail 7 = .ok (.getfield 12, 3) := by decide +kernel
theorem dX5_fail_10 : decode cX5_fail 10 = .ok (.getfield 22, 3) := by decide +kernel
theorem dX5_fail_13 : decode cX5_fail 13 = .ok (.putfield 25, 3) := by decide +kernel
theorem dX5_fail_16 : decode cX5_fail 16 = .ok (.iconst 0, 1) := by decide +kernel
theorem dX5_fail_17 : decode cX5_fail 17 = .ok (.ireturn, 1) := by decide +kernel
theorem dX9_isLetter_0 : decode cX9_isLetter 0 = .ok (.iload_n 0, 1) := by decide +kernel
theorem dX9_isLetter_1 : decode cX9_isLetter 1 = .ok (.bipush 97, 2) := by decide +kernel
theorem dX9_isLetter_3 : decode cX9_isLetter 3 = .ok (.if_icmp .lt 13, 3) := by decide +kernel
theorem dX9_isLetter_6 : decode cX9_isLetter 6 = .ok (.iload_n 0, 1) := by decide +kernel
theorem dX9_isLetter_7 : decode cX9_isLetter 7 = .ok (.bipush 122, 2) := by decide +kernel
theorem dX9_isLetter_9 : decode cX9_isLetter 9 = .ok (.if_icmp .gt 7, 3) := by decide +kernel
theorem dX9_isLetter_12 : decode cX9_isLetter 12 = .ok (.iconst 1, 1) := by decide +kernel
theorem dX9_isLetter_13 : decode cX9_isLetter 13 = .ok (.goto 4, 3) := by decide +kernel
theorem dX9_isLetter_16 : decode cX9_isLetter 16 = .ok (.iconst 0, 1) := by decide +kernel
theorem dX9_isLetter_17 : decode cX9_isLetter 17 = .ok (.ireturn, 1) := by decide +kernel
theorem dX9_joined_0 : decode cX9_joined 0 = .ok (.lload_n 0, 1) := by decide +kernel
theorem dX9_joined_1 : decode cX9_joined 1 = .ok (.bipush 8, 2) := by decide +kernel
theorem dX9_joined_3 : decode cX9_joined 3 = .ok (.lshl, 1) := by decide +kernel
theorem dX9_joined_4 : decode cX9_joined 4 = .ok (.iload_n 2, 1) := by decide +kernel
theorem dX9_joined_5 : decode cX9_joined 5 = .ok (.i2l, 1) := by decide +kernel
theorem dX9_joined_6 : decode cX9_joined 6 = .ok (.lor, 1) := by decide +kernel
theorem dX9_joined_7 : decode cX9_joined 7 = .ok (.lreturn, 1) := by decide +kernel
theorem dX7_readWord_0 : decode cX7_readWord 0 = .ok (.aload_n 0, 1) := by decide +kernel
theorem dX7_readWord_1 : decode cX7_readWord 1 = .ok (.lconst 0, 1) := by decide +kernel
theorem dX7_readWord_2 : decode cX7_readWord 2 = .ok (.putfield 54, 3) := by decide +kernel
theorem dX7_readWord_5 : decode cX7_readWord 5 = .ok (.aload_n 0, 1) := by decide +kernel
theorem dX7_readWord_6 : decode cX7_readWord 6 = .ok (.getfield 25, 3) := by decide +kernel
theorem dX7_readWord_9 : decode cX7_readWord 9 = .ok (.aload_n 0, 1) := by decide +kernel
theorem dX7_readWord_10 : decode cX7_readWord 10 = .ok (.getfield 21, 3) := by decide +kernel
theorem dX7_readWord_13 : decode cX7_readWord 13 = .ok (.if_icmp .ge 51, 3) := by decide +kernel
theorem dX7_readWord_16 : decode cX7_readWord 16 = .ok (.aload_n 0, 1) := by decide +kernel
theorem dX7_readWord_17 : decode cX7_readWord 17 = .ok (.getfield 9, 3) := by decide +kernel
theorem dX7_readWord_20 : decode cX7_readWord 20 = .ok (.aload_n 0, 1) := by decide +kernel
theorem dX7_readWord_21 : decode cX7_readWord 21 = .ok (.getfield 25, 3) := by decide +kernel
theorem dX7_readWord_24 : decode cX7_readWord 24 = .ok (.baload, 1) := by decide +kernel
theorem dX7_readWord_25 : decode cX7_readWord 25 = .ok (.invokestatic 37, 3) := by decide +kernel
theorem dX7_readWord_28 : decode cX7_readWord 28 = .ok (.ifCond .eq 36, 3) := by decide +kernel
theorem dX7_readWord_31 : decode cX7_readWord 31 = .ok (.aload_n 0, 1) := by decide +kernel
theorem dX7_readWord_32 : decode cX7_readWord 32 = .ok (.aload_n 0, 1) := by decide +kernel
theorem dX7_readWord_33 : decode cX7_readWord 33 = .ok (.getfield 54, 3) := by decide +kernel
theorem dX7_readWord_36 : decode cX7_readWord 36 = .ok (.aload_n 0, 1) := by decide +kernel
theorem dX7_readWord_37 : decode cX7_readWord 37 = .ok (.getfield 9, 3) := by decide +kernel
theorem dX7_readWord_40 : decode cX7_readWord 40 = .ok (.aload_n 0, 1) := by decide +kernel
theorem dX7_readWord_41 : decode cX7_readWord 41 = .ok (.getfield 25, 3) := by decide +kernel
theorem dX7_readWord_44 : decode cX7_readWord 44 = .ok (.baload, 1) := by decide +kernel
theorem dX7_readWord_45 : decode cX7_readWord 45 = .ok (.invokestatic 58, 3) := by decide +kernel
theorem dX7_readWord_48 : decode cX7_readWord 48 = .ok (.putfield 54, 3) := by decide +kernel
theorem dX7_readWord_51 : decode cX7_readWord 51 = .ok (.aload_n 0, 1) := by decide +kernel
theorem dX7_readWord_52 : decode cX7_readWord 52 = .ok (.dup, 1) := by decide +kernel
theorem dX7_readWord_53 : decode cX7_readWord 53 = .ok (.getfield 25, 3) := by decide +kernel
theorem dX7_readWord_56 : decode cX7_readWord 56 = .ok (.iconst 1, 1) := by decide +kernel
theorem dX7_readWord_57 : decode cX7_readWord 57 = .ok (.iadd, 1) := by decide +kernel
theorem dX7_readWord_58 : decode cX7_readWord 58 = .ok (.putfield 25, 3) := by decide +kernel
theorem dX7_readWord_61 : decode cX7_readWord 61 = .ok (.goto (-56), 3) := by decide +kernel
theorem dX7_readWord_64 : decode cX7_readWord 64 = .ok (.aload_n 0, 1) := by decide +kernel
theorem dX7_readWord_65 : decode cX7_readWord 65 = .ok (.aload_n 0, 1) := by decide +kernel
theorem dX7_readWord_66 : decode cX7_readWord 66 = .ok (.getfield 25, 3) := by decide +kernel
theorem dX7_readWord_69 : decode cX7_readWord 69 = .ok (.aload_n 0, 1) := by decide +kernel
theorem dX7_readWord_70 : decode cX7_readWord 70 = .ok (.getfield 31, 3) := by decide +kernel
theorem dX7_readWord_73 : decode cX7_readWord 73 = .ok (.isub, 1) := by decide +kernel
theorem dX7_readWord_74 : decode cX7_readWord 74 = .ok (.bipush 8, 2) := by decide +kernel
theorem dX7_readWord_76 : decode cX7_readWord 76 = .ok (.if_icmp .gt 7, 3) := by decide +kernel
theorem dX7_readWord_79 : decode cX7_readWord 79 = .ok (.iconst 1, 1) := by decide +kernel
theorem dX7_readWord_80 : decode cX7_readWord 80 = .ok (.goto 5, 3) := by decide +kernel
theorem dX7_readWord_83 : decode cX7_readWord 83 = .ok (.bipush 6, 2) := by decide +kernel
theorem dX7_readWord_85 : decode cX7_readWord 85 = .ok (.putfield 34, 3) := by decide +kernel
theorem dX7_readWord_88 : decode cX7_readWord 88 = .ok (.return_, 1) := by decide +kernel
set_option maxRecDepth 100000 in
set_option maxHeartbeats 4000000 in
theorem cX4_mateOfc {l : Launch} {v0 : Option Nat} {v1 : Int32} {σ : HpT} {r : Int32} (h : fX4_mateOf v0 v1 σ = some r) : IsK σ v0 4 ∧ Ct l yX4_mateOf cX4_mateOf 4 (some .int) 1 21 [va_rf v0, .int v1] σ (.ok (some (.int r))) σ 0 0 := by
  unfold fX4_mateOf at h
  replace h := bnP_s h
  obtain ⟨u, hk, h⟩ := h
  replace hk := isK_s hk
  refine ⟨hk, ?_⟩
  refine ct_start mi_X4_mateOf.1 rfl (al_le (al_1 (rf_cat _) (al_1 rfl al_n)) (Nat.le_of_ble_eq_true rfl)) (ag_1 (rf_cat _) (ag_1 rfl ag_n)) (fun Δ Γ B hE hnm => ?_)
  refine g_aload_n B 0 dX4_mateOf_0 rfl rfl ?_
  refine g_iload_n B 1 dX4_mateOf_1 rfl rfl ?_
  replace h := bnP_s h
  obtain ⟨x1, h2, h⟩ := h
  refine g_callVs0 (st := []) B (cX4_gatheringOfc h2) (Nat.le_of_ble_eq_true rfl) rfl rfl mi_X4_gatheringOf lk_RX4_36 ⟨Nat.le_of_ble_eq_true rfl, Nat.le_of_ble_eq_true rfl⟩ rfl rfl (Nat.le_of_ble_eq_true rfl) dX4_mateOf_2 (Nat.zero_le _) (Nat.zero_le _) ?_
  refine g_aload_n B 0 dX4_mateOf_5 rfl rfl ?_
  replace h := bnP_s h
  obtain ⟨x3, h4, h⟩ := h
  refine g_getI B fl_RX4_19 (by decide) dX4_mateOf_6 h4 ?_
  refine g_imul B dX4_mateOf_9 ?_
  refine g_istore_n B dX4_mateOf_10 rfl (Nat.le_of_ble_eq_true rfl) (s1_c (f1_k rfl (f1_1 rfl rfl f1_n))) ?_
  refine g_iload_n B 0 dX4_mateOf_11 rfl rfl ?_
  refine g_aload_n B 1 dX4_mateOf_12 rfl rfl ?_
  replace h := bnP_s h
  obtain ⟨x5, h6, h⟩ := h
  refine g_getI B fl_RX4_19 (by decide) dX4_mateOf_13 h6 ?_
  refine g_iadd B dX4_mateOf_16 ?_
  refine g_iconst (v := 1) B dX4_mateOf_17 (by decide) ?_
  refine g_isub B dX4_mateOf_18 ?_
  refine g_iload_n B 2 dX4_mateOf_19 rfl rfl ?_
  refine g_iload_n B 0 dX4_mateOf_20 rfl rfl ?_
  refine g_isub B dX4_mateOf_21 ?_
  refine g_isub B dX4_mateOf_22 ?_
  refine g_istore_n B dX4_mateOf_23 rfl (Nat.le_of_ble_eq_true rfl) (s1_c (f1_1 rfl rfl (f1_k rfl (f1_k rfl f1_n)))) ?_
  refine g_iload_n B 0 dX4_mateOf_24 rfl rfl ?_
  refine g_iload_n B 3 dX4_mateOf_25 rfl rfl ?_
  refine g_icmp_eq B 41 dX4_mateOf_26 (by decide) (fun hc => ?_) (fun hc => ?_)
  · replace h := ifp hc h
    refine g_iconst (v := (-1)) B dX4_mateOf_41 (by decide) ?_
    replace h := Option.some.inj h
    subst h
    exact g_iret B hE (Nat.zero_le _) (Nat.zero_le _) dX4_mateOf_42
  · replace h := ifn hc h
    refine g_aload_n B 2 dX4_mateOf_29 rfl rfl ?_
    refine g_iload_n B 0 dX4_mateOf_30 rfl rfl ?_
    replace h := bnP_s h
    obtain ⟨x7, h8, h⟩ := h
    refine g_callVs0 (st := []) B (cX4_isTherec h8) (Nat.le_of_ble_eq_true rfl) rfl rfl mi_X4_isThere lk_RX4_32 ⟨Nat.le_of_ble_eq_true rfl, Nat.le_of_ble_eq_true rfl⟩ rfl rfl (Nat.le_of_ble_eq_true rfl) dX4_mateOf_31 (Nat.zero_le _) (Nat.zero_le _) ?_
    refine g_if_eq B 41 dX4_mateOf_34 (by decide) (fun hc => ?_) (fun hc => ?_)
    · replace h := ifn (bI0 hc) h
      refine g_iconst (v := (-1)) B dX4_mateOf_41 (by decide) ?_
      replace h := Option.some.inj h
      subst h
      exact g_iret B hE (Nat.zero_le _) (Nat.zero_le _) dX4_mateOf_42
    · replace h := ifp (bI1 hc) h
      refine g_iload_n B 0 dX4_mateOf_37 rfl rfl ?_
      refine g_goto B 42 dX4_mateOf_38 (by decide) ?_
      replace h := Option.some.inj h
      subst h
      exact g_iret B hE (Nat.zero_le _) (Nat.zero_le _) dX4_mateOf_42
set_option maxRecDepth 100000 in
set_option maxHeartbeats 4000000 in
theorem cX4_extendToc {l : Launch} {v0 : Option Nat} {v1 : Int32} {σ : HpT} {σ' : HpT} (h : fX4_extendTo v0 v1 σ = some σ') : IsK σ v0 4 ∧ Ct l yX4_extendTo cX4_extendTo 3 none 2 44 [va_rf v0, .int v1] σ (.ok none) σ' 0 0 := by
  unfold fX4_extendTo at h
  replace h := bnP_s h
  obtain ⟨u, hk, h⟩ := h
  replace hk := isK_s hk
  refine ⟨hk, ?_⟩
  refine ct_start mi_X4_extendTo.1 rfl (al_le (al_1 (rf_cat _) (al_1 rfl al_n)) (Nat.le_of_ble_eq_true rfl)) (ag_1 (rf_cat _) (ag_1 rfl ag_n)) (fun Δ Γ B hE hnm => ?_)
  replace h := bnS_s h
  obtain ⟨r2, s38, h3, h⟩ := h
  have kE4 : GW Δ Γ (0) (0) 65 [] [] s38 := by
    replace h := Option.some.inj h
    subst h
    exact g_vret B hE (Nat.zero_le _) (Nat.zero_le _) dX4_extendTo_65
  clear h
  refine g_sub [0, 1] rfl ?_
  refine lpS_w (I := fun q1 s10 => GW Δ Γ (0) (0) 0 [(0, va_rf v0), (1, .int v1)] [] s10) (r := r2) (σr := s38) ?_ FUEL () σ h3
  intro q1 s10 x8 s9 h hI6 hR7
  unfold fX4_extendTo_l1 at h
  refine g_aload_n B 0 dX4_extendTo_0 rfl rfl ?_
  replace h := bnP_s h
  obtain ⟨x11, h12, h⟩ := h
  refine g_getI B fl_RX4_23 (by decide) dX4_extendTo_1 h12 ?_
  refine g_iload_n B 1 dX4_extendTo_4 rfl rfl ?_
  refine g_icmp_ge B 65 dX4_extendTo_5 (by decide) (fun hc => ?_) (fun hc => ?_)
  · replace h := ifp hc h
    obtain ⟨w1, w2⟩ := inS h
    clear h
    subst w1
    subst w2
    obtain ⟨e8, e7⟩ := hR7 _ rfl
    subst e8
    subst e7
    exact g_sub [] rfl kE4
  · replace h := ifn hc h
    refine g_aload_n B 0 dX4_extendTo_8 rfl rfl ?_
    replace h := bnP_s h
    obtain ⟨x13, h14, h⟩ := h
    refine g_getI B fl_RX4_23 (by decide) dX4_extendTo_9 h14 ?_
    refine g_bipush (v := 12) B dX4_extendTo_12 (by decide) ?_
    refine g_icmp_ge B 65 dX4_extendTo_14 (by decide) (fun hc => ?_) (fun hc => ?_)
    · replace h := ifp hc h
      obtain ⟨w1, w2⟩ := inS h
      clear h
      subst w1
      subst w2
      obtain ⟨e8, e7⟩ := hR7 _ rfl
      subst e8
      subst e7
      exact g_sub [] rfl kE4
    · replace h := ifn hc h
      refine g_aload_n B 0 dX4_extendTo_17 rfl rfl ?_
      refine g_dup B dX4_extendTo_18 (rf_cat _) ?_
      replace h := bnP_s h
      obtain ⟨x15, h16, h⟩ := h
      refine g_getI B fl_RX4_23 (by decide) dX4_extendTo_19 h16 ?_
      refine g_iconst (v := 1) B dX4_extendTo_22 (by decide) ?_
      refine g_iadd B dX4_extendTo_23 ?_
      replace h := bnP_s h
      obtain ⟨s19, h18, h⟩ := h
      refine g_putI B fl_RX4_23 (by decide) dX4_extendTo_24 h18 ?_
      refine g_aload_n B 0 dX4_extendTo_27 rfl rfl ?_
      refine g_aload_n B 0 dX4_extendTo_28 rfl rfl ?_
      refine g_aload_n B 0 dX4_extendTo_29 rfl rfl ?_
      replace h := bnP_s h
      obtain ⟨x20, h21, h⟩ := h
      refine g_getI B fl_RX4_23 (by decide) dX4_extendTo_30 h21 ?_
      refine g_iconst (v := 1) B dX4_extendTo_33 (by decide) ?_
      refine g_isub B dX4_extendTo_34 ?_
      replace h := bnP_s h
      obtain ⟨x22, h23, h⟩ := h
      refine g_callVs0 (st := [va_rf v0]) B (cX4_mateOfc h23) (Nat.le_of_ble_eq_true rfl) rfl rfl mi_X4_mateOf lk_RX4_44 ⟨Nat.le_of_ble_eq_true rfl, Nat.le_of_ble_eq_true rfl⟩ rfl rfl (Nat.le_of_ble_eq_true rfl) dX4_extendTo_35 (Nat.zero_le _) (Nat.zero_le _) ?_
      replace h := bnP_s h
      obtain ⟨x24, h25, h⟩ := h
      refine g_callVs0 (st := []) B (cX4_isLostc h25) (Nat.le_of_ble_eq_true rfl) rfl rfl mi_X4_isLost lk_RX4_53 ⟨Nat.le_of_ble_eq_true rfl, Nat.le_of_ble_eq_true rfl⟩ rfl rfl (Nat.le_of_ble_eq_true rfl) dX4_extendTo_38 (Nat.zero_le _) (Nat.zero_le _) ?_
      refine g_istore_n B dX4_extendTo_41 rfl (Nat.le_of_ble_eq_true rfl) (s1_c (f1_k rfl (f1_1 rfl rfl f1_n))) ?_
      refine g_aload_n B 1 dX4_extendTo_42 rfl rfl ?_
      replace h := bnP_s h
      obtain ⟨x26, h27, h⟩ := h
      refine g_getR B fl_RX4_11 (by decide) dX4_extendTo_43 h27 ?_
      refine g_aload_n B 1 dX4_extendTo_46 rfl rfl ?_
      replace h := bnP_s h
      obtain ⟨x28, h29, h⟩ := h
      refine g_getI B fl_RX4_23 (by decide) dX4_extendTo_47 h29 ?_
      refine g_iconst (v := 1) B dX4_extendTo_50 (by decide) ?_
      refine g_isub B dX4_extendTo_51 ?_
      refine g_iload_n B 0 dX4_extendTo_52 rfl rfl ?_
      replace h := bnP_s h
      obtain ⟨j30, h31, h⟩ := h
      have k33 : GW Δ Γ (0) (0) 61 [(0, va_rf v0), (1, .int v1)] [.int j30.2.2, .int j30.2.1, va_rf j30.1] s19 := by
        replace h := bnP_s h
        obtain ⟨s37, h36, h⟩ := h
        refine g_iast B dX4_extendTo_61 h36 ?_
        refine g_goto B 0 dX4_extendTo_62 (by decide) ?_
        obtain ⟨w1, w2⟩ := inS h
        clear h
        subst w1
        subst w2
        exact g_sub [0, 1] rfl (hI6 _ rfl)
      clear h
      have h := h31
      clear h31
      refine g_if_eq B 60 dX4_extendTo_53 (by decide) (fun hc => ?_) (fun hc => ?_)
      · replace h := ifn (bI0 hc) h
        refine g_iconst (v := 0) B dX4_extendTo_60 (by decide) ?_
        replace h := Option.some.inj h
        subst h
        exact g_sub [1, 2] rfl k33
      · replace h := ifp (bI1 hc) h
        refine g_iconst (v := 1) B dX4_extendTo_56 (by decide) ?_
        refine g_goto B 61 dX4_extendTo_57 (by decide) ?_
        replace h := Option.some.inj h
        subst h
        exact g_sub [1, 2] rfl k33
set_option maxRecDepth 100000 in
set_option maxHeartbeats 4000000 in
theorem cX1_beginActc {l : Launch} {v0 : Option Nat} {v1 : Int32} {v2 : Int32} {σ : HpT} {σ' : HpT} (h : fX1_beginAct v0 v1 v2 σ = some σ') : IsK σ v0 1 ∧ Ct l yX1_beginAct cX1_beginAct 4 none 3 66 [va_rf v0, .int v1, .int v2] σ (.ok none) σ' 0 0 := by
  unfold fX1_beginAct at h
  replace h := bnP_s h
  obtain ⟨u, hk, h⟩ := h
  replace hk := isK_s hk
  refine ⟨hk, ?_⟩
  refine ct_start mi_X1_beginAct.1 rfl (al_le (al_1 (rf_cat _) (al_1 rfl (al_1 rfl al_n))) (Nat.le_of_ble_eq_true rfl)) (ag_1 (rf_cat _) (ag_1 rfl (ag_1 rfl ag_n))) (fun Δ Γ B hE hnm => ?_)
  refine g_aload_n B 0 dX1_beginAct_0 rfl rfl ?_
  replace h := bnP_s h
  obtain ⟨x1, h2, h⟩ := h
  refine g_getI B fl_RX1_55 (by decide) dX1_beginAct_1 h2 ?_
  refine g_bipush (v := 10) B dX1_beginAct_4 (by decide) ?_
  refine g_icmp_ge B 25 dX1_beginAct_6 (by decide) (fun hc => ?_) (fun hc => ?_)
  · replace h := ifp hc h
    replace h := Option.some.inj h
    subst h
    exact g_vret B hE (Nat.zero_le _) (Nat.zero_le _) dX1_beginAct_25
  · replace h := ifn hc h
    refine g_aload_n B 0 dX1_beginAct_9 rfl rfl ?_
    replace h := bnP_s h
    obtain ⟨x3, h4, h⟩ := h
    refine g_getR B fl_RX1_24 (by decide) dX1_beginAct_10 h4 ?_
    replace h := bnP_s h
    obtain ⟨x5, h6, h⟩ := h
    refine g_getI B fl_RX1_80 (by decide) dX1_beginAct_13 h6 ?_
    refine g_iload_n B 2 dX1_beginAct_16 rfl rfl ?_
    refine g_iadd B dX1_beginAct_17 ?_
    refine g_aload_n B 0 dX1_beginAct_18 rfl rfl ?_
    replace h := bnP_s h
    obtain ⟨x7, h8, h⟩ := h
    refine g_callVs0 (st := [.int (x5 + v2)]) B (cX1_mostWordsc h8) (Nat.le_of_ble_eq_true rfl) rfl rfl mi_X1_mostWords lk_RX1_164 ⟨Nat.le_of_ble_eq_true rfl, Nat.le_of_ble_eq_true rfl⟩ rfl rfl (Nat.le_of_ble_eq_true rfl) dX1_beginAct_19 (Nat.zero_le _) (Nat.zero_le _) ?_
    refine g_icmp_le B 26 dX1_beginAct_22 (by decide) (fun hc => ?_) (fun hc => ?_)
    · replace h := ifp hc h
      refine g_aload_n B 0 dX1_beginAct_26 rfl rfl ?_
      replace h := bnP_s h
      obtain ⟨x9, h10, h⟩ := h
      refine g_getR B fl_RX1_31 (by decide) dX1_beginAct_27 h10 ?_
      replace h := bnP_s h
      obtain ⟨x11, h12, h⟩ := h
      refine g_getI B fl_RX1_83 (by decide) dX1_beginAct_30 h12 ?_
      refine g_iconst (v := 1) B dX1_beginAct_33 (by decide) ?_
      refine g_isub B dX1_beginAct_34 ?_
      refine g_istore_n B dX1_beginAct_35 rfl (Nat.le_of_ble_eq_true rfl) (s1_c (f1_k rfl (f1_k rfl (f1_1 rfl rfl f1_n)))) ?_
      refine g_aload_n B 1 dX1_beginAct_36 rfl rfl ?_
      replace h := bnP_s h
      obtain ⟨x13, h14, h⟩ := h
      refine g_getR B fl_RX1_31 (by decide) dX1_beginAct_37 h14 ?_
      refine g_iload_n B 0 dX1_beginAct_40 rfl rfl ?_
      replace h := bnP_s h
      obtain ⟨x15, h16, h⟩ := h
      refine g_callVs0 (st := []) B (cX4_isLostc h16) (Nat.le_of_ble_eq_true rfl) rfl rfl mi_X4_isLost lk_RX1_136 ⟨Nat.le_of_ble_eq_true rfl, Nat.le_of_ble_eq_true rfl⟩ rfl rfl (Nat.le_of_ble_eq_true rfl) dX1_beginAct_41 (Nat.zero_le _) (Nat.zero_le _) ?_
      replace h := bnS_s h
      obtain ⟨j17, s31, h18, h⟩ := h
      have k20 : GW Δ Γ (0) (0) 67 [(0, va_rf v0), (1, .int v1), (2, .int v2)] [] s31 := by
        refine g_aload_n B 0 dX1_beginAct_67 rfl rfl ?_
        replace h := bnP_s h
        obtain ⟨x32, h33, h⟩ := h
        refine g_getR B fl_RX1_11 (by decide) dX1_beginAct_68 h33 ?_
        refine g_aload_n B 0 dX1_beginAct_71 rfl rfl ?_
        replace h := bnP_s h
        obtain ⟨x34, h35, h⟩ := h
        refine g_getI B fl_RX1_55 (by decide) dX1_beginAct_72 h35 ?_
        replace h := bnP_s h
        obtain ⟨x36, h37, h⟩ := h
        refine g_ralds B (κ := 25) (by decide) rfl dX1_beginAct_75 h37 ?_
        refine g_aload_n B 0 dX1_beginAct_76 rfl rfl ?_
        replace h := bnP_s h
        obtain ⟨x38, h39, h⟩ := h
        refine g_getI B fl_RX1_55 (by decide) dX1_beginAct_77 h39 ?_
        refine g_iconst (v := 1) B dX1_beginAct_80 (by decide) ?_
        refine g_iadd B dX1_beginAct_81 ?_
        refine g_iload_n B 1 dX1_beginAct_82 rfl rfl ?_
        refine g_aload_n B 0 dX1_beginAct_83 rfl rfl ?_
        replace h := bnP_s h
        obtain ⟨x40, h41, h⟩ := h
        refine g_getR B fl_RX1_24 (by decide) dX1_beginAct_84 h41 ?_
        replace h := bnP_s h
        obtain ⟨x42, h43, h⟩ := h
        refine g_getI B fl_RX1_80 (by decide) dX1_beginAct_87 h43 ?_
        refine g_iload_n B 2 dX1_beginAct_90 rfl rfl ?_
        replace h := bnP_s h
        obtain ⟨s46, h45, h⟩ := h
        refine g_callVv0 (st := []) B (cX0_startc h45) (Nat.le_of_ble_eq_true rfl) rfl rfl mi_X0_start lk_RX1_171 ⟨Nat.le_of_ble_eq_true rfl, Nat.le_of_ble_eq_true rfl⟩ rfl rfl (Nat.le_of_ble_eq_true rfl) dX1_beginAct_91 (Nat.zero_le _) (Nat.zero_le _) ?_
        refine g_aload_n B 0 dX1_beginAct_94 rfl rfl ?_
        refine g_dup B dX1_beginAct_95 (rf_cat _) ?_
        replace h := bnP_s h
        obtain ⟨x47, h48, h⟩ := h
        refine g_getI B fl_RX1_55 (by decide) dX1_beginAct_96 h48 ?_
        refine g_iconst (v := 1) B dX1_beginAct_99 (by decide) ?_
        refine g_iadd B dX1_beginAct_100 ?_
        replace h := bnP_s h
        obtain ⟨s51, h50, h⟩ := h
        refine g_putI B fl_RX1_55 (by decide) dX1_beginAct_101 h50 ?_
        refine g_aload_n B 0 dX1_beginAct_104 rfl rfl ?_
        replace h := bnP_s h
        obtain ⟨x52, h53, h⟩ := h
        refine g_getR B fl_RX1_24 (by decide) dX1_beginAct_105 h53 ?_
        refine g_dup B dX1_beginAct_108 (rf_cat _) ?_
        replace h := bnP_s h
        obtain ⟨x54, h55, h⟩ := h
        refine g_getI B fl_RX1_80 (by decide) dX1_beginAct_109 h55 ?_
        refine g_iload_n B 2 dX1_beginAct_112 rfl rfl ?_
        refine g_iadd B dX1_beginAct_113 ?_
        replace h := bnP_s h
        obtain ⟨s58, h57, h⟩ := h
        refine g_putI B fl_RX1_80 (by decide) dX1_beginAct_114 h57 ?_
        refine g_aload_n B 0 dX1_beginAct_117 rfl rfl ?_
        replace h := bnP_s h
        obtain ⟨x59, h60, h⟩ := h
        refine g_getR B fl_RX1_31 (by decide) dX1_beginAct_118 h60 ?_
        refine g_aload_n B 0 dX1_beginAct_121 rfl rfl ?_
        refine g_aload_n B 0 dX1_beginAct_122 rfl rfl ?_
        replace h := bnP_s h
        obtain ⟨x61, h62, h⟩ := h
        refine g_getR B fl_RX1_24 (by decide) dX1_beginAct_123 h62 ?_
        replace h := bnP_s h
        obtain ⟨x63, h64, h⟩ := h
        refine g_getI B fl_RX1_80 (by decide) dX1_beginAct_126 h64 ?_
        replace h := bnP_s h
        obtain ⟨x65, h66, h⟩ := h
        refine g_callVs0 (st := [va_rf x59]) B (cX1_leavesOfc h66) (Nat.le_of_ble_eq_true rfl) rfl rfl mi_X1_leavesOf lk_RX1_175 ⟨Nat.le_of_ble_eq_true rfl, Nat.le_of_ble_eq_true rfl⟩ rfl rfl (Nat.le_of_ble_eq_true rfl) dX1_beginAct_129 (Nat.zero_le _) (Nat.zero_le _) ?_
        replace h := bnP_s h
        obtain ⟨s69, h68, h⟩ := h
        refine g_callVv0 (st := []) B (cX4_extendToc h68) (Nat.le_of_ble_eq_true rfl) rfl rfl mi_X4_extendTo lk_RX1_178 ⟨Nat.le_of_ble_eq_true rfl, Nat.le_of_ble_eq_true rfl⟩ rfl rfl (Nat.le_of_ble_eq_true rfl) dX1_beginAct_132 (Nat.zero_le _) (Nat.zero_le _) ?_
        replace h := Option.some.inj h
        subst h
        exact g_vret B hE (Nat.zero_le _) (Nat.zero_le _) dX1_beginAct_135
      clear h
      have h := h18
      clear h18
      refine g_if_eq B 67 dX1_beginAct_44 (by decide) (fun hc => ?_) (fun hc => ?_)
      · replace h := ifn (bI0 hc) h
        obtain ⟨w1, w2⟩ := inS h
        clear h
        subst w1
        subst w2
        exact g_sub [1, 2, 3] rfl k20
      · replace h := ifp (bI1 hc) h
        refine g_aload_n B 1 dX1_beginAct_47 rfl rfl ?_
        refine g_iload_n B 0 dX1_beginAct_48 rfl rfl ?_
        replace h := bnP_s h
        obtain ⟨x22, h23, h⟩ := h
        refine g_callVs0 (st := []) B (cX1_wordsOnc h23) (Nat.le_of_ble_eq_true rfl) rfl rfl mi_X1_wordsOn lk_RX1_146 ⟨Nat.le_of_ble_eq_true rfl, Nat.le_of_ble_eq_true rfl⟩ rfl rfl (Nat.le_of_ble_eq_true rfl) dX1_beginAct_49 (Nat.zero_le _) (Nat.zero_le _) ?_
        refine g_aload_n B 1 dX1_beginAct_52 rfl rfl ?_
        replace h := bnP_s h
        obtain ⟨x24, h25, h⟩ := h
        refine g_getI B fl_RX1_48 (by decide) dX1_beginAct_53 h25 ?_
        refine g_icmp_ge B 67 dX1_beginAct_56 (by decide) (fun hc => ?_) (fun hc => ?_)
        · replace h := ifp hc h
          obtain ⟨w1, w2⟩ := inS h
          clear h
          subst w1
          subst w2
          exact g_sub [1, 2, 3] rfl k20
        · replace h := ifn hc h
          refine g_aload_n B 1 dX1_beginAct_59 rfl rfl ?_
          replace h := bnP_s h
          obtain ⟨x26, h27, h⟩ := h
          refine g_getR B fl_RX1_31 (by decide) dX1_beginAct_60 h27 ?_
          refine g_iload_n B 0 dX1_beginAct_63 rfl rfl ?_
          replace h := bnP_s h
          obtain ⟨s30, h29, h⟩ := h
          refine g_callVv0 (st := []) B (cX4_fastenc h29) (Nat.le_of_ble_eq_true rfl) rfl rfl mi_X4_fasten lk_RX1_167 ⟨Nat.le_of_ble_eq_true rfl, Nat.le_of_ble_eq_true rfl⟩ rfl rfl (Nat.le_of_ble_eq_true rfl) dX1_beginAct_64 (Nat.zero_le _) (Nat.zero_le _) ?_
          obtain ⟨w1, w2⟩ := inS h
          clear h
          subst w1
          subst w2
          exact g_sub [1, 2, 3] rfl k20
    · replace h := ifn hc h
      replace h := Option.some.inj h
      subst h
      exact g_vret B hE (Nat.zero_le _) (Nat.zero_le _) dX1_beginAct_25
set_option maxRecDepth 100000 in
set_option maxHeartbeats 4000000 in
theorem cX1_strikeReasonc {l : Launch} {v0 : Option Nat} {v1 : Int32} {σ : HpT} {r : Int32} (h : fX1_strikeReason v0 v1 σ = some r) : IsK σ v0 1 ∧ Ct l yX1_strikeReason cX1_strikeReason 3 (some .int) 1 20 [va_rf v0, .int v1] σ (.ok (some (.int r))) σ 0 0 := by
  unfold fX1_strikeReason at h
  replace h := bnP_s h
  obtain ⟨u, hk, h⟩ := h
  replace hk := isK_s hk
  refine ⟨hk, ?_⟩
  refine ct_start mi_X1_strikeReason.1 rfl (al_le (al_1 (rf_cat _) (al_1 rfl al_n)) (Nat.le_of_ble_eq_true rfl)) (ag_1 (rf_cat _) (ag_1 rfl ag_n)) (fun Δ Γ B hE hnm => ?_)
  refine g_aload_n B 0 dX1_strikeReason_0 rfl rfl ?_
  replace h := bnP_s h
  obtain ⟨x1, h2, h⟩ := h
  refine g_callVs0 (st := []) B (cX1_openActc h2) (Nat.le_of_ble_eq_true rfl) rfl rfl mi_X1_openAct lk_RX1_87 ⟨Nat.le_of_ble_eq_true rfl, Nat.le_of_ble_eq_true rfl⟩ rfl rfl (Nat.le_of_ble_eq_true rfl) dX1_strikeReason_1 (Nat.zero_le _) (Nat.zero_le _) ?_
  refine g_astore_n B dX1_strikeReason_4 rfl (Nat.le_of_ble_eq_true rfl) (s1_c (f1_k rfl (f1_1 rfl rfl f1_n))) ?_
  refine g_aload_n B 0 dX1_strikeReason_5 rfl rfl ?_
  refine g_ifnonnull B 11 dX1_strikeReason_6 (by decide) (fun hc => ?_) (fun hc => ?_)
  · replace h := ifn hc h
    refine g_iload_n B 2 dX1_strikeReason_11 rfl rfl ?_
    refine g_if_lt B 23 dX1_strikeReason_12 (by decide) (fun hc => ?_) (fun hc => ?_)
    · replace h := ifp hc h
      refine g_iconst (v := 2) B dX1_strikeReason_23 (by decide) ?_
      replace h := Option.some.inj h
      subst h
      exact g_iret B hE (Nat.zero_le _) (Nat.zero_le _) dX1_strikeReason_24
    · replace h := ifn hc h
      refine g_iload_n B 2 dX1_strikeReason_15 rfl rfl ?_
      refine g_aload_n B 0 dX1_strikeReason_16 rfl rfl ?_
      replace h := bnP_s h
      obtain ⟨x3, h4, h⟩ := h
      refine g_getI B fl_RX1_91 (by decide) dX1_strikeReason_17 h4 ?_
      refine g_icmp_lt B 25 dX1_strikeReason_20 (by decide) (fun hc => ?_) (fun hc => ?_)
      · replace h := ifp hc h
        refine g_aload_n B 1 dX1_strikeReason_25 rfl rfl ?_
        replace h := bnP_s h
        obtain ⟨x5, h6, h⟩ := h
        refine g_getR B fl_RX1_24 (by decide) dX1_strikeReason_26 h6 ?_
        replace h := bnP_s h
        obtain ⟨x7, h8, h⟩ := h
        refine g_getRg B fl_RX1_181 (by decide) dX1_strikeReason_29 h8 ?_
        refine g_aload_n B 0 dX1_strikeReason_32 rfl rfl ?_
        replace h := bnP_s h
        obtain ⟨x9, h10, h⟩ := h
        refine g_getI B fl_RX1_92 (by decide) dX1_strikeReason_33 h10 ?_
        refine g_iload_n B 2 dX1_strikeReason_36 rfl rfl ?_
        refine g_iadd B dX1_strikeReason_37 ?_
        replace h := bnP_s h
        obtain ⟨x11, h12, h⟩ := h
        refine g_zald B dX1_strikeReason_38 h12 ?_
        refine g_if_eq B 46 dX1_strikeReason_39 (by decide) (fun hc => ?_) (fun hc => ?_)
        · replace h := ifp hc h
          refine g_iconst (v := 0) B dX1_strikeReason_46 (by decide) ?_
          replace h := Option.some.inj h
          subst h
          exact g_iret B hE (Nat.zero_le _) (Nat.zero_le _) dX1_strikeReason_47
        · replace h := ifn hc h
          refine g_iconst (v := 3) B dX1_strikeReason_42 (by decide) ?_
          refine g_goto B 47 dX1_strikeReason_43 (by decide) ?_
          replace h := Option.some.inj h
          subst h
          exact g_iret B hE (Nat.zero_le _) (Nat.zero_le _) dX1_strikeReason_47
      · replace h := ifn hc h
        refine g_iconst (v := 2) B dX1_strikeReason_23 (by decide) ?_
        replace h := Option.some.inj h
        subst h
        exact g_iret B hE (Nat.zero_le _) (Nat.zero_le _) dX1_strikeReason_24
  · replace h := ifp hc h
    refine g_iconst (v := 1) B dX1_strikeReason_9 (by decide) ?_
    replace h := Option.some.inj h
    subst h
    exact g_iret B hE (Nat.zero_le _) (Nat.zero_le _) dX1_strikeReason_10
set_option maxRecDepth 100000 in
set_option maxHeartbeats 4000000 in
theorem cX8_strikeFromc {l : Launch} {v0 : Option Nat} {v1 : Int32} {v2 : Int32} {σ : HpT} {r : Int32} {σ' : HpT} (h : fX8_strikeFrom v0 v1 v2 σ = some (r, σ')) : IsK σ v0 8 ∧ Ct l yX8_strikeFrom cX8_strikeFrom 5 (some .int) 1 24 [va_rf v0, .int v1, .int v2] σ (.ok (some (.int r))) σ' 0 0 := by
  unfold fX8_strikeFrom at h
  replace h := bnP_s h
  obtain ⟨u, hk, h⟩ := h
  replace hk := isK_s hk
  refine ⟨hk, ?_⟩
  refine ct_start mi_X8_strikeFrom.1 rfl (al_le (al_1 (rf_cat _) (al_1 rfl (al_1 rfl al_n))) (Nat.le_of_ble_eq_true rfl)) (ag_1 (rf_cat _) (ag_1 rfl (ag_1 rfl ag_n))) (fun Δ Γ B hE hnm => ?_)
  refine g_aload_n B 0 dX8_strikeFrom_0 rfl rfl ?_
  refine g_iload_n B 1 dX8_strikeFrom_1 rfl rfl ?_
  refine g_iload_n B 2 dX8_strikeFrom_2 rfl rfl ?_
  replace h := bnP_s h
  obtain ⟨x1, h2, h⟩ := h
  refine g_callVs0 (st := []) B (cX8_unstruckFromc h2) (Nat.le_of_ble_eq_true rfl) rfl rfl mi_X8_unstruckFrom lk_RX8_42 ⟨Nat.le_of_ble_eq_true rfl, Nat.le_of_ble_eq_true rfl⟩ rfl rfl (Nat.le_of_ble_eq_true rfl) dX8_strikeFrom_3 (Nat.zero_le _) (Nat.zero_le _) ?_
  refine g_istore_n B dX8_strikeFrom_6 rfl (Nat.le_of_ble_eq_true rfl) (s1_c (f1_k rfl (f1_k rfl (f1_1 rfl rfl f1_n)))) ?_
  refine g_iload_n B 2 dX8_strikeFrom_7 rfl rfl ?_
  refine g_istore B dX8_strikeFrom_8 (Nat.le_of_ble_eq_true rfl) (s1_c (f1_1 rfl rfl (f1_k rfl (f1_k rfl (f1_k rfl f1_n))))) ?_
  replace h := bnS_s h
  obtain ⟨r4, s18, h5, h⟩ := h
  have kE6 : GW Δ Γ (0) (0) 32 [(3, .int x1)] [] s18 := by
    refine g_iload_n B 0 dX8_strikeFrom_32 rfl rfl ?_
    obtain ⟨w1, w2⟩ := inS h
    clear h
    subst w1
    subst w2
    exact g_iret B hE (Nat.zero_le _) (Nat.zero_le _) dX8_strikeFrom_33
  clear h
  refine g_sub [2, 3, 4, 1, 0] rfl ?_
  refine lpS_w (I := fun q3 s12 => GW Δ Γ (0) (0) 10 [(0, va_rf v0), (1, .int v1), (2, .int v2), (3, .int x1), (4, .int q3)] [] s12) (r := r4) (σr := s18) ?_ FUEL v1 σ h5
  intro q3 s12 x10 s9 h hI8 hR9
  unfold fX8_strikeFrom_l1 at h
  refine g_iload B 4 dX8_strikeFrom_10 rfl ?_
  refine g_iload_n B 1 dX8_strikeFrom_12 rfl rfl ?_
  refine g_iload_n B 2 dX8_strikeFrom_13 rfl rfl ?_
  refine g_iadd B dX8_strikeFrom_14 ?_
  refine g_icmp_ge B 32 dX8_strikeFrom_15 (by decide) (fun hc => ?_) (fun hc => ?_)
  · replace h := ifp hc h
    obtain ⟨w1, w2⟩ := inS h
    clear h
    subst w1
    subst w2
    obtain ⟨e8, e7⟩ := hR9 _ rfl
    subst e8
    subst e7
    exact g_sub [3] rfl kE6
  · replace h := ifn hc h
    refine g_aload_n B 0 dX8_strikeFrom_18 rfl rfl ?_
    replace h := bnP_s h
    obtain ⟨x13, h14, h⟩ := h
    refine g_getR B fl_RX8_22 (by decide) dX8_strikeFrom_19 h14 ?_
    refine g_iload B 4 dX8_strikeFrom_22 rfl ?_
    refine g_iconst (v := 1) B dX8_strikeFrom_24 (by decide) ?_
    replace h := bnP_s h
    obtain ⟨s17, h16, h⟩ := h
    refine g_zast B dX8_strikeFrom_25 h16 ?_
    refine g_iinc (v := (q3 + 1)) B 4 dX8_strikeFrom_26 rfl (by first | rfl | (congr 1; decide)) (Nat.le_of_ble_eq_true rfl) (s1_c (f1_k rfl (f1_k rfl (f1_k rfl (f1_1 rfl rfl (f1_x f1_n)))))) ?_
    refine g_goto B 10 dX8_strikeFrom_29 (by decide) ?_
    obtain ⟨w1, w2⟩ := inS h
    clear h
    subst w1
    subst w2
    exact g_sub [1, 2, 3, 4, 0] rfl (hI8 _ rfl)
set_option maxRecDepth 100000 in
set_option maxHeartbeats 4000000 in
theorem cX1_strikeWordc {l : Launch} {v0 : Option Nat} {v1 : Int32} {σ : HpT} {σ' : HpT} (h : fX1_strikeWord v0 v1 σ = some σ') : IsK σ v0 1 ∧ Ct l yX1_strikeWord cX1_strikeWord 3 none 2 48 [va_rf v0, .int v1] σ (.ok none) σ' 0 0 := by
  unfold fX1_strikeWord at h
  replace h := bnP_s h
  obtain ⟨u, hk, h⟩ := h
  replace hk := isK_s hk
  refine ⟨hk, ?_⟩
  refine ct_start mi_X1_strikeWord.1 rfl (al_le (al_1 (rf_cat _) (al_1 rfl al_n)) (Nat.le_of_ble_eq_true rfl)) (ag_1 (rf_cat _) (ag_1 rfl ag_n)) (fun Δ Γ B hE hnm => ?_)
  refine g_aload_n B 0 dX1_strikeWord_0 rfl rfl ?_
  replace h := bnP_s h
  obtain ⟨x1, h2, h⟩ := h
  refine g_callVs0 (st := []) B (cX1_openActc h2) (Nat.le_of_ble_eq_true rfl) rfl rfl mi_X1_openAct lk_RX1_87 ⟨Nat.le_of_ble_eq_true rfl, Nat.le_of_ble_eq_true rfl⟩ rfl rfl (Nat.le_of_ble_eq_true rfl) dX1_strikeWord_1 (Nat.zero_le _) (Nat.zero_le _) ?_
  refine g_astore_n B dX1_strikeWord_4 rfl (Nat.le_of_ble_eq_true rfl) (s1_c (f1_k rfl (f1_1 rfl rfl f1_n))) ?_
  refine g_aload_n B 0 dX1_strikeWord_5 rfl rfl ?_
  refine g_ifnull B 46 dX1_strikeWord_6 (by decide) (fun hc => ?_) (fun hc => ?_)
  · replace h := ifp hc h
    replace h := Option.some.inj h
    subst h
    exact g_vret B hE (Nat.zero_le _) (Nat.zero_le _) dX1_strikeWord_46
  · replace h := ifn hc h
    refine g_iload_n B 2 dX1_strikeWord_9 rfl rfl ?_
    refine g_if_lt B 46 dX1_strikeWord_10 (by decide) (fun hc => ?_) (fun hc => ?_)
    · replace h := ifp hc h
      replace h := Option.some.inj h
      subst h
      exact g_vret B hE (Nat.zero_le _) (Nat.zero_le _) dX1_strikeWord_46
    · replace h := ifn hc h
      refine g_iload_n B 2 dX1_strikeWord_13 rfl rfl ?_
      refine g_aload_n B 0 dX1_strikeWord_14 rfl rfl ?_
      replace h := bnP_s h
      obtain ⟨x3, h4, h⟩ := h
      refine g_getI B fl_RX1_91 (by decide) dX1_strikeWord_15 h4 ?_
      refine g_icmp_ge B 46 dX1_strikeWord_18 (by decide) (fun hc => ?_) (fun hc => ?_)
      · replace h := ifp hc h
        replace h := Option.some.inj h
        subst h
        exact g_vret B hE (Nat.zero_le _) (Nat.zero_le _) dX1_strikeWord_46
      · replace h := ifn hc h
        refine g_aload_n B 1 dX1_strikeWord_21 rfl rfl ?_
        replace h := bnP_s h
        obtain ⟨x5, h6, h⟩ := h
        refine g_getR B fl_RX1_24 (by decide) dX1_strikeWord_22 h6 ?_
        refine g_aload_n B 0 dX1_strikeWord_25 rfl rfl ?_
        replace h := bnP_s h
        obtain ⟨x7, h8, h⟩ := h
        refine g_getI B fl_RX1_92 (by decide) dX1_strikeWord_26 h8 ?_
        refine g_iload_n B 2 dX1_strikeWord_29 rfl rfl ?_
        refine g_iadd B dX1_strikeWord_30 ?_
        refine g_iconst (v := 1) B dX1_strikeWord_31 (by decide) ?_
        replace h := bnS_s h
        obtain ⟨x9, s11, h10, h⟩ := h
        refine g_callVs0 (st := []) B (cX8_strikeFromc h10) (Nat.le_of_ble_eq_true rfl) rfl rfl mi_X8_strikeFrom lk_RX1_185 ⟨Nat.le_of_ble_eq_true rfl, Nat.le_of_ble_eq_true rfl⟩ rfl rfl (Nat.le_of_ble_eq_true rfl) dX1_strikeWord_32 (Nat.zero_le _) (Nat.zero_le _) ?_
        refine g_pop B dX1_strikeWord_35 rfl ?_
        refine g_aload_n B 0 dX1_strikeWord_36 rfl rfl ?_
        refine g_dup B dX1_strikeWord_37 (rf_cat _) ?_
        replace h := bnP_s h
        obtain ⟨x12, h13, h⟩ := h
        refine g_getI B fl_RX1_99 (by decide) dX1_strikeWord_38 h13 ?_
        refine g_iconst (v := 1) B dX1_strikeWord_41 (by decide) ?_
        refine g_iadd B dX1_strikeWord_42 ?_
        replace h := bnP_s h
        obtain ⟨s16, h15, h⟩ := h
        refine g_putI B fl_RX1_99 (by decide) dX1_strikeWord_43 h15 ?_
        replace h := Option.some.inj h
        subst h
        exact g_vret B hE (Nat.zero_le _) (Nat.zero_le _) dX1_strikeWord_46
set_option maxRecDepth 100000 in
set_option maxHeartbeats 4000000 in
theorem cX1_strikeAroundc {l : Launch} {v0 : Option Nat} {v1 : Int32} {σ : HpT} {r : Int32} {σ' : HpT} (h : fX1_strikeAround v0 v1 σ = some (r, σ')) : IsK σ v0 1 ∧ Ct l yX1_strikeAround cX1_strikeAround 3 (some .int) 3 73 [va_rf v0, .int v1] σ (.ok (some (.int r))) σ' 0 0 := by
  unfold fX1_strikeAround at h
  replace h := bnP_s h
  obtain ⟨u, hk, h⟩ := h
  replace hk := isK_s hk
  refine ⟨hk, ?_⟩
  refine ct_start mi_X1_strikeAround.1 rfl (al_le (al_1 (rf_cat _) (al_1 rfl al_n)) (Nat.le_of_ble_eq_true rfl)) (ag_1 (rf_cat _) (ag_1 rfl ag_n)) (fun Δ Γ B hE hnm => ?_)
  refine g_aload_n B 0 dX1_strikeAround_0 rfl rfl ?_
  replace h := bnP_s h
  obtain ⟨x1, h2, h⟩ := h
  refine g_callVs0 (st := []) B (cX1_openActc h2) (Nat.le_of_ble_eq_true rfl) rfl rfl mi_X1_openAct lk_RX1_87 ⟨Nat.le_of_ble_eq_true rfl, Nat.le_of_ble_eq_true rfl⟩ rfl rfl (Nat.le_of_ble_eq_true rfl) dX1_strikeAround_1 (Nat.zero_le _) (Nat.zero_le _) ?_
  refine g_astore_n B dX1_strikeAround_4 rfl (Nat.le_of_ble_eq_true rfl) (s1_c (f1_k rfl (f1_1 rfl rfl f1_n))) ?_
  refine g_aload_n B 0 dX1_strikeAround_5 rfl rfl ?_
  refine g_ifnull B 17 dX1_strikeAround_6 (by decide) (fun hc => ?_) (fun hc => ?_)
  · replace h := ifp hc h
    refine g_iconst (v := 0) B dX1_strikeAround_17 (by decide) ?_
    obtain ⟨w1, w2⟩ := inS h
    clear h
    subst w1
    subst w2
    exact g_iret B hE (Nat.zero_le _) (Nat.zero_le _) dX1_strikeAround_18
  · replace h := ifn hc h
    refine g_aload_n B 1 dX1_strikeAround_9 rfl rfl ?_
    refine g_iload_n B 2 dX1_strikeAround_10 rfl rfl ?_
    replace h := bnS_s h
    obtain ⟨x3, s5, h4, h⟩ := h
    refine g_callVs0 (st := []) B (cX1_seekClauseAroundc h4) (Nat.le_of_ble_eq_true rfl) rfl rfl mi_X1_seekClauseAround lk_RX1_188 ⟨Nat.le_of_ble_eq_true rfl, Nat.le_of_ble_eq_true rfl⟩ rfl rfl (Nat.le_of_ble_eq_true rfl) dX1_strikeAround_11 (Nat.zero_le _) (Nat.zero_le _) ?_
    refine g_if_ne B 19 dX1_strikeAround_14 (by decide) (fun hc => ?_) (fun hc => ?_)
    · replace h := ifp (bI1 hc) h
      refine g_aload_n B 0 dX1_strikeAround_19 rfl rfl ?_
      refine g_dup B dX1_strikeAround_20 (rf_cat _) ?_
      replace h := bnP_s h
      obtain ⟨x6, h7, h⟩ := h
      refine g_getI B fl_RX1_99 (by decide) dX1_strikeAround_21 h7 ?_
      refine g_iconst (v := 1) B dX1_strikeAround_24 (by decide) ?_
      refine g_iadd B dX1_strikeAround_25 ?_
      replace h := bnP_s h
      obtain ⟨s10, h9, h⟩ := h
      refine g_putI B fl_RX1_99 (by decide) dX1_strikeAround_26 h9 ?_
      refine g_aload_n B 1 dX1_strikeAround_29 rfl rfl ?_
      replace h := bnP_s h
      obtain ⟨x11, h12, h⟩ := h
      refine g_getR B fl_RX1_24 (by decide) dX1_strikeAround_30 h12 ?_
      refine g_aload_n B 1 dX1_strikeAround_33 rfl rfl ?_
      replace h := bnP_s h
      obtain ⟨x13, h14, h⟩ := h
      refine g_getR B fl_RX1_38 (by decide) dX1_strikeAround_34 h14 ?_
      replace h := bnP_s h
      obtain ⟨x15, h16, h⟩ := h
      refine g_getI B fl_RX1_191 (by decide) dX1_strikeAround_37 h16 ?_
      refine g_aload_n B 1 dX1_strikeAround_40 rfl rfl ?_
      replace h := bnP_s h
      obtain ⟨x17, h18, h⟩ := h
      refine g_getR B fl_RX1_38 (by decide) dX1_strikeAround_41 h18 ?_
      replace h := bnP_s h
      obtain ⟨x19, h20, h⟩ := h
      refine g_getI B fl_RX1_192 (by decide) dX1_strikeAround_44 h20 ?_
      replace h := bnS_s h
      obtain ⟨x21, s23, h22, h⟩ := h
      refine g_callVs0 (st := []) B (cX8_strikeFromc h22) (Nat.le_of_ble_eq_true rfl) rfl rfl mi_X8_strikeFrom lk_RX1_185 ⟨Nat.le_of_ble_eq_true rfl, Nat.le_of_ble_eq_true rfl⟩ rfl rfl (Nat.le_of_ble_eq_true rfl) dX1_strikeAround_47 (Nat.zero_le _) (Nat.zero_le _) ?_
      obtain ⟨w1, w2⟩ := inS h
      clear h
      subst w1
      subst w2
      exact g_iret B hE (Nat.zero_le _) (Nat.zero_le _) dX1_strikeAround_50
    · replace h := ifn (bI0 hc) h
      refine g_iconst (v := 0) B dX1_strikeAround_17 (by decide) ?_
      obtain ⟨w1, w2⟩ := inS h
      clear h
      subst w1
      subst w2
      exact g_iret B hE (Nat.zero_le _) (Nat.zero_le _) dX1_strikeAround_18
set_option maxRecDepth 100000 in
set_option maxHeartbeats 4000000 in
theorem cX1_canInsertc {l : Launch} {v0 : Option Nat} {v1 : Int32} {σ : HpT} {r : Bool} (h : fX1_canInsert v0 v1 σ = some r) : IsK σ v0 1 ∧ Ct l yX1_canInsert cX1_canInsert 3 (some .boolean) 1 20 [va_rf v0, .int v1] σ (.ok (some (.int (bI r)))) σ 0 0 := by
  unfold fX1_canInsert at h
  replace h := bnP_s h
  obtain ⟨u, hk, h⟩ := h
  replace hk := isK_s hk
  refine ⟨hk, ?_⟩
  refine ct_start mi_X1_canInsert.1 rfl (al_le (al_1 (rf_cat _) (al_1 rfl al_n)) (Nat.le_of_ble_eq_true rfl)) (ag_1 (rf_cat _) (ag_1 rfl ag_n)) (fun Δ Γ B hE hnm => ?_)
  refine g_aload_n B 0 dX1_canInsert_0 rfl rfl ?_
  replace h := bnP_s h
  obtain ⟨x1, h2, h⟩ := h
  refine g_callVs0 (st := []) B (cX1_openActc h2) (Nat.le_of_ble_eq_true rfl) rfl rfl mi_X1_openAct lk_RX1_87 ⟨Nat.le_of_ble_eq_true rfl, Nat.le_of_ble_eq_true rfl⟩ rfl rfl (Nat.le_of_ble_eq_true rfl) dX1_canInsert_1 (Nat.zero_le _) (Nat.zero_le _) ?_
  refine g_astore_n B dX1_canInsert_4 rfl (Nat.le_of_ble_eq_true rfl) (s1_c (f1_k rfl (f1_1 rfl rfl f1_n))) ?_
  refine g_aload_n B 0 dX1_canInsert_5 rfl rfl ?_
  refine g_ifnull B 43 dX1_canInsert_6 (by decide) (fun hc => ?_) (fun hc => ?_)
  · replace h := ifp hc h
    refine g_iconst (v := 0) B dX1_canInsert_43 (by decide) ?_
    replace h := Option.some.inj h
    subst h
    exact g_zret B hE rfl (Nat.zero_le _) (Nat.zero_le _) dX1_canInsert_44
  · replace h := ifn hc h
    refine g_iload_n B 2 dX1_canInsert_9 rfl rfl ?_
    refine g_if_lt B 43 dX1_canInsert_10 (by decide) (fun hc => ?_) (fun hc => ?_)
    · replace h := ifp hc h
      refine g_iconst (v := 0) B dX1_canInsert_43 (by decide) ?_
      replace h := Option.some.inj h
      subst h
      exact g_zret B hE rfl (Nat.zero_le _) (Nat.zero_le _) dX1_canInsert_44
    · replace h := ifn hc h
      refine g_iload_n B 2 dX1_canInsert_13 rfl rfl ?_
      refine g_aload_n B 0 dX1_canInsert_14 rfl rfl ?_
      replace h := bnP_s h
      obtain ⟨x3, h4, h⟩ := h
      refine g_getI B fl_RX1_91 (by decide) dX1_canInsert_15 h4 ?_
      refine g_icmp_ge B 43 dX1_canInsert_18 (by decide) (fun hc => ?_) (fun hc => ?_)
      · replace h := ifp hc h
        refine g_iconst (v := 0) B dX1_canInsert_43 (by decide) ?_
        replace h := Option.some.inj h
        subst h
        exact g_zret B hE rfl (Nat.zero_le _) (Nat.zero_le _) dX1_canInsert_44
      · replace h := ifn hc h
        refine g_aload_n B 1 dX1_canInsert_21 rfl rfl ?_
        replace h := bnP_s h
        obtain ⟨x5, h6, h⟩ := h
        refine g_getR B fl_RX1_24 (by decide) dX1_canInsert_22 h6 ?_
        replace h := bnP_s h
        obtain ⟨x7, h8, h⟩ := h
        refine g_getRg B fl_RX1_193 (by decide) dX1_canInsert_25 h8 ?_
        refine g_aload_n B 0 dX1_canInsert_28 rfl rfl ?_
        replace h := bnP_s h
        obtain ⟨x9, h10, h⟩ := h
        refine g_getI B fl_RX1_92 (by decide) dX1_canInsert_29 h10 ?_
        refine g_iload_n B 2 dX1_canInsert_32 rfl rfl ?_
        refine g_iadd B dX1_canInsert_33 ?_
        replace h := bnP_s h
        obtain ⟨x11, h12, h⟩ := h
        refine g_iald B dX1_canInsert_34 h12 ?_
        refine g_iconst (v := 4) B dX1_canInsert_35 (by decide) ?_
        refine g_icmp_ge B 43 dX1_canInsert_36 (by decide) (fun hc => ?_) (fun hc => ?_)
        · replace h := ifp hc h
          refine g_iconst (v := 0) B dX1_canInsert_43 (by decide) ?_
          replace h := Option.some.inj h
          subst h
          exact g_zret B hE rfl (Nat.zero_le _) (Nat.zero_le _) dX1_canInsert_44
        · replace h := ifn hc h
          refine g_iconst (v := 1) B dX1_canInsert_39 (by decide) ?_
          refine g_goto B 44 dX1_canInsert_40 (by decide) ?_
          replace h := Option.some.inj h
          subst h
          exact g_zret B hE rfl (Nat.zero_le _) (Nat.zero_le _) dX1_canInsert_44
set_option maxRecDepth 100000 in
set_option maxHeartbeats 4000000 in
theorem cX8_insertc {l : Launch} {v0 : Option Nat} {v1 : Int32} {v2 : Int64} {σ : HpT} {σ' : HpT} (h : fX8_insert v0 v1 v2 σ = some σ') : IsK σ v0 8 ∧ Ct l yX8_insert cX8_insert 4 none 0 0 [va_rf v0, .int v1, .long v2] σ (.ok none) σ' 0 0 := by
  unfold fX8_insert at h
  replace h := bnP_s h
  obtain ⟨u, hk, h⟩ := h
  replace hk := isK_s hk
  refine ⟨hk, ?_⟩
  refine ct_start mi_X8_insert.1 rfl (al_le (al_1 (rf_cat _) (al_1 rfl (al_2 rfl al_n))) (Nat.le_of_ble_eq_true rfl)) (ag_1 (rf_cat _) (ag_1 rfl (ag_2 rfl ag_n))) (fun Δ Γ B hE hnm => ?_)
  refine g_aload_n B 0 dX8_insert_0 rfl rfl ?_
  replace h := bnP_s h
  obtain ⟨x1, h2, h⟩ := h
  refine g_getR B fl_RX8_26 (by decide) dX8_insert_1 h2 ?_
  refine g_iload_n B 1 dX8_insert_4 rfl rfl ?_
  replace h := bnP_s h
  obtain ⟨x3, h4, h⟩ := h
  refine g_iald B dX8_insert_5 h4 ?_
  refine g_iconst (v := 4) B dX8_insert_6 (by decide) ?_
  refine g_icmp_ge B 36 dX8_insert_7 (by decide) (fun hc => ?_) (fun hc => ?_)
  · replace h := ifp hc h
    replace h := Option.some.inj h
    subst h
    exact g_vret B hE (Nat.zero_le _) (Nat.zero_le _) dX8_insert_36
  · replace h := ifn hc h
    refine g_aload_n B 0 dX8_insert_10 rfl rfl ?_
    replace h := bnP_s h
    obtain ⟨x5, h6, h⟩ := h
    refine g_getR B fl_RX8_29 (by decide) dX8_insert_11 h6 ?_
    refine g_iload_n B 1 dX8_insert_14 rfl rfl ?_
    refine g_iconst (v := 4) B dX8_insert_15 (by decide) ?_
    refine g_imul B dX8_insert_16 ?_
    refine g_aload_n B 0 dX8_insert_17 rfl rfl ?_
    replace h := bnP_s h
    obtain ⟨x7, h8, h⟩ := h
    refine g_getR B fl_RX8_26 (by decide) dX8_insert_18 h8 ?_
    refine g_iload_n B 1 dX8_insert_21 rfl rfl ?_
    replace h := bnP_s h
    obtain ⟨x9, h10, h⟩ := h
    refine g_iald B dX8_insert_22 h10 ?_
    refine g_iadd B dX8_insert_23 ?_
    refine g_lload_n B 2 dX8_insert_24 rfl rfl ?_
    replace h := bnP_s h
    obtain ⟨s13, h12, h⟩ := h
    refine g_last B dX8_insert_25 h12 ?_
    refine g_aload_n B 0 dX8_insert_26 rfl rfl ?_
    replace h := bnP_s h
    obtain ⟨x14, h15, h⟩ := h
    refine g_getR B fl_RX8_26 (by decide) dX8_insert_27 h15 ?_
    refine g_iload_n B 1 dX8_insert_30 rfl rfl ?_
    refine g_dup2 B dX8_insert_31 rfl (rf_cat _) ?_
    replace h := bnP_s h
    obtain ⟨x16, h17, h⟩ := h
    refine g_iald B dX8_insert_32 h17 ?_
    refine g_iconst (v := 1) B dX8_insert_33 (by decide) ?_
    refine g_iadd B dX8_insert_34 ?_
    replace h := bnP_s h
    obtain ⟨s20, h19, h⟩ := h
    refine g_iast B dX8_insert_35 h19 ?_
    replace h := Option.some.inj h
    subst h
    exact g_vret B hE (Nat.zero_le _) (Nat.zero_le _) dX8_insert_36
set_option maxRecDepth 100000 in
set_option maxHeartbeats 4000000 in
theorem cX1_insertWordc {l : Launch} {v0 : Option Nat} {v1 : Int32} {v2 : Int64} {σ : HpT} {σ' : HpT} (h : fX1_insertWord v0 v1 v2 σ = some σ') : IsK σ v0 1 ∧ Ct l yX1_insertWord cX1_insertWord 5 none 2 42 [va_rf v0, .int v1, .long v2] σ (.ok none) σ' 0 0 := by
  unfold fX1_insertWord at h
  replace h := bnP_s h
  obtain ⟨u, hk, h⟩ := h
  replace hk := isK_s hk
  refine ⟨hk, ?_⟩
  refine ct_start mi_X1_insertWord.1 rfl (al_le (al_1 (rf_cat _) (al_1 rfl (al_2 rfl al_n))) (Nat.le_of_ble_eq_true rfl)) (ag_1 (rf_cat _) (ag_1 rfl (ag_2 rfl ag_n))) (fun Δ Γ B hE hnm => ?_)
  refine g_aload_n B 0 dX1_insertWord_0 rfl rfl ?_
  replace h := bnP_s h
  obtain ⟨x1, h2, h⟩ := h
  refine g_callVs0 (st := []) B (cX1_openActc h2) (Nat.le_of_ble_eq_true rfl) rfl rfl mi_X1_openAct lk_RX1_87 ⟨Nat.le_of_ble_eq_true rfl, Nat.le_of_ble_eq_true rfl⟩ rfl rfl (Nat.le_of_ble_eq_true rfl) dX1_insertWord_1 (Nat.zero_le _) (Nat.zero_le _) ?_
  refine g_astore B dX1_insertWord_4 (Nat.le_of_ble_eq_true rfl) (s1_c (f1_k rfl (f1_k rfl (f1_k rfl f1_n)))) ?_
  refine g_aload B 0 dX1_insertWord_6 rfl ?_
  refine g_ifnull B 45 dX1_insertWord_8 (by decide) (fun hc => ?_) (fun hc => ?_)
  · replace h := ifp hc h
    replace h := Option.some.inj h
    subst h
    exact g_vret B hE (Nat.zero_le _) (Nat.zero_le _) dX1_insertWord_45
  · replace h := ifn hc h
    refine g_aload_n B 1 dX1_insertWord_11 rfl rfl ?_
    refine g_iload_n B 2 dX1_insertWord_12 rfl rfl ?_
    replace h := bnP_s h
    obtain ⟨x3, h4, h⟩ := h
    refine g_callVs0 (st := []) B (cX1_canInsertc h4) (Nat.le_of_ble_eq_true rfl) rfl rfl mi_X1_canInsert lk_RX1_197 ⟨Nat.le_of_ble_eq_true rfl, Nat.le_of_ble_eq_true rfl⟩ rfl rfl (Nat.le_of_ble_eq_true rfl) dX1_insertWord_13 (Nat.zero_le _) (Nat.zero_le _) ?_
    refine g_if_eq B 45 dX1_insertWord_16 (by decide) (fun hc => ?_) (fun hc => ?_)
    · replace h := ifn (bI0 hc) h
      replace h := Option.some.inj h
      subst h
      exact g_vret B hE (Nat.zero_le _) (Nat.zero_le _) dX1_insertWord_45
    · replace h := ifp (bI1 hc) h
      refine g_aload_n B 1 dX1_insertWord_19 rfl rfl ?_
      replace h := bnP_s h
      obtain ⟨x5, h6, h⟩ := h
      refine g_getR B fl_RX1_24 (by decide) dX1_insertWord_20 h6 ?_
      refine g_aload B 0 dX1_insertWord_23 rfl ?_
      replace h := bnP_s h
      obtain ⟨x7, h8, h⟩ := h
      refine g_getI B fl_RX1_92 (by decide) dX1_insertWord_25 h8 ?_
      refine g_iload_n B 2 dX1_insertWord_28 rfl rfl ?_
      refine g_iadd B dX1_insertWord_29 ?_
      refine g_lload_n B 3 dX1_insertWord_30 rfl rfl ?_
      replace h := bnP_s h
      obtain ⟨s11, h10, h⟩ := h
      refine g_callVv0 (st := []) B (cX8_insertc h10) (Nat.le_of_ble_eq_true rfl) rfl rfl mi_X8_insert lk_RX1_200 ⟨Nat.le_of_ble_eq_true rfl, Nat.le_of_ble_eq_true rfl⟩ rfl rfl (Nat.le_of_ble_eq_true rfl) dX1_insertWord_31 (Nat.zero_le _) (Nat.zero_le _) ?_
      refine g_aload B 0 dX1_insertWord_34 rfl ?_
      refine g_dup B dX1_insertWord_36 (rf_cat _) ?_
      replace h := bnP_s h
      obtain ⟨x12, h13, h⟩ := h
      refine g_getI B fl_RX1_99 (by decide) dX1_insertWord_37 h13 ?_
      refine g_iconst (v := 1) B dX1_insertWord_40 (by decide) ?_
      refine g_iadd B dX1_insertWord_41 ?_
      replace h := bnP_s h
      obtain ⟨s16, h15, h⟩ := h
      refine g_putI B fl_RX1_99 (by decide) dX1_insertWord_42 h15 ?_
      replace h := Option.some.inj h
      subst h
      exact g_vret B hE (Nat.zero_le _) (Nat.zero_le _) dX1_insertWord_45
set_option maxRecDepth 100000 in
set_option maxHeartbeats 4000000 in
theorem cX1_sealReasonc {l : Launch} {v0 : Option Nat} {v1 : Int32} {v2 : Int32} {σ : HpT} {r : Int32} (h : fX1_sealReason v0 v1 v2 σ = some r) : IsK σ v0 1 ∧ Ct l yX1_sealReason cX1_sealReason 4 (some .int) 3 69 [va_rf v0, .int v1, .int v2] σ (.ok (some (.int r))) σ 0 0 := by
  unfold fX1_sealReason at h
  replace h := bnP_s h
  obtain ⟨u, hk, h⟩ := h
  replace hk := isK_s hk
  refine ⟨hk, ?_⟩
  refine ct_start mi_X1_sealReason.1 rfl (al_le (al_1 (rf_cat _) (al_1 rfl (al_1 rfl al_n))) (Nat.le_of_ble_eq_true rfl)) (ag_1 (rf_cat _) (ag_1 rfl (ag_1 rfl ag_n))) (fun Δ Γ B hE hnm => ?_)
  refine g_aload_n B 0 dX1_sealReason_0 rfl rfl ?_
  replace h := bnP_s h
  obtain ⟨x1, h2, h⟩ := h
  refine g_callVs0 (st := []) B (cX1_openActc h2) (Nat.le_of_ble_eq_true rfl) rfl rfl mi_X1_openAct lk_RX1_87 ⟨Nat.le_of_ble_eq_true rfl, Nat.le_of_ble_eq_true rfl⟩ rfl rfl (Nat.le_of_ble_eq_true rfl) dX1_sealReason_1 (Nat.zero_le _) (Nat.zero_le _) ?_
  refine g_astore_n B dX1_sealReason_4 rfl (Nat.le_of_ble_eq_true rfl) (s1_c (f1_k rfl (f1_k rfl (f1_1 rfl rfl f1_n)))) ?_
  refine g_aload_n B 0 dX1_sealReason_5 rfl rfl ?_
  refine g_ifnonnull B 11 dX1_sealReason_6 (by decide) (fun hc => ?_) (fun hc => ?_)
  · replace h := ifn hc h
    refine g_iload_n B 2 dX1_sealReason_11 rfl rfl ?_
    refine g_aload_n B 1 dX1_sealReason_12 rfl rfl ?_
    replace h := bnP_s h
    obtain ⟨x3, h4, h⟩ := h
    refine g_getI B fl_RX1_52 (by decide) dX1_sealReason_13 h4 ?_
    refine g_icmp_ge B 21 dX1_sealReason_16 (by decide) (fun hc => ?_) (fun hc => ?_)
    · replace h := ifp hc h
      refine g_iload_n B 3 dX1_sealReason_21 rfl rfl ?_
      refine g_aload_n B 0 dX1_sealReason_22 rfl rfl ?_
      replace h := bnP_s h
      obtain ⟨x5, h6, h⟩ := h
      refine g_getI B fl_RX1_99 (by decide) dX1_sealReason_23 h6 ?_
      refine g_icmp_eq B 31 dX1_sealReason_26 (by decide) (fun hc => ?_) (fun hc => ?_)
      · replace h := ifp hc h
        refine g_aload_n B 1 dX1_sealReason_31 rfl rfl ?_
        replace h := bnP_s h
        obtain ⟨x7, h8, h⟩ := h
        refine g_callVs0 (st := []) B (cX1_openStandingc h8) (Nat.le_of_ble_eq_true rfl) rfl rfl mi_X1_openStanding lk_RX1_204 ⟨Nat.le_of_ble_eq_true rfl, Nat.le_of_ble_eq_true rfl⟩ rfl rfl (Nat.le_of_ble_eq_true rfl) dX1_sealReason_32 (Nat.zero_le _) (Nat.zero_le _) ?_
        refine g_if_ne B 42 dX1_sealReason_35 (by decide) (fun hc => ?_) (fun hc => ?_)
        · replace h := ifn hc h
          refine g_iconst (v := 0) B dX1_sealReason_42 (by decide) ?_
          replace h := Option.some.inj h
          subst h
          exact g_iret B hE (Nat.zero_le _) (Nat.zero_le _) dX1_sealReason_43
        · replace h := ifp hc h
          refine g_iconst (v := 4) B dX1_sealReason_38 (by decide) ?_
          refine g_goto B 43 dX1_sealReason_39 (by decide) ?_
          replace h := Option.some.inj h
          subst h
          exact g_iret B hE (Nat.zero_le _) (Nat.zero_le _) dX1_sealReason_43
      · replace h := ifn hc h
        refine g_iconst (v := 3) B dX1_sealReason_29 (by decide) ?_
        replace h := Option.some.inj h
        subst h
        exact g_iret B hE (Nat.zero_le _) (Nat.zero_le _) dX1_sealReason_30
    · replace h := ifn hc h
      refine g_iconst (v := 2) B dX1_sealReason_19 (by decide) ?_
      replace h := Option.some.inj h
      subst h
      exact g_iret B hE (Nat.zero_le _) (Nat.zero_le _) dX1_sealReason_20
  · replace h := ifp hc h
    refine g_iconst (v := 1) B dX1_sealReason_9 (by decide) ?_
    replace h := Option.some.inj h
    subst h
    exact g_iret B hE (Nat.zero_le _) (Nat.zero_le _) dX1_sealReason_10
set_option maxRecDepth 100000 in
set_option maxHeartbeats 4000000 in
theorem cX1_sealOpenc {l : Launch} {v0 : Option Nat} {v1 : Int32} {σ : HpT} {r : Int32} {σ' : HpT} (h : fX1_sealOpen v0 v1 σ = some (r, σ')) : IsK σ v0 1 ∧ Ct l yX1_sealOpen cX1_sealOpen 3 (some .int) 3 69 [va_rf v0, .int v1] σ (.ok (some (.int r))) σ' 0 0 := by
  unfold fX1_sealOpen at h
  replace h := bnP_s h
  obtain ⟨u, hk, h⟩ := h
  replace hk := isK_s hk
  refine ⟨hk, ?_⟩
  refine ct_start mi_X1_sealOpen.1 rfl (al_le (al_1 (rf_cat _) (al_1 rfl al_n)) (Nat.le_of_ble_eq_true rfl)) (ag_1 (rf_cat _) (ag_1 rfl ag_n)) (fun Δ Γ B hE hnm => ?_)
  refine g_aload_n B 0 dX1_sealOpen_0 rfl rfl ?_
  replace h := bnP_s h
  obtain ⟨x1, h2, h⟩ := h
  refine g_callVs0 (st := []) B (cX1_openActc h2) (Nat.le_of_ble_eq_true rfl) rfl rfl mi_X1_openAct lk_RX1_87 ⟨Nat.le_of_ble_eq_true rfl, Nat.le_of_ble_eq_true rfl⟩ rfl rfl (Nat.le_of_ble_eq_true rfl) dX1_sealOpen_1 (Nat.zero_le _) (Nat.zero_le _) ?_
  refine g_astore_n B dX1_sealOpen_4 rfl (Nat.le_of_ble_eq_true rfl) (s1_c (f1_k rfl (f1_1 rfl rfl f1_n))) ?_
  refine g_aload_n B 0 dX1_sealOpen_5 rfl rfl ?_
  refine g_ifnonnull B 11 dX1_sealOpen_6 (by decide) (fun hc => ?_) (fun hc => ?_)
  · replace h := ifn hc h
    refine g_aload_n B 0 dX1_sealOpen_11 rfl rfl ?_
    refine g_aload_n B 0 dX1_sealOpen_12 rfl rfl ?_
    replace h := bnP_s h
    obtain ⟨x3, h4, h⟩ := h
    refine g_callVs0 (st := [va_rf x1]) B (cX0_baseFeec h4) (Nat.le_of_ble_eq_true rfl) rfl rfl mi_X0_baseFee lk_RX1_207 ⟨Nat.le_of_ble_eq_true rfl, Nat.le_of_ble_eq_true rfl⟩ rfl rfl (Nat.le_of_ble_eq_true rfl) dX1_sealOpen_13 (Nat.zero_le _) (Nat.zero_le _) ?_
    refine g_aload_n B 1 dX1_sealOpen_16 rfl rfl ?_
    replace h := bnP_s h
    obtain ⟨x5, h6, h⟩ := h
    refine g_callVs0 (st := [.int x3, va_rf x1]) B (cX1_openStandingc h6) (Nat.le_of_ble_eq_true rfl) rfl rfl mi_X1_openStanding lk_RX1_204 ⟨Nat.le_of_ble_eq_true rfl, Nat.le_of_ble_eq_true rfl⟩ rfl rfl (Nat.le_of_ble_eq_true rfl) dX1_sealOpen_17 (Nat.zero_le _) (Nat.zero_le _) ?_
    refine g_iadd B dX1_sealOpen_20 ?_
    replace h := bnP_s h
    obtain ⟨s9, h8, h⟩ := h
    refine g_putI B fl_RX1_210 (by decide) dX1_sealOpen_21 h8 ?_
    refine g_aload_n B 0 dX1_sealOpen_24 rfl rfl ?_
    refine g_iload_n B 2 dX1_sealOpen_25 rfl rfl ?_
    replace h := bnP_s h
    obtain ⟨s12, h11, h⟩ := h
    refine g_putI B fl_RX1_212 (by decide) dX1_sealOpen_26 h11 ?_
    refine g_aload_n B 0 dX1_sealOpen_29 rfl rfl ?_
    refine g_iconst (v := 1) B dX1_sealOpen_30 (by decide) ?_
    replace h := bnP_s h
    obtain ⟨s15, h14, h⟩ := h
    refine g_putI B fl_RX1_84 (by decide) dX1_sealOpen_31 h14 ?_
    refine g_aload_n B 1 dX1_sealOpen_34 rfl rfl ?_
    refine g_dup B dX1_sealOpen_35 (rf_cat _) ?_
    replace h := bnP_s h
    obtain ⟨x16, h17, h⟩ := h
    refine g_getI B fl_RX1_61 (by decide) dX1_sealOpen_36 h17 ?_
    refine g_aload_n B 0 dX1_sealOpen_39 rfl rfl ?_
    replace h := bnP_s h
    obtain ⟨x18, h19, h⟩ := h
    refine g_getI B fl_RX1_210 (by decide) dX1_sealOpen_40 h19 ?_
    refine g_iadd B dX1_sealOpen_43 ?_
    replace h := bnP_s h
    obtain ⟨s22, h21, h⟩ := h
    refine g_putI B fl_RX1_61 (by decide) dX1_sealOpen_44 h21 ?_
    refine g_aload_n B 0 dX1_sealOpen_47 rfl rfl ?_
    replace h := bnP_s h
    obtain ⟨x23, h24, h⟩ := h
    refine g_getI B fl_RX1_210 (by decide) dX1_sealOpen_48 h24 ?_
    obtain ⟨w1, w2⟩ := inS h
    clear h
    subst w1
    subst w2
    exact g_iret B hE (Nat.zero_le _) (Nat.zero_le _) dX1_sealOpen_51
  · replace h := ifp hc h
    refine g_iconst (v := 0) B dX1_sealOpen_9 (by decide) ?_
    obtain ⟨w1, w2⟩ := inS h
    clear h
    subst w1
    subst w2
    exact g_iret B hE (Nat.zero_le _) (Nat.zero_le _) dX1_sealOpen_10
set_option maxRecDepth 100000 in
set_option maxHeartbeats 4000000 in
theorem cX1_cancelOpenc {l : Launch} {v0 : Option Nat} {σ : HpT} {σ' : HpT} (h : fX1_cancelOpen v0 σ = some σ') : IsK σ v0 1 ∧ Ct l yX1_cancelOpen cX1_cancelOpen 2 none 1 20 [va_rf v0] σ (.ok none) σ' 0 0 := by
  unfold fX1_cancelOpen at h
  replace h := bnP_s h
  obtain ⟨u, hk, h⟩ := h
  replace hk := isK_s hk
  refine ⟨hk, ?_⟩
  refine ct_start mi_X1_cancelOpen.1 rfl (al_le (al_1 (rf_cat _) al_n) (Nat.le_of_ble_eq_true rfl)) (ag_1 (rf_cat _) ag_n) (fun Δ Γ B hE hnm => ?_)
  refine g_aload_n B 0 dX1_cancelOpen_0 rfl rfl ?_
  replace h := bnP_s h
  obtain ⟨x1, h2, h⟩ := h
  refine g_callVs0 (st := []) B (cX1_openActc h2) (Nat.le_of_ble_eq_true rfl) rfl rfl mi_X1_openAct lk_RX1_87 ⟨Nat.le_of_ble_eq_true rfl, Nat.le_of_ble_eq_true rfl⟩ rfl rfl (Nat.le_of_ble_eq_true rfl) dX1_cancelOpen_1 (Nat.zero_le _) (Nat.zero_le _) ?_
  refine g_astore_n B dX1_cancelOpen_4 rfl (Nat.le_of_ble_eq_true rfl) (s1_c (f1_1 rfl (rf_cat _) f1_n)) ?_
  refine g_aload_n B 0 dX1_cancelOpen_5 rfl rfl ?_
  refine g_ifnull B 14 dX1_cancelOpen_6 (by decide) (fun hc => ?_) (fun hc => ?_)
  · replace h := ifp hc h
    replace h := Option.some.inj h
    subst h
    exact g_vret B hE (Nat.zero_le _) (Nat.zero_le _) dX1_cancelOpen_14
  · replace h := ifn hc h
    refine g_aload_n B 0 dX1_cancelOpen_9 rfl rfl ?_
    refine g_iconst (v := 2) B dX1_cancelOpen_10 (by decide) ?_
    replace h := bnP_s h
    obtain ⟨s5, h4, h⟩ := h
    refine g_putI B fl_RX1_84 (by decide) dX1_cancelOpen_11 h4 ?_
    replace h := Option.some.inj h
    subst h
    exact g_vret B hE (Nat.zero_le _) (Nat.zero_le _) dX1_cancelOpen_14
set_option maxRecDepth 100000 in
set_option maxHeartbeats 4000000 in
theorem cX1_wordsGapc {l : Launch} {v0 : Option Nat} {σ : HpT} {r : Int32} (h : fX1_wordsGap v0 σ = some r) : IsK σ v0 1 ∧ Ct l yX1_wordsGap cX1_wordsGap 3 (some .int) 2 42 [va_rf v0] σ (.ok (some (.int r))) σ 0 0 := by
  unfold fX1_wordsGap at h
  replace h := bnP_s h
  obtain ⟨u, hk, h⟩ := h
  replace hk := isK_s hk
  refine ⟨hk, ?_⟩
  refine ct_start mi_X1_wordsGap.1 rfl (al_le (al_1 (rf_cat _) al_n) (Nat.le_of_ble_eq_true rfl)) (ag_1 (rf_cat _) ag_n) (fun Δ Γ B hE hnm => ?_)
  refine g_iconst (v := 0) B dX1_wordsGap_0 (by decide) ?_
  refine g_istore_n B dX1_wordsGap_1 rfl (Nat.le_of_ble_eq_true rfl) (s1_c (f1_1 rfl (rf_cat _) f1_n)) ?_
  refine g_iconst (v := 0) B dX1_wordsGap_2 (by decide) ?_
  refine g_istore_n B dX1_wordsGap_3 rfl (Nat.le_of_ble_eq_true rfl) (s1_c (f1_1 rfl rfl (f1_k rfl f1_n))) ?_
  replace h := bnP_s h
  obtain ⟨r2, h3, h⟩ := h
  have kE4 : GW Δ Γ (0) (0) 29 [(0, va_rf v0), (1, .int r2)] [] σ := by
    refine g_iconst (v := 0) B dX1_wordsGap_29 (by decide) ?_
    refine g_istore_n B dX1_wordsGap_30 rfl (Nat.le_of_ble_eq_true rfl) (s1_c (f1_k rfl (f1_1 rfl rfl f1_n))) ?_
    replace h := bnP_s h
    obtain ⟨r17, h18, h⟩ := h
    have kE19 : GW Δ Γ (0) (0) 57 [(1, .int r17)] [] σ := by
      refine g_iload_n B 0 dX1_wordsGap_57 rfl rfl ?_
      refine g_mabs B mt_RX1_215 (by decide) (Nat.le_of_ble_eq_true rfl) dX1_wordsGap_58 (Nat.zero_le _) (Nat.zero_le _) ?_
      replace h := Option.some.inj h
      subst h
      exact g_iret B hE (Nat.zero_le _) (Nat.zero_le _) dX1_wordsGap_61
    clear h
    refine g_sub [1, 2, 0] rfl ?_
    refine lpP_w (I := fun q16 => GW Δ Γ (0) (0) 31 [(0, va_rf v0), (1, .int q16.1), (2, .int q16.2)] [] σ) (r := r17) ?_ FUEL (r2, 0) h18
    intro q16 x23 h hI21 hR22
    unfold fX1_wordsGap_l2 at h
    refine g_iload_n B 2 dX1_wordsGap_31 rfl rfl ?_
    refine g_aload_n B 0 dX1_wordsGap_32 rfl rfl ?_
    replace h := bnP_s h
    obtain ⟨x25, h26, h⟩ := h
    refine g_getI B fl_RX1_55 (by decide) dX1_wordsGap_33 h26 ?_
    refine g_icmp_ge B 57 dX1_wordsGap_36 (by decide) (fun hc => ?_) (fun hc => ?_)
    · replace h := ifp hc h
      replace h := Option.some.inj h
      subst h
      have e8 := hR22 _ rfl
      subst e8
      exact g_sub [1] rfl kE19
    · replace h := ifn hc h
      refine g_iload_n B 1 dX1_wordsGap_39 rfl rfl ?_
      refine g_aload_n B 0 dX1_wordsGap_40 rfl rfl ?_
      replace h := bnP_s h
      obtain ⟨x27, h28, h⟩ := h
      refine g_getR B fl_RX1_11 (by decide) dX1_wordsGap_41 h28 ?_
      refine g_iload_n B 2 dX1_wordsGap_44 rfl rfl ?_
      replace h := bnP_s h
      obtain ⟨x29, h30, h⟩ := h
      refine g_ralds B (κ := 25) (by decide) rfl dX1_wordsGap_45 h30 ?_
      replace h := bnP_s h
      obtain ⟨x31, h32, h⟩ := h
      refine g_getI B fl_RX1_91 (by decide) dX1_wordsGap_46 h32 ?_
      refine g_isub B dX1_wordsGap_49 ?_
      refine g_istore_n B dX1_wordsGap_50 rfl (Nat.le_of_ble_eq_true rfl) (s1_c (f1_1 rfl (rf_cat _) (f1_x (f1_k rfl f1_n)))) ?_
      refine g_iinc (v := (q16.2 + 1)) B 2 dX1_wordsGap_51 rfl (by first | rfl | (congr 1; decide)) (Nat.le_of_ble_eq_true rfl) (s1_c (f1_1 rfl rfl (f1_k rfl (f1_x f1_n)))) ?_
      refine g_goto B 31 dX1_wordsGap_54 (by decide) ?_
      replace h := Option.some.inj h
      subst h
      exact g_sub [2, 1, 0] rfl (hI21 _ rfl)
  clear h
  refine g_sub [2, 1, 0] rfl ?_
  refine lpP_w (I := fun q1 => GW Δ Γ (0) (0) 4 [(0, va_rf v0), (1, .int q1.1), (2, .int q1.2)] [] σ) (r := r2) ?_ FUEL (0, 0) h3
  intro q1 x8 h hI6 hR7
  unfold fX1_wordsGap_l1 at h
  refine g_iload_n B 2 dX1_wordsGap_4 rfl rfl ?_
  refine g_aload_n B 0 dX1_wordsGap_5 rfl rfl ?_
  replace h := bnP_s h
  obtain ⟨x10, h11, h⟩ := h
  refine g_getR B fl_RX1_31 (by decide) dX1_wordsGap_6 h11 ?_
  replace h := bnP_s h
  obtain ⟨x12, h13, h⟩ := h
  refine g_getI B fl_RX1_83 (by decide) dX1_wordsGap_9 h13 ?_
  refine g_icmp_ge B 29 dX1_wordsGap_12 (by decide) (fun hc => ?_) (fun hc => ?_)
  · replace h := ifp hc h
    replace h := Option.some.inj h
    subst h
    have e8 := hR7 _ rfl
    subst e8
    exact g_sub [0, 1] rfl kE4
  · replace h := ifn hc h
    refine g_iload_n B 1 dX1_wordsGap_15 rfl rfl ?_
    refine g_aload_n B 0 dX1_wordsGap_16 rfl rfl ?_
    refine g_iload_n B 2 dX1_wordsGap_17 rfl rfl ?_
    replace h := bnP_s h
    obtain ⟨x14, h15, h⟩ := h
    refine g_callVs0 (st := [.int q1.1]) B (cX1_wordsOnc h15) (Nat.le_of_ble_eq_true rfl) rfl rfl mi_X1_wordsOn lk_RX1_146 ⟨Nat.le_of_ble_eq_true rfl, Nat.le_of_ble_eq_true rfl⟩ rfl rfl (Nat.le_of_ble_eq_true rfl) dX1_wordsGap_18 (Nat.zero_le _) (Nat.zero_le _) ?_
    refine g_iadd B dX1_wordsGap_21 ?_
    refine g_istore_n B dX1_wordsGap_22 rfl (Nat.le_of_ble_eq_true rfl) (s1_c (f1_1 rfl (rf_cat _) (f1_x (f1_k rfl f1_n)))) ?_
    refine g_iinc (v := (q1.2 + 1)) B 2 dX1_wordsGap_23 rfl (by first | rfl | (congr 1; decide)) (Nat.le_of_ble_eq_true rfl) (s1_c (f1_1 rfl rfl (f1_k rfl (f1_x f1_n)))) ?_
    refine g_goto B 4 dX1_wordsGap_26 (by decide) ?_
    replace h := Option.some.inj h
    subst h
    exact g_sub [2, 1, 0] rfl (hI6 _ rfl)
set_option maxRecDepth 100000 in
set_option maxHeartbeats 4000000 in
theorem cX8_standingByClausesc {l : Launch} {v0 : Option Nat} {v1 : Int32} {v2 : Int32} {σ : HpT} {r : Int32} (h : fX8_standingByClauses v0 v1 v2 σ = some r) : IsK σ v0 8 ∧ Ct l yX8_standingByClauses cX8_standingByClauses 7 (some .int) 2 48 [va_rf v0, .int v1, .int v2] σ (.ok (some (.int r))) σ 0 0 := by
  unfold fX8_standingByClauses at h
  replace h := bnP_s h
  obtain ⟨u, hk, h⟩ := h
  replace hk := isK_s hk
  refine ⟨hk, ?_⟩
  refine ct_start mi_X8_standingByClauses.1 rfl (al_le (al_1 (rf_cat _) (al_1 rfl (al_1 rfl al_n))) (Nat.le_of_ble_eq_true rfl)) (ag_1 (rf_cat _) (ag_1 rfl (ag_1 rfl ag_n))) (fun Δ Γ B hE hnm => ?_)
  refine g_iconst (v := 0) B dX8_standingByClauses_0 (by decide) ?_
  refine g_istore_n B dX8_standingByClauses_1 rfl (Nat.le_of_ble_eq_true rfl) (s1_c (f1_k rfl (f1_k rfl (f1_1 rfl rfl f1_n)))) ?_
  refine g_iconst (v := 0) B dX8_standingByClauses_2 (by decide) ?_
  refine g_istore B dX8_standingByClauses_3 (Nat.le_of_ble_eq_true rfl) (s1_c (f1_1 rfl rfl (f1_k rfl (f1_k rfl (f1_k rfl f1_n))))) ?_
  refine g_iconst (v := 0) B dX8_standingByClauses_5 (by decide) ?_
  refine g_istore B dX8_standingByClauses_6 (Nat.le_of_ble_eq_true rfl) (s1_c (f1_1 rfl rfl (f1_k rfl (f1_k rfl (f1_k rfl (f1_k rfl f1_n)))))) ?_
  refine g_iload_n B 4 dX8_standingByClauses_8 rfl rfl ?_
  refine g_istore B dX8_standingByClauses_9 (Nat.le_of_ble_eq_true rfl) (s1_c (f1_1 rfl rfl (f1_k rfl (f1_k rfl (f1_k rfl (f1_k rfl (f1_k rfl f1_n))))))) ?_
  replace h := bnP_s h
  obtain ⟨r2, h3, h⟩ := h
  have kE4 : GW Δ Γ (0) (0) 74 [(3, .int r2)] [] σ := by
    refine g_iload_n B 0 dX8_standingByClauses_74 rfl rfl ?_
    replace h := Option.some.inj h
    subst h
    exact g_iret B hE (Nat.zero_le _) (Nat.zero_le _) dX8_standingByClauses_75
  clear h
  refine g_sub [4, 5, 6, 3, 2, 1, 0] rfl ?_
  refine lpP_w (I := fun q1 => GW Δ Γ (0) (0) 11 [(0, va_rf v0), (1, .int v1), (2, .int v2), (3, .int q1.1), (4, .int q1.2.1), (5, .int q1.2.2.1), (6, .int q1.2.2.2)] [] σ) (r := r2) ?_ FUEL (0, 0, 0, v1) h3
  intro q1 x8 h hI6 hR7
  unfold fX8_standingByClauses_l1 at h
  obtain ⟨qv10, qv11, qv12, qv13⟩ := q1
  show GW Δ Γ (0) (0) 11 [(0, va_rf v0), (1, .int v1), (2, .int v2), (3, .int qv10), (4, .int qv11), (5, .int qv12), (6, .int qv13)] [] σ
  dsimp only at h
  refine g_iload B 6 dX8_standingByClauses_11 rfl ?_
  refine g_iload_n B 1 dX8_standingByClauses_13 rfl rfl ?_
  refine g_iload_n B 2 dX8_standingByClauses_14 rfl rfl ?_
  refine g_iadd B dX8_standingByClauses_15 ?_
  refine g_icmp_ge B 74 dX8_standingByClauses_16 (by decide) (fun hc => ?_) (fun hc => ?_)
  · replace h := ifp hc h
    replace h := Option.some.inj h
    subst h
    have e8 := hR7 _ rfl
    subst e8
    exact g_sub [3] rfl kE4
  · replace h := ifn hc h
    refine g_iload B 5 dX8_standingByClauses_19 rfl ?_
    refine g_aload_n B 0 dX8_standingByClauses_21 rfl rfl ?_
    replace h := bnP_s h
    obtain ⟨x14, h15, h⟩ := h
    refine g_getR B fl_RX8_15 (by decide) dX8_standingByClauses_22 h15 ?_
    refine g_iload B 6 dX8_standingByClauses_25 rfl ?_
    replace h := bnP_s h
    obtain ⟨x16, h17, h⟩ := h
    refine g_iald B dX8_standingByClauses_27 h17 ?_
    refine g_iadd B dX8_standingByClauses_28 ?_
    refine g_istore B dX8_standingByClauses_29 (Nat.le_of_ble_eq_true rfl) (s1_c (f1_k rfl (f1_k rfl (f1_k rfl (f1_k rfl (f1_1 rfl rfl (f1_x (f1_k rfl f1_n)))))))) ?_
    refine g_iload B 5 dX8_standingByClauses_31 rfl ?_
    refine g_aload_n B 1 dX8_standingByClauses_33 rfl rfl ?_
    refine g_iload B 6 dX8_standingByClauses_34 rfl ?_
    refine g_iconst (v := 1) B dX8_standingByClauses_36 (by decide) ?_
    replace h := bnP_s h
    obtain ⟨x18, h19, h⟩ := h
    refine g_callVs0 (st := [.int qv11]) B (cX8_standingFromc h19) (Nat.le_of_ble_eq_true rfl) rfl rfl mi_X8_standingFrom lk_RX8_46 ⟨Nat.le_of_ble_eq_true rfl, Nat.le_of_ble_eq_true rfl⟩ rfl rfl (Nat.le_of_ble_eq_true rfl) dX8_standingByClauses_37 (Nat.zero_le _) (Nat.zero_le _) ?_
    refine g_iadd B dX8_standingByClauses_40 ?_
    refine g_istore B dX8_standingByClauses_41 (Nat.le_of_ble_eq_true rfl) (s1_c (f1_k rfl (f1_k rfl (f1_k rfl (f1_k rfl (f1_1 rfl rfl (f1_x (f1_k rfl f1_n)))))))) ?_
    refine g_iload B 1 dX8_standingByClauses_43 rfl ?_
    refine g_aload_n B 2 dX8_standingByClauses_45 rfl rfl ?_
    replace h := bnP_s h
    obtain ⟨x20, h21, h⟩ := h
    refine g_getR B fl_RX8_19 (by decide) dX8_standingByClauses_46 h21 ?_
    refine g_iload B 6 dX8_standingByClauses_49 rfl ?_
    replace h := bnP_s h
    obtain ⟨x22, h23, h⟩ := h
    refine g_iald B dX8_standingByClauses_51 h23 ?_
    refine g_isub B dX8_standingByClauses_52 ?_
    refine g_istore B dX8_standingByClauses_53 (Nat.le_of_ble_eq_true rfl) (s1_c (f1_1 rfl rfl (f1_x (f1_k rfl (f1_k rfl (f1_k rfl (f1_k rfl (f1_k rfl f1_n)))))))) ?_
    refine g_iload B 0 dX8_standingByClauses_55 rfl ?_
    refine g_if_ne B 68 dX8_standingByClauses_57 (by decide) (fun hc => ?_) (fun hc => ?_)
    · replace h := ifn hc h
      refine g_iinc (v := (qv13 + 1)) B 6 dX8_standingByClauses_68 rfl (by first | rfl | (congr 1; decide)) (Nat.le_of_ble_eq_true rfl) (s1_c (f1_1 rfl rfl (f1_k rfl (f1_k rfl (f1_k rfl (f1_k rfl (f1_k rfl (f1_x f1_n)))))))) ?_
      refine g_goto B 11 dX8_standingByClauses_71 (by decide) ?_
      replace h := Option.some.inj h
      subst h
      exact g_sub [3, 4, 5, 6, 2, 1, 0] rfl (hI6 (qv10, (qv11 + x18), ((qv12 + x16) - x22), (qv13 + 1)) rfl)
    · replace h := ifp hc h
      refine g_iload_n B 5 dX8_standingByClauses_60 rfl rfl ?_
      refine g_iload B 1 dX8_standingByClauses_61 rfl ?_
      refine g_iadd B dX8_standingByClauses_63 ?_
      refine g_istore_n B dX8_standingByClauses_64 rfl (Nat.le_of_ble_eq_true rfl) (s1_c (f1_k rfl (f1_k rfl (f1_k rfl (f1_k rfl (f1_1 rfl rfl (f1_x (f1_k rfl f1_n)))))))) ?_
      refine g_iconst (v := 0) B dX8_standingByClauses_65 (by decide) ?_
      refine g_istore B dX8_standingByClauses_66 (Nat.le_of_ble_eq_true rfl) (s1_c (f1_1 rfl rfl (f1_k rfl (f1_x (f1_k rfl (f1_k rfl (f1_k rfl (f1_k rfl f1_n)))))))) ?_
      refine g_iinc (v := (qv13 + 1)) B 6 dX8_standingByClauses_68 rfl (by first | rfl | (congr 1; decide)) (Nat.le_of_ble_eq_true rfl) (s1_c (f1_k rfl (f1_k rfl (f1_1 rfl rfl (f1_k rfl (f1_k rfl (f1_k rfl (f1_x f1_n)))))))) ?_
      refine g_goto B 11 dX8_standingByClauses_71 (by decide) ?_
      replace h := Option.some.inj h
      subst h
      exact g_sub [4, 5, 6, 2, 1, 3, 0] rfl (hI6 ((qv10 + (qv11 + x18)), 0, ((qv12 + x16) - x22), (qv13 + 1)) rfl)
set_option maxRecDepth 100000 in
set_option maxHeartbeats 4000000 in
theorem cX1_standingGapc {l : Launch} {v0 : Option Nat} {σ : HpT} {r : Int32} (h : fX1_standingGap v0 σ = some r) : IsK σ v0 1 ∧ Ct l yX1_standingGap cX1_standingGap 4 (some .int) 3 74 [va_rf v0] σ (.ok (some (.int r))) σ 0 0 := by
  unfold fX1_standingGap at h
  replace h := bnP_s h
  obtain ⟨u, hk, h⟩ := h
  replace hk := isK_s hk
  refine ⟨hk, ?_⟩
  refine ct_start mi_X1_standingGap.1 rfl (al_le (al_1 (rf_cat _) al_n) (Nat.le_of_ble_eq_true rfl)) (ag_1 (rf_cat _) ag_n) (fun Δ Γ B hE hnm => ?_)
  refine g_iconst (v := 0) B dX1_standingGap_0 (by decide) ?_
  refine g_istore_n B dX1_standingGap_1 rfl (Nat.le_of_ble_eq_true rfl) (s1_c (f1_1 rfl (rf_cat _) f1_n)) ?_
  refine g_iconst (v := 0) B dX1_standingGap_2 (by decide) ?_
  refine g_istore_n B dX1_standingGap_3 rfl (Nat.le_of_ble_eq_true rfl) (s1_c (f1_1 rfl rfl (f1_k rfl f1_n))) ?_
  replace h := bnP_s h
  obtain ⟨r2, h3, h⟩ := h
  have kE4 : GW Δ Γ (0) (0) 76 [(1, .int r2)] [] σ := by
    refine g_iload_n B 0 dX1_standingGap_76 rfl rfl ?_
    replace h := Option.some.inj h
    subst h
    exact g_iret B hE (Nat.zero_le _) (Nat.zero_le _) dX1_standingGap_77
  clear h
  refine g_sub [2, 1, 0] rfl ?_
  refine lpP_w (I := fun q1 => GW Δ Γ (0) (0) 4 [(0, va_rf v0), (1, .int q1.1), (2, .int q1.2)] [] σ) (r := r2) ?_ FUEL (0, 0) h3
  intro q1 x8 h hI6 hR7
  unfold fX1_standingGap_l1 at h
  obtain ⟨qv10, qv11⟩ := q1
  show GW Δ Γ (0) (0) 4 [(0, va_rf v0), (1, .int qv10), (2, .int qv11)] [] σ
  dsimp only at h
  refine g_iload_n B 2 dX1_standingGap_4 rfl rfl ?_
  refine g_aload_n B 0 dX1_standingGap_5 rfl rfl ?_
  replace h := bnP_s h
  obtain ⟨x12, h13, h⟩ := h
  refine g_getI B fl_RX1_55 (by decide) dX1_standingGap_6 h13 ?_
  refine g_icmp_ge B 76 dX1_standingGap_9 (by decide) (fun hc => ?_) (fun hc => ?_)
  · replace h := ifp hc h
    replace h := Option.some.inj h
    subst h
    have e8 := hR7 _ rfl
    subst e8
    exact g_sub [1] rfl kE4
  · replace h := ifn hc h
    refine g_aload_n B 0 dX1_standingGap_12 rfl rfl ?_
    replace h := bnP_s h
    obtain ⟨x14, h15, h⟩ := h
    refine g_getR B fl_RX1_24 (by decide) dX1_standingGap_13 h15 ?_
    refine g_aload_n B 0 dX1_standingGap_16 rfl rfl ?_
    replace h := bnP_s h
    obtain ⟨x16, h17, h⟩ := h
    refine g_getR B fl_RX1_11 (by decide) dX1_standingGap_17 h17 ?_
    refine g_iload_n B 2 dX1_standingGap_20 rfl rfl ?_
    replace h := bnP_s h
    obtain ⟨x18, h19, h⟩ := h
    refine g_ralds B (κ := 25) (by decide) rfl dX1_standingGap_21 h19 ?_
    replace h := bnP_s h
    obtain ⟨x20, h21, h⟩ := h
    refine g_getI B fl_RX1_92 (by decide) dX1_standingGap_22 h21 ?_
    refine g_aload_n B 0 dX1_standingGap_25 rfl rfl ?_
    replace h := bnP_s h
    obtain ⟨x22, h23, h⟩ := h
    refine g_getR B fl_RX1_11 (by decide) dX1_standingGap_26 h23 ?_
    refine g_iload_n B 2 dX1_standingGap_29 rfl rfl ?_
    replace h := bnP_s h
    obtain ⟨x24, h25, h⟩ := h
    refine g_ralds B (κ := 25) (by decide) rfl dX1_standingGap_30 h25 ?_
    replace h := bnP_s h
    obtain ⟨x26, h27, h⟩ := h
    refine g_getI B fl_RX1_91 (by decide) dX1_standingGap_31 h27 ?_
    replace h := bnP_s h
    obtain ⟨x28, h29, h⟩ := h
    refine g_callVs0 (st := []) B (cX8_standingByClausesc h29) (Nat.le_of_ble_eq_true rfl) rfl rfl mi_X8_standingByClauses lk_RX1_218 ⟨Nat.le_of_ble_eq_true rfl, Nat.le_of_ble_eq_true rfl⟩ rfl rfl (Nat.le_of_ble_eq_true rfl) dX1_standingGap_34 (Nat.zero_le _) (Nat.zero_le _) ?_
    refine g_istore_n B dX1_standingGap_37 rfl (Nat.le_of_ble_eq_true rfl) (s1_c (f1_k rfl (f1_k rfl (f1_1 rfl rfl f1_n)))) ?_
    refine g_iload_n B 0 dX1_standingGap_38 rfl rfl ?_
    refine g_aload_n B 1 dX1_standingGap_39 rfl rfl ?_
    replace h := bnP_s h
    obtain ⟨x30, h31, h⟩ := h
    refine g_getR B fl_RX1_24 (by decide) dX1_standingGap_40 h31 ?_
    refine g_aload_n B 1 dX1_standingGap_43 rfl rfl ?_
    replace h := bnP_s h
    obtain ⟨x32, h33, h⟩ := h
    refine g_getR B fl_RX1_11 (by decide) dX1_standingGap_44 h33 ?_
    refine g_iload_n B 3 dX1_standingGap_47 rfl rfl ?_
    replace h := bnP_s h
    obtain ⟨x34, h35, h⟩ := h
    refine g_ralds B (κ := 25) (by decide) rfl dX1_standingGap_48 h35 ?_
    replace h := bnP_s h
    obtain ⟨x36, h37, h⟩ := h
    refine g_getI B fl_RX1_92 (by decide) dX1_standingGap_49 h37 ?_
    refine g_aload_n B 1 dX1_standingGap_52 rfl rfl ?_
    replace h := bnP_s h
    obtain ⟨x38, h39, h⟩ := h
    refine g_getR B fl_RX1_11 (by decide) dX1_standingGap_53 h39 ?_
    refine g_iload_n B 3 dX1_standingGap_56 rfl rfl ?_
    replace h := bnP_s h
    obtain ⟨x40, h41, h⟩ := h
    refine g_ralds B (κ := 25) (by decide) rfl dX1_standingGap_57 h41 ?_
    replace h := bnP_s h
    obtain ⟨x42, h43, h⟩ := h
    refine g_getI B fl_RX1_91 (by decide) dX1_standingGap_58 h43 ?_
    replace h := bnP_s h
    obtain ⟨x44, h45, h⟩ := h
    refine g_callVs0 (st := [.int x28]) B (cX8_standingFromc h45) (Nat.le_of_ble_eq_true rfl) rfl rfl mi_X8_standingFrom lk_RX1_95 ⟨Nat.le_of_ble_eq_true rfl, Nat.le_of_ble_eq_true rfl⟩ rfl rfl (Nat.le_of_ble_eq_true rfl) dX1_standingGap_61 (Nat.zero_le _) (Nat.zero_le _) ?_
    refine g_icmp_eq B 70 dX1_standingGap_64 (by decide) (fun hc => ?_) (fun hc => ?_)
    · replace h := ifp hc h
      refine g_iinc (v := (qv11 + 1)) B 3 dX1_standingGap_70 rfl (by first | rfl | (congr 1; decide)) (Nat.le_of_ble_eq_true rfl) (s1_c (f1_k rfl (f1_k rfl (f1_1 rfl rfl (f1_x f1_n))))) ?_
      refine g_goto B 4 dX1_standingGap_73 (by decide) ?_
      replace h := Option.some.inj h
      subst h
      exact g_sub [2, 3, 0] rfl (hI6 (qv10, (qv11 + 1)) rfl)
    · replace h := ifn hc h
      refine g_iinc (v := (qv10 + 1)) B 2 dX1_standingGap_67 rfl (by first | rfl | (congr 1; decide)) (Nat.le_of_ble_eq_true rfl) (s1_c (f1_k rfl (f1_1 rfl (rf_cat _) (f1_x (f1_k rfl f1_n))))) ?_
      refine g_iinc (v := (qv11 + 1)) B 3 dX1_standingGap_70 rfl (by first | rfl | (congr 1; decide)) (Nat.le_of_ble_eq_true rfl) (s1_c (f1_1 rfl rfl (f1_k rfl (f1_k rfl (f1_x f1_n))))) ?_
      refine g_goto B 4 dX1_standingGap_73 (by decide) ?_
      replace h := Option.some.inj h
      subst h
      exact g_sub [3, 1, 0] rfl (hI6 ((qv10 + 1), (qv11 + 1)) rfl)
set_option maxRecDepth 100000 in
set_option maxHeartbeats 4000000 in
theorem cX1_cashGapc {l : Launch} {v0 : Option Nat} {σ : HpT} {r : Int32} (h : fX1_cashGap v0 σ = some r) : IsK σ v0 1 ∧ Ct l yX1_cashGap cX1_cashGap 3 (some .int) 1 21 [va_rf v0] σ (.ok (some (.int r))) σ 0 0 := by
  unfold fX1_cashGap at h
  replace h := bnP_s h
  obtain ⟨u, hk, h⟩ := h
  replace hk := isK_s hk
  refine ⟨hk, ?_⟩
  refine ct_start mi_X1_cashGap.1 rfl (al_le (al_1 (rf_cat _) al_n) (Nat.le_of_ble_eq_true rfl)) (ag_1 (rf_cat _) ag_n) (fun Δ Γ B hE hnm => ?_)
  refine g_aload_n B 0 dX1_cashGap_0 rfl rfl ?_
  replace h := bnP_s h
  obtain ⟨x1, h2, h⟩ := h
  refine g_getI B fl_RX1_61 (by decide) dX1_cashGap_1 h2 ?_
  refine g_aload_n B 0 dX1_cashGap_4 rfl rfl ?_
  replace h := bnP_s h
  obtain ⟨x3, h4, h⟩ := h
  refine g_getI B fl_RX1_64 (by decide) dX1_cashGap_5 h4 ?_
  refine g_isub B dX1_cashGap_8 ?_
  refine g_istore_n B dX1_cashGap_9 rfl (Nat.le_of_ble_eq_true rfl) (s1_c (f1_1 rfl (rf_cat _) f1_n)) ?_
  refine g_iconst (v := 0) B dX1_cashGap_10 (by decide) ?_
  refine g_istore_n B dX1_cashGap_11 rfl (Nat.le_of_ble_eq_true rfl) (s1_c (f1_1 rfl rfl (f1_k rfl f1_n))) ?_
  replace h := bnP_s h
  obtain ⟨r6, h7, h⟩ := h
  have kE8 : GW Δ Γ (0) (0) 38 [(0, va_rf v0), (1, .int r6)] [] σ := by
    refine g_iconst (v := 0) B dX1_cashGap_38 (by decide) ?_
    refine g_istore_n B dX1_cashGap_39 rfl (Nat.le_of_ble_eq_true rfl) (s1_c (f1_k rfl (f1_1 rfl rfl f1_n))) ?_
    replace h := bnP_s h
    obtain ⟨r23, h24, h⟩ := h
    have kE25 : GW Δ Γ (0) (0) 66 [(1, .int r23)] [] σ := by
      refine g_iload_n B 0 dX1_cashGap_66 rfl rfl ?_
      refine g_mabs B mt_RX1_215 (by decide) (Nat.le_of_ble_eq_true rfl) dX1_cashGap_67 (Nat.zero_le _) (Nat.zero_le _) ?_
      replace h := Option.some.inj h
      subst h
      exact g_iret B hE (Nat.zero_le _) (Nat.zero_le _) dX1_cashGap_70
    clear h
    refine g_sub [1, 2, 0] rfl ?_
    refine lpP_w (I := fun q22 => GW Δ Γ (0) (0) 40 [(0, va_rf v0), (1, .int q22.1), (2, .int q22.2)] [] σ) (r := r23) ?_ FUEL (r6, 0) h24
    intro q22 x29 h hI27 hR28
    unfold fX1_cashGap_l2 at h
    refine g_iload_n B 2 dX1_cashGap_40 rfl rfl ?_
    refine g_aload_n B 0 dX1_cashGap_41 rfl rfl ?_
    replace h := bnP_s h
    obtain ⟨x31, h32, h⟩ := h
    refine g_getI B fl_RX1_58 (by decide) dX1_cashGap_42 h32 ?_
    refine g_icmp_ge B 66 dX1_cashGap_45 (by decide) (fun hc => ?_) (fun hc => ?_)
    · replace h := ifp hc h
      replace h := Option.some.inj h
      subst h
      have e8 := hR28 _ rfl
      subst e8
      exact g_sub [1] rfl kE25
    · replace h := ifn hc h
      refine g_iload_n B 1 dX1_cashGap_48 rfl rfl ?_
      refine g_aload_n B 0 dX1_cashGap_49 rfl rfl ?_
      replace h := bnP_s h
      obtain ⟨x33, h34, h⟩ := h
      refine g_getR B fl_RX1_17 (by decide) dX1_cashGap_50 h34 ?_
      refine g_iload_n B 2 dX1_cashGap_53 rfl rfl ?_
      replace h := bnP_s h
      obtain ⟨x35, h36, h⟩ := h
      refine g_ralds B (κ := 26) (by decide) rfl dX1_cashGap_54 h36 ?_
      replace h := bnP_s h
      obtain ⟨x37, h38, h⟩ := h
      refine g_callVs0 (st := [.int q22.1]) B (cX3_feec h38) (Nat.le_of_ble_eq_true rfl) rfl rfl mi_X3_fee lk_RX1_160 ⟨Nat.le_of_ble_eq_true rfl, Nat.le_of_ble_eq_true rfl⟩ rfl rfl (Nat.le_of_ble_eq_true rfl) dX1_cashGap_55 (Nat.zero_le _) (Nat.zero_le _) ?_
      refine g_isub B dX1_cashGap_58 ?_
      refine g_istore_n B dX1_cashGap_59 rfl (Nat.le_of_ble_eq_true rfl) (s1_c (f1_1 rfl (rf_cat _) (f1_x (f1_k rfl f1_n)))) ?_
      refine g_iinc (v := (q22.2 + 1)) B 2 dX1_cashGap_60 rfl (by first | rfl | (congr 1; decide)) (Nat.le_of_ble_eq_true rfl) (s1_c (f1_1 rfl rfl (f1_k rfl (f1_x f1_n)))) ?_
      refine g_goto B 40 dX1_cashGap_63 (by decide) ?_
      replace h := Option.some.inj h
      subst h
      exact g_sub [2, 1, 0] rfl (hI27 _ rfl)
  clear h
  refine g_sub [2, 1, 0] rfl ?_
  refine lpP_w (I := fun q5 => GW Δ Γ (0) (0) 12 [(0, va_rf v0), (1, .int q5.1), (2, .int q5.2)] [] σ) (r := r6) ?_ FUEL ((x1 - x3), 0) h7
  intro q5 x12 h hI10 hR11
  unfold fX1_cashGap_l1 at h
  refine g_iload_n B 2 dX1_cashGap_12 rfl rfl ?_
  refine g_aload_n B 0 dX1_cashGap_13 rfl rfl ?_
  replace h := bnP_s h
  obtain ⟨x14, h15, h⟩ := h
  refine g_getI B fl_RX1_55 (by decide) dX1_cashGap_14 h15 ?_
  refine g_icmp_ge B 38 dX1_cashGap_17 (by decide) (fun hc => ?_) (fun hc => ?_)
  · replace h := ifp hc h
    replace h := Option.some.inj h
    subst h
    have e8 := hR11 _ rfl
    subst e8
    exact g_sub [0, 1] rfl kE8
  · replace h := ifn hc h
    refine g_iload_n B 1 dX1_cashGap_20 rfl rfl ?_
    refine g_aload_n B 0 dX1_cashGap_21 rfl rfl ?_
    replace h := bnP_s h
    obtain ⟨x16, h17, h⟩ := h
    refine g_getR B fl_RX1_11 (by decide) dX1_cashGap_22 h17 ?_
    refine g_iload_n B 2 dX1_cashGap_25 rfl rfl ?_
    replace h := bnP_s h
    obtain ⟨x18, h19, h⟩ := h
    refine g_ralds B (κ := 25) (by decide) rfl dX1_cashGap_26 h19 ?_
    replace h := bnP_s h
    obtain ⟨x20, h21, h⟩ := h
    refine g_getI B fl_RX1_210 (by decide) dX1_cashGap_27 h21 ?_
    refine g_isub B dX1_cashGap_30 ?_
    refine g_istore_n B dX1_cashGap_31 rfl (Nat.le_of_ble_eq_true rfl) (s1_c (f1_1 rfl (rf_cat _) (f1_x (f1_k rfl f1_n)))) ?_
    refine g_iinc (v := (q5.2 + 1)) B 2 dX1_cashGap_32 rfl (by first | rfl | (congr 1; decide)) (Nat.le_of_ble_eq_true rfl) (s1_c (f1_1 rfl rfl (f1_k rfl (f1_x f1_n)))) ?_
    refine g_goto B 12 dX1_cashGap_35 (by decide) ?_
    replace h := Option.some.inj h
    subst h
    exact g_sub [2, 1, 0] rfl (hI10 _ rfl)
set_option maxRecDepth 100000 in
set_option maxHeartbeats 4000000 in
theorem cX1_numbersGapc {l : Launch} {v0 : Option Nat} {σ : HpT} {r : Int32} (h : fX1_numbersGap v0 σ = some r) : IsK σ v0 1 ∧ Ct l yX1_numbersGap cX1_numbersGap 3 (some .int) 0 0 [va_rf v0] σ (.ok (some (.int r))) σ 0 0 := by
  unfold fX1_numbersGap at h
  replace h := bnP_s h
  obtain ⟨u, hk, h⟩ := h
  replace hk := isK_s hk
  refine ⟨hk, ?_⟩
  refine ct_start mi_X1_numbersGap.1 rfl (al_le (al_1 (rf_cat _) al_n) (Nat.le_of_ble_eq_true rfl)) (ag_1 (rf_cat _) ag_n) (fun Δ Γ B hE hnm => ?_)
  refine g_iconst (v := 0) B dX1_numbersGap_0 (by decide) ?_
  refine g_istore_n B dX1_numbersGap_1 rfl (Nat.le_of_ble_eq_true rfl) (s1_c (f1_1 rfl (rf_cat _) f1_n)) ?_
  refine g_iconst (v := 0) B dX1_numbersGap_2 (by decide) ?_
  refine g_istore_n B dX1_numbersGap_3 rfl (Nat.le_of_ble_eq_true rfl) (s1_c (f1_1 rfl rfl (f1_k rfl f1_n))) ?_
  replace h := bnP_s h
  obtain ⟨r2, h3, h⟩ := h
  have kE4 : GW Δ Γ (0) (0) 36 [(1, .int r2)] [] σ := by
    refine g_iload_n B 0 dX1_numbersGap_36 rfl rfl ?_
    replace h := Option.some.inj h
    subst h
    exact g_iret B hE (Nat.zero_le _) (Nat.zero_le _) dX1_numbersGap_37
  clear h
  refine g_sub [2, 1, 0] rfl ?_
  refine lpP_w (I := fun q1 => GW Δ Γ (0) (0) 4 [(0, va_rf v0), (1, .int q1.1), (2, .int q1.2)] [] σ) (r := r2) ?_ FUEL (0, 0) h3
  intro q1 x8 h hI6 hR7
  unfold fX1_numbersGap_l1 at h
  obtain ⟨qv10, qv11⟩ := q1
  show GW Δ Γ (0) (0) 4 [(0, va_rf v0), (1, .int qv10), (2, .int qv11)] [] σ
  dsimp only at h
  refine g_iload_n B 2 dX1_numbersGap_4 rfl rfl ?_
  refine g_aload_n B 0 dX1_numbersGap_5 rfl rfl ?_
  replace h := bnP_s h
  obtain ⟨x12, h13, h⟩ := h
  refine g_getI B fl_RX1_55 (by decide) dX1_numbersGap_6 h13 ?_
  refine g_icmp_ge B 36 dX1_numbersGap_9 (by decide) (fun hc => ?_) (fun hc => ?_)
  · replace h := ifp hc h
    replace h := Option.some.inj h
    subst h
    have e8 := hR7 _ rfl
    subst e8
    exact g_sub [1] rfl kE4
  · replace h := ifn hc h
    refine g_aload_n B 0 dX1_numbersGap_12 rfl rfl ?_
    replace h := bnP_s h
    obtain ⟨x14, h15, h⟩ := h
    refine g_getR B fl_RX1_11 (by decide) dX1_numbersGap_13 h15 ?_
    refine g_iload_n B 2 dX1_numbersGap_16 rfl rfl ?_
    replace h := bnP_s h
    obtain ⟨x16, h17, h⟩ := h
    refine g_ralds B (κ := 25) (by decide) rfl dX1_numbersGap_17 h17 ?_
    replace h := bnP_s h
    obtain ⟨x18, h19, h⟩ := h
    refine g_getI B fl_RX1_221 (by decide) dX1_numbersGap_18 h19 ?_
    refine g_iload_n B 2 dX1_numbersGap_21 rfl rfl ?_
    refine g_iconst (v := 1) B dX1_numbersGap_22 (by decide) ?_
    refine g_iadd B dX1_numbersGap_23 ?_
    refine g_icmp_eq B 30 dX1_numbersGap_24 (by decide) (fun hc => ?_) (fun hc => ?_)
    · replace h := ifp hc h
      refine g_iinc (v := (qv11 + 1)) B 2 dX1_numbersGap_30 rfl (by first | rfl | (congr 1; decide)) (Nat.le_of_ble_eq_true rfl) (s1_c (f1_k rfl (f1_1 rfl rfl (f1_x f1_n)))) ?_
      refine g_goto B 4 dX1_numbersGap_33 (by decide) ?_
      replace h := Option.some.inj h
      subst h
      exact g_sub [1, 2, 0] rfl (hI6 (qv10, (qv11 + 1)) rfl)
    · replace h := ifn hc h
      refine g_iinc (v := (qv10 + 1)) B 1 dX1_numbersGap_27 rfl (by first | rfl | (congr 1; decide)) (Nat.le_of_ble_eq_true rfl) (s1_c (f1_1 rfl (rf_cat _) (f1_x (f1_k rfl f1_n)))) ?_
      refine g_iinc (v := (qv11 + 1)) B 2 dX1_numbersGap_30 rfl (by first | rfl | (congr 1; decide)) (Nat.le_of_ble_eq_true rfl) (s1_c (f1_1 rfl rfl (f1_k rfl (f1_x f1_n)))) ?_
      refine g_goto B 4 dX1_numbersGap_33 (by decide) ?_
      replace h := Option.some.inj h
      subst h
      exact g_sub [2, 1, 0] rfl (hI6 ((qv10 + 1), (qv11 + 1)) rfl)
set_option maxRecDepth 100000 in
set_option maxHeartbeats 4000000 in
theorem cX4_stateOfc {l : Launch} {v0 : Option Nat} {v1 : Int32} {σ : HpT} {r : Int32} (h : fX4_stateOf v0 v1 σ = some r) : IsK σ v0 4 ∧ Ct l yX4_stateOf cX4_stateOf 2 (some .int) 1 21 [va_rf v0, .int v1] σ (.ok (some (.int r))) σ 0 0 := by
  unfold fX4_stateOf at h
  replace h := bnP_s h
  obtain ⟨u, hk, h⟩ := h
  replace hk := isK_s hk
  refine ⟨hk, ?_⟩
  refine ct_start mi_X4_stateOf.1 rfl (al_le (al_1 (rf_cat _) (al_1 rfl al_n)) (Nat.le_of_ble_eq_true rfl)) (ag_1 (rf_cat _) (ag_1 rfl ag_n)) (fun Δ Γ B hE hnm => ?_)
  refine g_aload_n B 0 dX4_stateOf_0 rfl rfl ?_
  refine g_iload_n B 1 dX4_stateOf_1 rfl rfl ?_
  replace h := bnP_s h
  obtain ⟨x1, h2, h⟩ := h
  refine g_callVs0 (st := []) B (cX4_isTherec h2) (Nat.le_of_ble_eq_true rfl) rfl rfl mi_X4_isThere lk_RX4_32 ⟨Nat.le_of_ble_eq_true rfl, Nat.le_of_ble_eq_true rfl⟩ rfl rfl (Nat.le_of_ble_eq_true rfl) dX4_stateOf_2 (Nat.zero_le _) (Nat.zero_le _) ?_
  refine g_if_eq B 17 dX4_stateOf_5 (by decide) (fun hc => ?_) (fun hc => ?_)
  · replace h := ifn (bI0 hc) h
    refine g_iconst (v := 0) B dX4_stateOf_17 (by decide) ?_
    replace h := Option.some.inj h
    subst h
    exact g_iret B hE (Nat.zero_le _) (Nat.zero_le _) dX4_stateOf_18
  · replace h := ifp (bI1 hc) h
    refine g_aload_n B 0 dX4_stateOf_8 rfl rfl ?_
    replace h := bnP_s h
    obtain ⟨x3, h4, h⟩ := h
    refine g_getR B fl_RX4_11 (by decide) dX4_stateOf_9 h4 ?_
    refine g_iload_n B 1 dX4_stateOf_12 rfl rfl ?_
    replace h := bnP_s h
    obtain ⟨x5, h6, h⟩ := h
    refine g_iald B dX4_stateOf_13 h6 ?_
    refine g_goto B 18 dX4_stateOf_14 (by decide) ?_
    replace h := Option.some.inj h
    subst h
    exact g_iret B hE (Nat.zero_le _) (Nat.zero_le _) dX4_stateOf_18
set_option maxRecDepth 100000 in
set_option maxHeartbeats 4000000 in
theorem cX4_isLoosec {l : Launch} {v0 : Option Nat} {v1 : Int32} {σ : HpT} {r : Bool} (h : fX4_isLoose v0 v1 σ = some r) : IsK σ v0 4 ∧ Ct l yX4_isLoose cX4_isLoose 2 (some .boolean) 1 21 [va_rf v0, .int v1] σ (.ok (some (.int (bI r)))) σ 0 0 := by
  unfold fX4_isLoose at h
  replace h := bnP_s h
  obtain ⟨u, hk, h⟩ := h
  replace hk := isK_s hk
  refine ⟨hk, ?_⟩
  refine ct_start mi_X4_isLoose.1 rfl (al_le (al_1 (rf_cat _) (al_1 rfl al_n)) (Nat.le_of_ble_eq_true rfl)) (ag_1 (rf_cat _) (ag_1 rfl ag_n)) (fun Δ Γ B hE hnm => ?_)
  refine g_aload_n B 0 dX4_isLoose_0 rfl rfl ?_
  refine g_iload_n B 1 dX4_isLoose_1 rfl rfl ?_
  replace h := bnP_s h
  obtain ⟨x1, h2, h⟩ := h
  refine g_callVs0 (st := []) B (cX4_isTherec h2) (Nat.le_of_ble_eq_true rfl) rfl rfl mi_X4_isThere lk_RX4_32 ⟨Nat.le_of_ble_eq_true rfl, Nat.le_of_ble_eq_true rfl⟩ rfl rfl (Nat.le_of_ble_eq_true rfl) dX4_isLoose_2 (Nat.zero_le _) (Nat.zero_le _) ?_
  refine g_if_eq B 22 dX4_isLoose_5 (by decide) (fun hc => ?_) (fun hc => ?_)
  · replace h := ifn (bI0 hc) h
    refine g_iconst (v := 0) B dX4_isLoose_22 (by decide) ?_
    replace h := Option.some.inj h
    subst h
    exact g_zret B hE rfl (Nat.zero_le _) (Nat.zero_le _) dX4_isLoose_23
  · replace h := ifp (bI1 hc) h
    refine g_aload_n B 0 dX4_isLoose_8 rfl rfl ?_
    replace h := bnP_s h
    obtain ⟨x3, h4, h⟩ := h
    refine g_getR B fl_RX4_11 (by decide) dX4_isLoose_9 h4 ?_
    refine g_iload_n B 1 dX4_isLoose_12 rfl rfl ?_
    replace h := bnP_s h
    obtain ⟨x5, h6, h⟩ := h
    refine g_iald B dX4_isLoose_13 h6 ?_
    refine g_iconst (v := 1) B dX4_isLoose_14 (by decide) ?_
    refine g_icmp_ne B 22 dX4_isLoose_15 (by decide) (fun hc => ?_) (fun hc => ?_)
    · replace h := ifn hc h
      refine g_iconst (v := 0) B dX4_isLoose_22 (by decide) ?_
      replace h := Option.some.inj h
      subst h
      exact g_zret B hE rfl (Nat.zero_le _) (Nat.zero_le _) dX4_isLoose_23
    · replace h := ifp hc h
      refine g_iconst (v := 1) B dX4_isLoose_18 (by decide) ?_
      refine g_goto B 23 dX4_isLoose_19 (by decide) ?_
      replace h := Option.some.inj h
      subst h
      exact g_zret B hE rfl (Nat.zero_le _) (Nat.zero_le _) dX4_isLoose_23
set_option maxRecDepth 100000 in
set_option maxHeartbeats 4000000 in
theorem cX4_countOfc {l : Launch} {v0 : Option Nat} {v1 : Int32} {σ : HpT} {r : Int32} (h : fX4_countOf v0 v1 σ = some r) : IsK σ v0 4 ∧ Ct l yX4_countOf cX4_countOf 4 (some .int) 0 0 [va_rf v0, .int v1] σ (.ok (some (.int r))) σ 0 0 := by
  unfold fX4_countOf at h
  replace h := bnP_s h
  obtain ⟨u, hk, h⟩ := h
  replace hk := isK_s hk
  refine ⟨hk, ?_⟩
  refine ct_start mi_X4_countOf.1 rfl (al_le (al_1 (rf_cat _) (al_1 rfl al_n)) (Nat.le_of_ble_eq_true rfl)) (ag_1 (rf_cat _) (ag_1 rfl ag_n)) (fun Δ Γ B hE hnm => ?_)
  refine g_iconst (v := 0) B dX4_countOf_0 (by decide) ?_
  refine g_istore_n B dX4_countOf_1 rfl (Nat.le_of_ble_eq_true rfl) (s1_c (f1_k rfl (f1_1 rfl rfl f1_n))) ?_
  refine g_iconst (v := 0) B dX4_countOf_2 (by decide) ?_
  refine g_istore_n B dX4_countOf_3 rfl (Nat.le_of_ble_eq_true rfl) (s1_c (f1_1 rfl rfl (f1_k rfl (f1_k rfl f1_n)))) ?_
  replace h := bnP_s h
  obtain ⟨r2, h3, h⟩ := h
  have kE4 : GW Δ Γ (0) (0) 31 [(2, .int r2)] [] σ := by
    refine g_iload_n B 0 dX4_countOf_31 rfl rfl ?_
    replace h := Option.some.inj h
    subst h
    exact g_iret B hE (Nat.zero_le _) (Nat.zero_le _) dX4_countOf_32
  clear h
  refine g_sub [2, 3, 1, 0] rfl ?_
  refine lpP_w (I := fun q1 => GW Δ Γ (0) (0) 4 [(0, va_rf v0), (1, .int v1), (2, .int q1.1), (3, .int q1.2)] [] σ) (r := r2) ?_ FUEL (0, 0) h3
  intro q1 x8 h hI6 hR7
  unfold fX4_countOf_l1 at h
  obtain ⟨qv10, qv11⟩ := q1
  show GW Δ Γ (0) (0) 4 [(0, va_rf v0), (1, .int v1), (2, .int qv10), (3, .int qv11)] [] σ
  dsimp only at h
  refine g_iload_n B 3 dX4_countOf_4 rfl rfl ?_
  refine g_aload_n B 0 dX4_countOf_5 rfl rfl ?_
  replace h := bnP_s h
  obtain ⟨x12, h13, h⟩ := h
  refine g_getI B fl_RX4_23 (by decide) dX4_countOf_6 h13 ?_
  refine g_icmp_ge B 31 dX4_countOf_9 (by decide) (fun hc => ?_) (fun hc => ?_)
  · replace h := ifp hc h
    replace h := Option.some.inj h
    subst h
    have e8 := hR7 _ rfl
    subst e8
    exact g_sub [2] rfl kE4
  · replace h := ifn hc h
    refine g_aload_n B 0 dX4_countOf_12 rfl rfl ?_
    replace h := bnP_s h
    obtain ⟨x14, h15, h⟩ := h
    refine g_getR B fl_RX4_11 (by decide) dX4_countOf_13 h15 ?_
    refine g_iload_n B 3 dX4_countOf_16 rfl rfl ?_
    replace h := bnP_s h
    obtain ⟨x16, h17, h⟩ := h
    refine g_iald B dX4_countOf_17 h17 ?_
    refine g_iload_n B 1 dX4_countOf_18 rfl rfl ?_
    refine g_icmp_ne B 25 dX4_countOf_19 (by decide) (fun hc => ?_) (fun hc => ?_)
    · replace h := ifn hc h
      refine g_iinc (v := (qv11 + 1)) B 3 dX4_countOf_25 rfl (by first | rfl | (congr 1; decide)) (Nat.le_of_ble_eq_true rfl) (s1_c (f1_k rfl (f1_k rfl (f1_1 rfl rfl (f1_x f1_n))))) ?_
      refine g_goto B 4 dX4_countOf_28 (by decide) ?_
      replace h := Option.some.inj h
      subst h
      exact g_sub [1, 2, 3, 0] rfl (hI6 (qv10, (qv11 + 1)) rfl)
    · replace h := ifp hc h
      refine g_iinc (v := (qv10 + 1)) B 2 dX4_countOf_22 rfl (by first | rfl | (congr 1; decide)) (Nat.le_of_ble_eq_true rfl) (s1_c (f1_k rfl (f1_1 rfl rfl (f1_x (f1_k rfl f1_n))))) ?_
      refine g_iinc (v := (qv11 + 1)) B 3 dX4_countOf_25 rfl (by first | rfl | (congr 1; decide)) (Nat.le_of_ble_eq_true rfl) (s1_c (f1_1 rfl rfl (f1_k rfl (f1_k rfl (f1_x f1_n))))) ?_
      refine g_goto B 4 dX4_countOf_28 (by decide) ?_
      replace h := Option.some.inj h
      subst h
      exact g_sub [2, 3, 1, 0] rfl (hI6 ((qv10 + 1), (qv11 + 1)) rfl)
set_option maxRecDepth 100000 in
set_option maxHeartbeats 4000000 in
theorem cX4_loosenMateOfc {l : Launch} {v0 : Option Nat} {v1 : Int32} {σ : HpT} {σ' : HpT} (h : fX4_loosenMateOf v0 v1 σ = some σ') : IsK σ v0 4 ∧ Ct l yX4_loosenMateOf cX4_loosenMateOf 3 none 2 44 [va_rf v0, .int v1] σ (.ok none) σ' 0 0 := by
  unfold fX4_loosenMateOf at h
  replace h := bnP_s h
  obtain ⟨u, hk, h⟩ := h
  replace hk := isK_s hk
  refine ⟨hk, ?_⟩
  refine ct_start mi_X4_loosenMateOf.1 rfl (al_le (al_1 (rf_cat _) (al_1 rfl al_n)) (Nat.le_of_ble_eq_true rfl)) (ag_1 (rf_cat _) (ag_1 rfl ag_n)) (fun Δ Γ B hE hnm => ?_)
  refine g_aload_n B 0 dX4_loosenMateOf_0 rfl rfl ?_
  refine g_iload_n B 1 dX4_loosenMateOf_1 rfl rfl ?_
  replace h := bnP_s h
  obtain ⟨x1, h2, h⟩ := h
  refine g_callVs0 (st := []) B (cX4_mateOfc h2) (Nat.le_of_ble_eq_true rfl) rfl rfl mi_X4_mateOf lk_RX4_44 ⟨Nat.le_of_ble_eq_true rfl, Nat.le_of_ble_eq_true rfl⟩ rfl rfl (Nat.le_of_ble_eq_true rfl) dX4_loosenMateOf_2 (Nat.zero_le _) (Nat.zero_le _) ?_
  refine g_istore_n B dX4_loosenMateOf_5 rfl (Nat.le_of_ble_eq_true rfl) (s1_c (f1_k rfl (f1_1 rfl rfl f1_n))) ?_
  refine g_aload_n B 1 dX4_loosenMateOf_6 rfl rfl ?_
  refine g_iload_n B 0 dX4_loosenMateOf_7 rfl rfl ?_
  replace h := bnP_s h
  obtain ⟨x3, h4, h⟩ := h
  refine g_callVs0 (st := []) B (cX4_isTherec h4) (Nat.le_of_ble_eq_true rfl) rfl rfl mi_X4_isThere lk_RX4_32 ⟨Nat.le_of_ble_eq_true rfl, Nat.le_of_ble_eq_true rfl⟩ rfl rfl (Nat.le_of_ble_eq_true rfl) dX4_loosenMateOf_8 (Nat.zero_le _) (Nat.zero_le _) ?_
  refine g_if_eq B 30 dX4_loosenMateOf_11 (by decide) (fun hc => ?_) (fun hc => ?_)
  · replace h := ifn (bI0 hc) h
    replace h := Option.some.inj h
    subst h
    exact g_vret B hE (Nat.zero_le _) (Nat.zero_le _) dX4_loosenMateOf_30
  · replace h := ifp (bI1 hc) h
    refine g_aload_n B 1 dX4_loosenMateOf_14 rfl rfl ?_
    replace h := bnP_s h
    obtain ⟨x5, h6, h⟩ := h
    refine g_getR B fl_RX4_11 (by decide) dX4_loosenMateOf_15 h6 ?_
    refine g_iload_n B 0 dX4_loosenMateOf_18 rfl rfl ?_
    replace h := bnP_s h
    obtain ⟨x7, h8, h⟩ := h
    refine g_iald B dX4_loosenMateOf_19 h8 ?_
    refine g_if_ne B 30 dX4_loosenMateOf_20 (by decide) (fun hc => ?_) (fun hc => ?_)
    · replace h := ifn hc h
      replace h := Option.some.inj h
      subst h
      exact g_vret B hE (Nat.zero_le _) (Nat.zero_le _) dX4_loosenMateOf_30
    · replace h := ifp hc h
      refine g_aload_n B 1 dX4_loosenMateOf_23 rfl rfl ?_
      replace h := bnP_s h
      obtain ⟨x9, h10, h⟩ := h
      refine g_getR B fl_RX4_11 (by decide) dX4_loosenMateOf_24 h10 ?_
      refine g_iload_n B 0 dX4_loosenMateOf_27 rfl rfl ?_
      refine g_iconst (v := 1) B dX4_loosenMateOf_28 (by decide) ?_
      replace h := bnP_s h
      obtain ⟨s13, h12, h⟩ := h
      refine g_iast B dX4_loosenMateOf_29 h12 ?_
      replace h := Option.some.inj h
      subst h
      exact g_vret B hE (Nat.zero_le _) (Nat.zero_le _) dX4_loosenMateOf_30
set_option maxRecDepth 100000 in
set_option maxHeartbeats 4000000 in
theorem cX4_dropc {l : Launch} {v0 : Option Nat} {v1 : Int32} {σ : HpT} {σ' : HpT} (h : fX4_drop v0 v1 σ = some σ') : IsK σ v0 4 ∧ Ct l yX4_drop cX4_drop 2 none 3 66 [va_rf v0, .int v1] σ (.ok none) σ' 0 0 := by
  unfold fX4_drop at h
  replace h := bnP_s h
  obtain ⟨u, hk, h⟩ := h
  replace hk := isK_s hk
  refine ⟨hk, ?_⟩
  refine ct_start mi_X4_drop.1 rfl (al_le (al_1 (rf_cat _) (al_1 rfl al_n)) (Nat.le_of_ble_eq_true rfl)) (ag_1 (rf_cat _) (ag_1 rfl ag_n)) (fun Δ Γ B hE hnm => ?_)
  refine g_aload_n B 0 dX4_drop_0 rfl rfl ?_
  refine g_iload_n B 1 dX4_drop_1 rfl rfl ?_
  replace h := bnP_s h
  obtain ⟨x1, h2, h⟩ := h
  refine g_callVs0 (st := []) B (cX4_isTherec h2) (Nat.le_of_ble_eq_true rfl) rfl rfl mi_X4_isThere lk_RX4_32 ⟨Nat.le_of_ble_eq_true rfl, Nat.le_of_ble_eq_true rfl⟩ rfl rfl (Nat.le_of_ble_eq_true rfl) dX4_drop_2 (Nat.zero_le _) (Nat.zero_le _) ?_
  refine g_if_eq B 20 dX4_drop_5 (by decide) (fun hc => ?_) (fun hc => ?_)
  · replace h := ifn (bI0 hc) h
    replace h := Option.some.inj h
    subst h
    exact g_vret B hE (Nat.zero_le _) (Nat.zero_le _) dX4_drop_20
  · replace h := ifp (bI1 hc) h
    refine g_aload_n B 0 dX4_drop_8 rfl rfl ?_
    replace h := bnP_s h
    obtain ⟨x3, h4, h⟩ := h
    refine g_getR B fl_RX4_11 (by decide) dX4_drop_9 h4 ?_
    refine g_iload_n B 1 dX4_drop_12 rfl rfl ?_
    refine g_iconst (v := 2) B dX4_drop_13 (by decide) ?_
    replace h := bnP_s h
    obtain ⟨s7, h6, h⟩ := h
    refine g_iast B dX4_drop_14 h6 ?_
    refine g_aload_n B 0 dX4_drop_15 rfl rfl ?_
    refine g_iload_n B 1 dX4_drop_16 rfl rfl ?_
    replace h := bnP_s h
    obtain ⟨s10, h9, h⟩ := h
    refine g_callVv0 (st := []) B (cX4_loosenMateOfc h9) (Nat.le_of_ble_eq_true rfl) rfl rfl mi_X4_loosenMateOf lk_RX4_40 ⟨Nat.le_of_ble_eq_true rfl, Nat.le_of_ble_eq_true rfl⟩ rfl rfl (Nat.le_of_ble_eq_true rfl) dX4_drop_17 (Nat.zero_le _) (Nat.zero_le _) ?_
    replace h := Option.some.inj h
    subst h
    exact g_vret B hE (Nat.zero_le _) (Nat.zero_le _) dX4_drop_20
set_option maxRecDepth 100000 in
set_option maxHeartbeats 4000000 in
theorem cX4_bringBackc {l : Launch} {v0 : Option Nat} {v1 : Int32} {σ : HpT} {σ' : HpT} (h : fX4_bringBack v0 v1 σ = some σ') : IsK σ v0 4 ∧ Ct l yX4_bringBack cX4_bringBack 3 none 2 44 [va_rf v0, .int v1] σ (.ok none) σ' 0 0 := by
  unfold fX4_bringBack at h
  replace h := bnP_s h
  obtain ⟨u, hk, h⟩ := h
  replace hk := isK_s hk
  refine ⟨hk, ?_⟩
  refine ct_start mi_X4_bringBack.1 rfl (al_le (al_1 (rf_cat _) (al_1 rfl al_n)) (Nat.le_of_ble_eq_true rfl)) (ag_1 (rf_cat _) (ag_1 rfl ag_n)) (fun Δ Γ B hE hnm => ?_)
  refine g_aload_n B 0 dX4_bringBack_0 rfl rfl ?_
  refine g_iload_n B 1 dX4_bringBack_1 rfl rfl ?_
  replace h := bnP_s h
  obtain ⟨s3, h2, h⟩ := h
  refine g_callVv0 (st := []) B (cX4_fastenc h2) (Nat.le_of_ble_eq_true rfl) rfl rfl mi_X4_fasten lk_RX4_47 ⟨Nat.le_of_ble_eq_true rfl, Nat.le_of_ble_eq_true rfl⟩ rfl rfl (Nat.le_of_ble_eq_true rfl) dX4_bringBack_2 (Nat.zero_le _) (Nat.zero_le _) ?_
  refine g_aload_n B 0 dX4_bringBack_5 rfl rfl ?_
  refine g_iload_n B 1 dX4_bringBack_6 rfl rfl ?_
  replace h := bnP_s h
  obtain ⟨x4, h5, h⟩ := h
  refine g_callVs0 (st := []) B (cX4_mateOfc h5) (Nat.le_of_ble_eq_true rfl) rfl rfl mi_X4_mateOf lk_RX4_44 ⟨Nat.le_of_ble_eq_true rfl, Nat.le_of_ble_eq_true rfl⟩ rfl rfl (Nat.le_of_ble_eq_true rfl) dX4_bringBack_7 (Nat.zero_le _) (Nat.zero_le _) ?_
  refine g_istore_n B dX4_bringBack_10 rfl (Nat.le_of_ble_eq_true rfl) (s1_c (f1_k rfl (f1_1 rfl rfl f1_n))) ?_
  refine g_aload_n B 1 dX4_bringBack_11 rfl rfl ?_
  refine g_iload_n B 0 dX4_bringBack_12 rfl rfl ?_
  replace h := bnP_s h
  obtain ⟨x6, h7, h⟩ := h
  refine g_callVs0 (st := []) B (cX4_isLoosec h7) (Nat.le_of_ble_eq_true rfl) rfl rfl mi_X4_isLoose lk_RX4_50 ⟨Nat.le_of_ble_eq_true rfl, Nat.le_of_ble_eq_true rfl⟩ rfl rfl (Nat.le_of_ble_eq_true rfl) dX4_bringBack_13 (Nat.zero_le _) (Nat.zero_le _) ?_
  refine g_if_eq B 24 dX4_bringBack_16 (by decide) (fun hc => ?_) (fun hc => ?_)
  · replace h := ifn (bI0 hc) h
    replace h := Option.some.inj h
    subst h
    exact g_vret B hE (Nat.zero_le _) (Nat.zero_le _) dX4_bringBack_24
  · replace h := ifp (bI1 hc) h
    refine g_aload_n B 1 dX4_bringBack_19 rfl rfl ?_
    refine g_iload_n B 0 dX4_bringBack_20 rfl rfl ?_
    replace h := bnP_s h
    obtain ⟨s10, h9, h⟩ := h
    refine g_callVv0 (st := []) B (cX4_fastenc h9) (Nat.le_of_ble_eq_true rfl) rfl rfl mi_X4_fasten lk_RX4_47 ⟨Nat.le_of_ble_eq_true rfl, Nat.le_of_ble_eq_true rfl⟩ rfl rfl (Nat.le_of_ble_eq_true rfl) dX4_bringBack_21 (Nat.zero_le _) (Nat.zero_le _) ?_
    replace h := Option.some.inj h
    subst h
    exact g_vret B hE (Nat.zero_le _) (Nat.zero_le _) dX4_bringBack_24
set_option maxRecDepth 100000 in
set_option maxHeartbeats 4000000 in
theorem cX4_dropLoosec {l : Launch} {v0 : Option Nat} {σ : HpT} {r : Int32} {σ' : HpT} (h : fX4_dropLoose v0 σ = some (r, σ')) : IsK σ v0 4 ∧ Ct l yX4_dropLoose cX4_dropLoose 3 (some .int) 3 66 [va_rf v0] σ (.ok (some (.int r))) σ' 0 0 := by
  unfold fX4_dropLoose at h
  replace h := bnP_s h
  obtain ⟨u, hk, h⟩ := h
  replace hk := isK_s hk
  refine ⟨hk, ?_⟩
  refine ct_start mi_X4_dropLoose.1 rfl (al_le (al_1 (rf_cat _) al_n) (Nat.le_of_ble_eq_true rfl)) (ag_1 (rf_cat _) ag_n) (fun Δ Γ B hE hnm => ?_)
  refine g_iconst (v := 0) B dX4_dropLoose_0 (by decide) ?_
  refine g_istore_n B dX4_dropLoose_1 rfl (Nat.le_of_ble_eq_true rfl) (s1_c (f1_1 rfl (rf_cat _) f1_n)) ?_
  refine g_iconst (v := 0) B dX4_dropLoose_2 (by decide) ?_
  refine g_istore_n B dX4_dropLoose_3 rfl (Nat.le_of_ble_eq_true rfl) (s1_c (f1_1 rfl rfl (f1_k rfl f1_n))) ?_
  replace h := bnS_s h
  obtain ⟨r2, s38, h3, h⟩ := h
  have kE4 : GW Δ Γ (0) (0) 58 [(0, va_rf v0), (1, .int r2)] [] s38 := by
    refine g_iconst (v := 0) B dX4_dropLoose_58 (by decide) ?_
    refine g_istore_n B dX4_dropLoose_59 rfl (Nat.le_of_ble_eq_true rfl) (s1_c (f1_k rfl (f1_1 rfl rfl f1_n))) ?_
    replace h := bnS_s h
    obtain ⟨r40, s58, h41, h⟩ := h
    have kE42 : GW Δ Γ (0) (0) 88 [(1, .int r2)] [] s58 := by
      refine g_iload_n B 0 dX4_dropLoose_88 rfl rfl ?_
      obtain ⟨w1, w2⟩ := inS h
      clear h
      subst w1
      subst w2
      exact g_iret B hE (Nat.zero_le _) (Nat.zero_le _) dX4_dropLoose_89
    clear h
    refine g_sub [1, 2, 0] rfl ?_
    refine lpS_w (I := fun q39 s48 => GW Δ Γ (0) (0) 60 [(0, va_rf v0), (1, .int r2), (2, .int q39)] [] s48) (r := r40) (σr := s58) ?_ FUEL 0 s38 h41
    intro q39 s48 x46 s9 h hI44 hR45
    unfold fX4_dropLoose_l2 at h
    refine g_iload_n B 2 dX4_dropLoose_60 rfl rfl ?_
    refine g_aload_n B 0 dX4_dropLoose_61 rfl rfl ?_
    replace h := bnP_s h
    obtain ⟨x49, h50, h⟩ := h
    refine g_getI B fl_RX4_23 (by decide) dX4_dropLoose_62 h50 ?_
    refine g_icmp_ge B 88 dX4_dropLoose_65 (by decide) (fun hc => ?_) (fun hc => ?_)
    · replace h := ifp hc h
      obtain ⟨w1, w2⟩ := inS h
      clear h
      subst w1
      subst w2
      obtain ⟨e8, e7⟩ := hR45 _ rfl
      subst e8
      subst e7
      exact g_sub [1] rfl kE42
    · replace h := ifn hc h
      refine g_aload_n B 0 dX4_dropLoose_68 rfl rfl ?_
      replace h := bnP_s h
      obtain ⟨x51, h52, h⟩ := h
      refine g_getR B fl_RX4_15 (by decide) dX4_dropLoose_69 h52 ?_
      refine g_iload_n B 2 dX4_dropLoose_72 rfl rfl ?_
      replace h := bnP_s h
      obtain ⟨x53, h54, h⟩ := h
      refine g_zald B dX4_dropLoose_73 h54 ?_
      refine g_if_eq B 82 dX4_dropLoose_74 (by decide) (fun hc => ?_) (fun hc => ?_)
      · replace h := ifp hc h
        refine g_iinc (v := (q39 + 1)) B 2 dX4_dropLoose_82 rfl (by first | rfl | (congr 1; decide)) (Nat.le_of_ble_eq_true rfl) (s1_c (f1_k rfl (f1_1 rfl rfl (f1_x f1_n)))) ?_
        refine g_goto B 60 dX4_dropLoose_85 (by decide) ?_
        obtain ⟨w1, w2⟩ := inS h
        clear h
        subst w1
        subst w2
        exact g_sub [1, 2, 0] rfl (hI44 _ rfl)
      · replace h := ifn hc h
        refine g_aload_n B 0 dX4_dropLoose_77 rfl rfl ?_
        refine g_iload_n B 2 dX4_dropLoose_78 rfl rfl ?_
        replace h := bnP_s h
        obtain ⟨s57, h56, h⟩ := h
        refine g_callVv0 (st := []) B (cX4_loosenMateOfc h56) (Nat.le_of_ble_eq_true rfl) rfl rfl mi_X4_loosenMateOf lk_RX4_40 ⟨Nat.le_of_ble_eq_true rfl, Nat.le_of_ble_eq_true rfl⟩ rfl rfl (Nat.le_of_ble_eq_true rfl) dX4_dropLoose_79 (Nat.zero_le _) (Nat.zero_le _) ?_
        refine g_iinc (v := (q39 + 1)) B 2 dX4_dropLoose_82 rfl (by first | rfl | (congr 1; decide)) (Nat.le_of_ble_eq_true rfl) (s1_c (f1_k rfl (f1_1 rfl rfl (f1_x f1_n)))) ?_
        refine g_goto B 60 dX4_dropLoose_85 (by decide) ?_
        obtain ⟨w1, w2⟩ := inS h
        clear h
        subst w1
        subst w2
        exact g_sub [1, 2, 0] rfl (hI44 _ rfl)
  clear h
  refine g_sub [2, 1, 0] rfl ?_
  refine lpS_w (I := fun q1 s10 => GW Δ Γ (0) (0) 4 [(0, va_rf v0), (1, .int q1.1), (2, .int q1.2)] [] s10) (r := r2) (σr := s38) ?_ FUEL (0, 0) σ h3
  intro q1 s10 x8 s9 h hI6 hR7
  unfold fX4_dropLoose_l1 at h
  obtain ⟨qv11, qv12⟩ := q1
  show GW Δ Γ (0) (0) 4 [(0, va_rf v0), (1, .int qv11), (2, .int qv12)] [] s10
  dsimp only at h
  refine g_iload_n B 2 dX4_dropLoose_4 rfl rfl ?_
  refine g_aload_n B 0 dX4_dropLoose_5 rfl rfl ?_
  replace h := bnP_s h
  obtain ⟨x13, h14, h⟩ := h
  refine g_getI B fl_RX4_23 (by decide) dX4_dropLoose_6 h14 ?_
  refine g_icmp_ge B 58 dX4_dropLoose_9 (by decide) (fun hc => ?_) (fun hc => ?_)
  · replace h := ifp hc h
    obtain ⟨w1, w2⟩ := inS h
    clear h
    subst w1
    subst w2
    obtain ⟨e8, e7⟩ := hR7 _ rfl
    subst e8
    subst e7
    exact g_sub [0, 1] rfl kE4
  · replace h := ifn hc h
    refine g_aload_n B 0 dX4_dropLoose_12 rfl rfl ?_
    replace h := bnP_s h
    obtain ⟨x15, h16, h⟩ := h
    refine g_getR B fl_RX4_15 (by decide) dX4_dropLoose_13 h16 ?_
    refine g_iload_n B 2 dX4_dropLoose_16 rfl rfl ?_
    refine g_aload_n B 0 dX4_dropLoose_17 rfl rfl ?_
    replace h := bnP_s h
    obtain ⟨x17, h18, h⟩ := h
    refine g_getR B fl_RX4_11 (by decide) dX4_dropLoose_18 h18 ?_
    refine g_iload_n B 2 dX4_dropLoose_21 rfl rfl ?_
    replace h := bnP_s h
    obtain ⟨x19, h20, h⟩ := h
    refine g_iald B dX4_dropLoose_22 h20 ?_
    refine g_iconst (v := 1) B dX4_dropLoose_23 (by decide) ?_
    replace h := bnP_s h
    obtain ⟨j21, h22, h⟩ := h
    have k24 : GW Δ Γ (0) (0) 32 [(0, va_rf v0), (1, .int qv11), (2, .int qv12)] [.int j21.2.2, .int j21.2.1, va_rf j21.1] s10 := by
      replace h := bnP_s h
      obtain ⟨s28, h27, h⟩ := h
      refine g_zast B dX4_dropLoose_32 h27 ?_
      refine g_aload_n B 0 dX4_dropLoose_33 rfl rfl ?_
      replace h := bnP_s h
      obtain ⟨x29, h30, h⟩ := h
      refine g_getR B fl_RX4_15 (by decide) dX4_dropLoose_34 h30 ?_
      refine g_iload_n B 2 dX4_dropLoose_37 rfl rfl ?_
      replace h := bnP_s h
      obtain ⟨x31, h32, h⟩ := h
      refine g_zald B dX4_dropLoose_38 h32 ?_
      refine g_if_eq B 52 dX4_dropLoose_39 (by decide) (fun hc => ?_) (fun hc => ?_)
      · replace h := ifp hc h
        refine g_iinc (v := (qv12 + 1)) B 2 dX4_dropLoose_52 rfl (by first | rfl | (congr 1; decide)) (Nat.le_of_ble_eq_true rfl) (s1_c (f1_k rfl (f1_1 rfl rfl (f1_x f1_n)))) ?_
        refine g_goto B 4 dX4_dropLoose_55 (by decide) ?_
        obtain ⟨w1, w2⟩ := inS h
        clear h
        subst w1
        subst w2
        exact g_sub [1, 2, 0] rfl (hI6 (qv11, (qv12 + 1)) rfl)
      · replace h := ifn hc h
        refine g_aload_n B 0 dX4_dropLoose_42 rfl rfl ?_
        replace h := bnP_s h
        obtain ⟨x33, h34, h⟩ := h
        refine g_getR B fl_RX4_11 (by decide) dX4_dropLoose_43 h34 ?_
        refine g_iload_n B 2 dX4_dropLoose_46 rfl rfl ?_
        refine g_iconst (v := 2) B dX4_dropLoose_47 (by decide) ?_
        replace h := bnP_s h
        obtain ⟨s37, h36, h⟩ := h
        refine g_iast B dX4_dropLoose_48 h36 ?_
        refine g_iinc (v := (qv11 + 1)) B 1 dX4_dropLoose_49 rfl (by first | rfl | (congr 1; decide)) (Nat.le_of_ble_eq_true rfl) (s1_c (f1_1 rfl (rf_cat _) (f1_x (f1_k rfl f1_n)))) ?_
        refine g_iinc (v := (qv12 + 1)) B 2 dX4_dropLoose_52 rfl (by first | rfl | (congr 1; decide)) (Nat.le_of_ble_eq_true rfl) (s1_c (f1_1 rfl rfl (f1_k rfl (f1_x f1_n)))) ?_
        refine g_goto B 4 dX4_dropLoose_55 (by decide) ?_
        obtain ⟨w1, w2⟩ := inS h
        clear h
        subst w1
        subst w2
        exact g_sub [2, 1, 0] rfl (hI6 ((qv11 + 1), (qv12 + 1)) rfl)
    clear h
    have h := h22
    clear h22
    refine g_icmp_ne B 31 dX4_dropLoose_24 (by decide) (fun hc => ?_) (fun hc => ?_)
    · replace h := ifn hc h
      refine g_iconst (v := 0) B dX4_dropLoose_31 (by decide) ?_
      replace h := Option.some.inj h
      subst h
      exact g_sub [0, 1, 2] rfl k24
    · replace h := ifp hc h
      refine g_iconst (v := 1) B dX4_dropLoose_27 (by decide) ?_
      refine g_goto B 32 dX4_dropLoose_28 (by decide) ?_
      replace h := Option.some.inj h
      subst h
      exact g_sub [0, 1, 2] rfl k24
set_option maxRecDepth 100000 in
set_option maxHeartbeats 4000000 in
theorem cX7_initc {l : Launch} {v0 : Option Nat} {σ : HpT} {o : Except Nat (Unit)} {σ' : HpT} {a b : Nat} (h : fX7_init v0 σ = some (o, σ', a, b)) : IsK σ v0 7 ∧ Ct l yX7_init cX7_init 1 none 1 21 [va_rf v0] σ (oU o) σ' a b := by
  unfold fX7_init at h
  replace h := bnP_s h
  obtain ⟨u, hk, h⟩ := h
  replace hk := isK_s hk
  refine ⟨hk, ?_⟩
  refine ct_start mi_X7_init.1 rfl (al_le (al_1 (rf_cat _) al_n) (Nat.le_of_ble_eq_true rfl)) (ag_1 (rf_cat _) ag_n) (fun Δ Γ B hE hnm => ?_)
  have hka : 0 + a = a := Nat.zero_add a
  have hkb : 0 + b = b := Nat.zero_add b
  have hla : a ≤ a := Nat.le_refl a
  have hlb : b ≤ b := Nat.le_refl b
  refine g_aload_n B 0 dX7_init_0 rfl rfl ?_
  refine g_objInit9 B hk obj_RX7_3 (by decide) (Nat.le_of_ble_eq_true rfl) dX7_init_1 ?_
  refine g_aload_n B 0 dX7_init_4 rfl rfl ?_
  refine g_iconst (v := 0) B dX7_init_5 (by decide) ?_
  replace h := bnA_s h
  rcases h with ⟨e9, h2, e8⟩ | ⟨x1, s3, a4, b5, a6, b7, h2, h, ea, eb⟩
  · exact absurd h2 (by simp [nwA, nwR]; try (split <;> simp))
  · subst ea; subst eb
    have hka := bk hka
    have hkb := bk hkb
    refine g_newarr B (Or.inr (Or.inr (Or.inl ⟨rfl, rfl⟩))) na_byte dX7_init_6 h2 (Nat.le_trans (bm hka) hla) (Nat.le_trans (bm hkb) hlb) ?_
    replace h := bnP_s h
    obtain ⟨s10, h9, h⟩ := h
    refine g_putR B fl_RX7_9 (by decide) (Or.inr ⟨_, rfl⟩) dX7_init_8 h9 ?_
    obtain ⟨w1, w2, w3, w4⟩ := inA h
    clear h
    subst w1
    subst w2
    subst w3
    subst w4
    exact g_vret B hE (Nat.le_trans (Nat.le_of_eq hka) hla) (Nat.le_trans (Nat.le_of_eq hkb) hlb) dX7_init_11
set_option maxRecDepth 100000 in
set_option maxHeartbeats 4000000 in
theorem cX5_initc {l : Launch} {v0 : Option Nat} {σ : HpT} {o : Except Nat (Unit)} {σ' : HpT} {a b : Nat} (h : fX5_init v0 σ = some (o, σ', a, b)) : IsK σ v0 5 ∧ Ct l yX5_init cX5_init 1 none 2 41 [va_rf v0] σ (oU o) σ' a b := by
  unfold fX5_init at h
  replace h := bnP_s h
  obtain ⟨u, hk, h⟩ := h
  replace hk := isK_s hk
  refine ⟨hk, ?_⟩
  refine ct_start mi_X5_init.1 rfl (al_le (al_1 (rf_cat _) al_n) (Nat.le_of_ble_eq_true rfl)) (ag_1 (rf_cat _) ag_n) (fun Δ Γ B hE hnm => ?_)
  have hka : 0 + a = a := Nat.zero_add a
  have hkb : 0 + b = b := Nat.zero_add b
  have hla : a ≤ a := Nat.le_refl a
  have hlb : b ≤ b := Nat.le_refl b
  refine g_aload_n B 0 dX5_init_0 rfl rfl ?_
  refine g_objInit9 B hk obj_RX5_3 (by decide) (Nat.le_of_ble_eq_true rfl) dX5_init_1 ?_
  refine g_aload_n B 0 dX5_init_4 rfl rfl ?_
  replace h := bnA_s h
  rcases h with ⟨e9, h2, e8⟩ | ⟨x1, s3, a4, b5, a6, b7, h2, h, ea, eb⟩
  · exact absurd h2 (by simp [nwA, nwR]; try (split <;> simp))
  · subst ea; subst eb
    have hka := bk hka
    have hkb := bk hkb
    refine g_new B nw_RX5_9 dX5_init_5 h2 (Nat.le_trans (bm hka) hla) (Nat.le_trans (bm hkb) hlb) ?_
    refine g_dup B dX5_init_8 (rf_cat _) ?_
    replace h := bnA_s h
    rcases h with ⟨e9, h9, e8⟩ | ⟨x8, s10, a11, b12, a13, b14, h9, h, ea, eb⟩
    · subst e8
      exact g_callNIx (st := [va_rf x1, va_rf v0]) B (cX7_initc (o := .error e9) h9) mi_X7_init lk_RX5_11 ⟨Nat.le_of_ble_eq_true rfl, Nat.le_of_ble_eq_true rfl⟩ rfl rfl (Nat.le_of_ble_eq_true rfl) dX5_init_9 (Nat.le_trans (Nat.le_of_eq hka) hla) (Nat.le_trans (Nat.le_of_eq hkb) hlb) hE
    · subst ea; subst eb
      have hka := bk hka
      have hkb := bk hkb
      refine g_callNIvA (st := [va_rf x1, va_rf v0]) B (cX7_initc (o := .ok x8) h9) mi_X7_init lk_RX5_11 ⟨Nat.le_of_ble_eq_true rfl, Nat.le_of_ble_eq_true rfl⟩ rfl rfl (Nat.le_of_ble_eq_true rfl) dX5_init_9 (Nat.le_trans (bm hka) hla) (Nat.le_trans (bm hkb) hlb) ?_
      replace h := bnP_s h
      obtain ⟨s17, h16, h⟩ := h
      refine g_putRF B fl_RX5_12 (by decide) (Or.inl ⟨_, rfl⟩) hnm dX5_init_12 h16 ?_
      obtain ⟨w1, w2, w3, w4⟩ := inA h
      clear h
      subst w1
      subst w2
      subst w3
      subst w4
      exact g_vret B hE (Nat.le_trans (Nat.le_of_eq hka) hla) (Nat.le_trans (Nat.le_of_eq hkb) hlb) dX5_init_15
set_option maxRecDepth 100000 in
set_option maxHeartbeats 4000000 in
theorem cX5_failc {l : Launch} {v0 : Option Nat} {v1 : Int32} {σ : HpT} {r : Bool} {σ' : HpT} (h : fX5_fail v0 v1 σ = some (r, σ')) : IsK σ v0 5 ∧ Ct l yX5_fail cX5_fail 2 (some .boolean) 0 0 [va_rf v0, .int v1] σ (.ok (some (.int (bI r)))) σ' 0 0 := by
  unfold fX5_fail at h
  replace h := bnP_s h
  obtain ⟨u, hk, h⟩ := h
  replace hk := isK_s hk
  refine ⟨hk, ?_⟩
  refine ct_start mi_X5_fail.1 rfl (al_le (al_1 (rf_cat _) (al_1 rfl al_n)) (Nat.le_of_ble_eq_true rfl)) (ag_1 (rf_cat _) (ag_1 rfl ag_n)) (fun Δ Γ B hE hnm => ?_)
  refine g_aload_n B 0 dX5_fail_0 rfl rfl ?_
  refine g_iload_n B 1 dX5_fail_1 rfl rfl ?_
  replace h := bnP_s h
  obtain ⟨s3, h2, h⟩ := h
  refine g_putI B fl_RX5_18 (by decide) dX5_fail_2 h2 ?_
  refine g_aload_n B 0 dX5_fail_5 rfl rfl ?_
  refine g_aload_n B 0 dX5_fail_6 rfl rfl ?_
  replace h := bnP_s h
  obtain ⟨x4, h5, h⟩ := h
  refine g_getR B fl_RX5_12 (by decide) dX5_fail_7 h5 ?_
  replace h := bnP_s h
  obtain ⟨x6, h7, h⟩ := h
  refine g_getI B fl_RX5_22 (by decide) dX5_fail_10 h7 ?_
  replace h := bnP_s h
  obtain ⟨s10, h9, h⟩ := h
  refine g_putI B fl_RX5_25 (by decide) dX5_fail_13 h9 ?_
  refine g_iconst (v := 0) B dX5_fail_16 (by decide) ?_
  obtain ⟨w1, w2⟩ := inS h
  clear h
  subst w1
  subst w2
  exact g_zret B hE rfl (Nat.zero_le _) (Nat.zero_le _) dX5_fail_17
set_option maxRecDepth 100000 in
set_option maxHeartbeats 4000000 in
theorem cX9_isLetterc {l : Launch} {v0 : Int32} {σ : HpT} {r : Bool} (h : fX9_isLetter v0 σ = some r) : Ct l yX9_isLetter cX9_isLetter 1 (some .boolean) 0 0 [.int v0] σ (.ok (some (.int (bI r)))) σ 0 0 := by
  unfold fX9_isLetter at h
  refine ct_start mi_X9_isLetter.1 rfl (al_le (al_1 rfl al_n) (Nat.le_of_ble_eq_true rfl)) (ag_1 rfl ag_n) (fun Δ Γ B hE hnm => ?_)
  refine g_iload_n B 0 dX9_isLetter_0 rfl rfl ?_
  refine g_bipush (v := 97) B dX9_isLetter_1 (by decide) ?_
  refine g_icmp_lt B 16 dX9_isLetter_3 (by decide) (fun hc => ?_) (fun hc => ?_)
  · replace h := ifp hc h
    refine g_iconst (v := 0) B dX9_isLetter_16 (by decide) ?_
    replace h := Option.some.inj h
    subst h
    exact g_zret B hE rfl (Nat.zero_le _) (Nat.zero_le _) dX9_isLetter_17
  · replace h := ifn hc h
    refine g_iload_n B 0 dX9_isLetter_6 rfl rfl ?_
    refine g_bipush (v := 122) B dX9_isLetter_7 (by decide) ?_
    refine g_icmp_gt B 16 dX9_isLetter_9 (by decide) (fun hc => ?_) (fun hc => ?_)
    · replace h := ifp hc h
      refine g_iconst (v := 0) B dX9_isLetter_16 (by decide) ?_
      replace h := Option.some.inj h
      subst h
      exact g_zret B hE rfl (Nat.zero_le _) (Nat.zero_le _) dX9_isLetter_17
    · replace h := ifn hc h
      refine g_iconst (v := 1) B dX9_isLetter_12 (by decide) ?_
      refine g_goto B 17 dX9_isLetter_13 (by decide) ?_
      replace h := Option.some.inj h
      subst h
      exact g_zret B hE rfl (Nat.zero_le _) (Nat.zero_le _) dX9_isLetter_17
set_option maxRecDepth 100000 in
set_option maxHeartbeats 4000000 in
theorem cX9_joinedc {l : Launch} {v0 : Int64} {v2 : Int32} {σ : HpT} {r : Int64} (h : fX9_joined v0 v2 σ = some r) : Ct l yX9_joined cX9_joined 3 (some .long) 0 0 [.long v0, .int v2] σ (.ok (some (.long r))) σ 0 0 := by
  unfold fX9_joined at h
  refine ct_start mi_X9_joined.1 rfl (al_le (al_2 rfl (al_1 rfl al_n)) (Nat.le_of_ble_eq_true rfl)) (ag_2 rfl (ag_1 rfl ag_n)) (fun Δ Γ B hE hnm => ?_)
  refine g_lload_n B 0 dX9_joined_0 rfl rfl ?_
  refine g_bipush (v := 8) B dX9_joined_1 (by decide) ?_
  refine g_lshl B dX9_joined_3 ?_
  refine g_iload_n B 1 dX9_joined_4 rfl rfl ?_
  refine g_i2l B dX9_joined_5 ?_
  refine g_lor B dX9_joined_6 ?_
  replace h := Option.some.inj h
  subst h
  exact g_lret B hE (Nat.zero_le _) (Nat.zero_le _) dX9_joined_7
set_option maxRecDepth 100000 in
set_option maxHeartbeats 4000000 in
theorem cX7_readWordc {l : Launch} {v0 : Option Nat} {σ : HpT} {σ' : HpT} (h : fX7_readWord v0 σ = some σ') : IsK σ v0 7 ∧ Ct l yX7_readWord cX7_readWord 1 none 1 22 [va_rf v0] σ (.ok none) σ' 0 0 := by
  unfold fX7_readWord at h
  replace h := bnP_s h
  obtain ⟨u, hk, h⟩ := h
  replace hk := isK_s hk
  refine ⟨hk, ?_⟩
  refine ct_start mi_X7_readWord.1 rfl (al_le (al_1 (rf_cat _) al_n) (Nat.le_of_ble_eq_true rfl)) (ag_1 (rf_cat _) ag_n) (fun Δ Γ B hE hnm => ?_)
  refine g_aload_n B 0 dX7_readWord_0 rfl rfl ?_
  refine g_lconst (v := 0) B dX7_readWord_1 (by decide) ?_
  replace h := bnP_s h
  obtain ⟨s3, h2, h⟩ := h
  refine g_putJ B fl_RX7_54 (by decide) dX7_readWord_2 h2 ?_
  replace h := bnS_s h
  obtain ⟨r5, s44, h6, h⟩ := h
  have kE7 : GW Δ Γ (0) (0) 64 [(0, va_rf v0)] [] s44 := by
    refine g_aload_n B 0 dX7_readWord_64 rfl rfl ?_
    refine g_aload_n B 0 dX7_readWord_65 rfl rfl ?_
    replace h := bnP_s h
    obtain ⟨x45, h46, h⟩ := h
    refine g_getI B fl_RX7_25 (by decide) dX7_readWord_66 h46 ?_
    refine g_aload_n B 0 dX7_readWord_69 rfl rfl ?_
    replace h := bnP_s h
    obtain ⟨x47, h48, h⟩ := h
    refine g_getI B fl_RX7_31 (by decide) dX7_readWord_70 h48 ?_
    refine g_isub B dX7_readWord_73 ?_
    refine g_bipush (v := 8) B dX7_readWord_74 (by decide) ?_
    replace h := bnP_s h
    obtain ⟨j49, h50, h⟩ := h
    have k52 : GW Δ Γ (0) (0) 85 [] [.int j49.2, va_rf j49.1] s44 := by
      replace h := bnP_s h
      obtain ⟨s56, h55, h⟩ := h
      refine g_putI B fl_RX7_34 (by decide) dX7_readWord_85 h55 ?_
      replace h := Option.some.inj h
      subst h
      exact g_vret B hE (Nat.zero_le _) (Nat.zero_le _) dX7_readWord_88
    clear h
    have h := h50
    clear h50
    refine g_icmp_gt B 83 dX7_readWord_76 (by decide) (fun hc => ?_) (fun hc => ?_)
    · replace h := ifp hc h
      refine g_bipush (v := 6) B dX7_readWord_83 (by decide) ?_
      replace h := Option.some.inj h
      subst h
      exact g_sub [] rfl k52
    · replace h := ifn hc h
      refine g_iconst (v := 1) B dX7_readWord_79 (by decide) ?_
      refine g_goto B 85 dX7_readWord_80 (by decide) ?_
      replace h := Option.some.inj h
      subst h
      exact g_sub [] rfl k52
  clear h
  refine g_sub [0] rfl ?_
  refine lpS_w (I := fun q4 s13 => GW Δ Γ (0) (0) 5 [(0, va_rf v0)] [] s13) (r := r5) (σr := s44) ?_ FUEL () s3 h6
  intro q4 s13 x11 s9 h hI9 hR10
  unfold fX7_readWord_l1 at h
  refine g_aload_n B 0 dX7_readWord_5 rfl rfl ?_
  replace h := bnP_s h
  obtain ⟨x14, h15, h⟩ := h
  refine g_getI B fl_RX7_25 (by decide) dX7_readWord_6 h15 ?_
  refine g_aload_n B 0 dX7_readWord_9 rfl rfl ?_
  replace h := bnP_s h
  obtain ⟨x16, h17, h⟩ := h
  refine g_getI B fl_RX7_21 (by decide) dX7_readWord_10 h17 ?_
  refine g_icmp_ge B 64 dX7_readWord_13 (by decide) (fun hc => ?_) (fun hc => ?_)
  · replace h := ifp hc h
    obtain ⟨w1, w2⟩ := inS h
    clear h
    subst w1
    subst w2
    obtain ⟨e8, e7⟩ := hR10 _ rfl
    subst e8
    subst e7
    exact g_sub [0] rfl kE7
  · replace h := ifn hc h
    refine g_aload_n B 0 dX7_readWord_16 rfl rfl ?_
    replace h := bnP_s h
    obtain ⟨x18, h19, h⟩ := h
    refine g_getR B fl_RX7_9 (by decide) dX7_readWord_17 h19 ?_
    refine g_aload_n B 0 dX7_readWord_20 rfl rfl ?_
    replace h := bnP_s h
    obtain ⟨x20, h21, h⟩ := h
    refine g_getI B fl_RX7_25 (by decide) dX7_readWord_21 h21 ?_
    replace h := bnP_s h
    obtain ⟨x22, h23, h⟩ := h
    refine g_bald B dX7_readWord_24 h23 ?_
    replace h := bnP_s h
    obtain ⟨x24, h25, h⟩ := h
    refine g_callNSs0 (st := []) B (cX9_isLetterc h25) mi_X9_isLetter lk_RX7_37 ⟨Nat.le_of_ble_eq_true rfl, Nat.le_of_ble_eq_true rfl⟩ rfl rfl (Nat.le_of_ble_eq_true rfl) dX7_readWord_25 (Nat.zero_le _) (Nat.zero_le _) ?_
    refine g_if_eq B 64 dX7_readWord_28 (by decide) (fun hc => ?_) (fun hc => ?_)
    · replace h := ifn (bI0 hc) h
      obtain ⟨w1, w2⟩ := inS h
      clear h
      subst w1
      subst w2
      obtain ⟨e8, e7⟩ := hR10 _ rfl
      subst e8
      subst e7
      exact g_sub [0] rfl kE7
    · replace h := ifp (bI1 hc) h
      refine g_aload_n B 0 dX7_readWord_31 rfl rfl ?_
      refine g_aload_n B 0 dX7_readWord_32 rfl rfl ?_
      replace h := bnP_s h
      obtain ⟨x26, h27, h⟩ := h
      refine g_getJ B fl_RX7_54 (by decide) dX7_readWord_33 h27 ?_
      refine g_aload_n B 0 dX7_readWord_36 rfl rfl ?_
      replace h := bnP_s h
      obtain ⟨x28, h29, h⟩ := h
      refine g_getR B fl_RX7_9 (by decide) dX7_readWord_37 h29 ?_
      refine g_aload_n B 0 dX7_readWord_40 rfl rfl ?_
      replace h := bnP_s h
      obtain ⟨x30, h31, h⟩ := h
      refine g_getI B fl_RX7_25 (by decide) dX7_readWord_41 h31 ?_
      replace h := bnP_s h
      obtain ⟨x32, h33, h⟩ := h
      refine g_bald B dX7_readWord_44 h33 ?_
      replace h := bnP_s h
      obtain ⟨x34, h35, h⟩ := h
      refine g_callNSs0 (st := [va_rf v0]) B (cX9_joinedc h35) mi_X9_joined lk_RX7_58 ⟨Nat.le_of_ble_eq_true rfl, Nat.le_of_ble_eq_true rfl⟩ rfl rfl (Nat.le_of_ble_eq_true rfl) dX7_readWord_45 (Nat.zero_le _) (Nat.zero_le _) ?_
      replace h := bnP_s h
      obtain ⟨s38, h37, h⟩ := h
      refine g_putJ B fl_RX7_54 (by decide) dX7_readWord_48 h37 ?_
      refine g_aload_n B 0 dX7_readWord_51 rfl rfl ?_
      refine g_dup B dX7_readWord_52 (rf_cat _) ?_
      replace h := bnP_s h
      obtain ⟨x39, h40, h⟩ := h
      refine g_getI B fl_RX7_25 (by decide) dX7_readWord_53 h40 ?_
      refine g_iconst (v := 1) B dX7_readWord_56 (by decide) ?_
      refine g_iadd B dX7_readWord_57 ?_
      replace h := bnP_s h
      obtain ⟨s43, h42, h⟩ := h
      refine g_putI B fl_RX7_25 (by decide) dX7_readWord_58 h42 ?_
      refine g_goto B 5 dX7_readWord_61 (by decide) ?_
      obtain ⟨w1, w2⟩ := inS h
      clear h
      subst w1
      subst w2
      exact g_sub [0] rfl (hI9 _ rfl)
