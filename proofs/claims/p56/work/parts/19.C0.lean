theorem mi_X0_baseFee : MI yX0_baseFee cX0_baseFee 1 (some .int) 0 := ⟨by decide +kernel, (mw (i := 832) (by decide +kernel) rfl), (mw (i := 43) (by decide +kernel) rfl), by decide +kernel, by decide +kernel⟩
theorem mi_X0_init : MI yX0_init cX0_init 1 none 0 := ⟨by decide +kernel, (mw (i := 214) (by decide +kernel) rfl), (mw (i := 43) (by decide +kernel) rfl), by decide +kernel, by decide +kernel⟩
theorem mi_X0_start : MI yX0_start cX0_start 5 none 4 := ⟨by decide +kernel, (mw (i := 716) (by decide +kernel) rfl), (mw (i := 43) (by decide +kernel) rfl), by decide +kernel, by decide +kernel⟩
theorem mi_X0_take : MI yX0_take cX0_take 2 none 1 := ⟨by decide +kernel, (mw (i := 1158) (by decide +kernel) rfl), (mw (i := 43) (by decide +kernel) rfl), by decide +kernel, by decide +kernel⟩
theorem mi_X1_actsAt : MI yX1_actsAt cX1_actsAt 4 (some .int) 1 := ⟨by decide +kernel, (mw (i := 972) (by decide +kernel) rfl), (mw (i := 38) (by decide +kernel) rfl), by decide +kernel, by decide +kernel⟩
theorem mi_X1_clear : MI yX1_clear cX1_clear 1 none 0 := ⟨by decide +kernel, (mw (i := 543) (by decide +kernel) rfl), (mw (i := 38) (by decide +kernel) rfl), by decide +kernel, by decide +kernel⟩
theorem mi_X1_init : MI yX1_init cX1_init 2 none 0 := ⟨by decide +kernel, (mw (i := 87) (by decide +kernel) rfl), (mw (i := 38) (by decide +kernel) rfl), by decide +kernel, by decide +kernel⟩
theorem mi_X1_leafOf : MI yX1_leafOf cX1_leafOf 2 (some .int) 1 := ⟨by decide +kernel, (mw (i := 867) (by decide +kernel) rfl), (mw (i := 38) (by decide +kernel) rfl), by decide +kernel, by decide +kernel⟩
theorem mi_X1_leavesOf : MI yX1_leavesOf cX1_leavesOf 2 (some .int) 1 := ⟨by decide +kernel, (mw (i := 720) (by decide +kernel) rfl), (mw (i := 38) (by decide +kernel) rfl), by decide +kernel, by decide +kernel⟩
theorem mi_X1_marksOfAll : MI yX1_marksOfAll cX1_marksOfAll 3 (some .int) 0 := ⟨by decide +kernel, (mw (i := 967) (by decide +kernel) rfl), (mw (i := 38) (by decide +kernel) rfl), by decide +kernel, by decide +kernel⟩
theorem mi_X1_mostWords : MI yX1_mostWords cX1_mostWords 1 (some .int) 0 := ⟨by decide +kernel, (mw (i := 679) (by decide +kernel) rfl), (mw (i := 38) (by decide +kernel) rfl), by decide +kernel, by decide +kernel⟩
theorem mi_X1_openAct : MI yX1_openAct cX1_openAct 1 (some (.object "NotaryBook$Act")) 0 := ⟨by decide +kernel, (mw (i := 664) (by decide +kernel) rfl), (mw (i := 38) (by decide +kernel) rfl), by decide +kernel, by decide +kernel⟩
theorem mi_X1_openNumber : MI yX1_openNumber cX1_openNumber 1 (some .int) 0 := ⟨by decide +kernel, (mw (i := 976) (by decide +kernel) rfl), (mw (i := 38) (by decide +kernel) rfl), by decide +kernel, by decide +kernel⟩
theorem mi_X1_openSize : MI yX1_openSize cX1_openSize 2 (some .int) 0 := ⟨by decide +kernel, (mw (i := 742) (by decide +kernel) rfl), (mw (i := 38) (by decide +kernel) rfl), by decide +kernel, by decide +kernel⟩
theorem mi_X1_openStanding : MI yX1_openStanding cX1_openStanding 2 (some .int) 0 := ⟨by decide +kernel, (mw (i := 820) (by decide +kernel) rfl), (mw (i := 38) (by decide +kernel) rfl), by decide +kernel, by decide +kernel⟩
theorem mi_X1_seekClauseAround : MI yX1_seekClauseAround cX1_seekClauseAround 3 (some .boolean) 1 := ⟨by decide +kernel, (mw (i := 768) (by decide +kernel) rfl), (mw (i := 38) (by decide +kernel) rfl), by decide +kernel, by decide +kernel⟩
theorem mi_X1_take : MI yX1_take cX1_take 3 none 1 := ⟨by decide +kernel, (mw (i := 1154) (by decide +kernel) rfl), (mw (i := 38) (by decide +kernel) rfl), by decide +kernel, by decide +kernel⟩
theorem mi_X2_followFrom : MI yX2_followFrom cX2_followFrom 6 none 3 := ⟨by decide +kernel, (mw (i := 784) (by decide +kernel) rfl), (mw (i := 41) (by decide +kernel) rfl), by decide +kernel, by decide +kernel⟩
theorem mi_X2_init : MI yX2_init cX2_init 1 none 0 := ⟨by decide +kernel, (mw (i := 165) (by decide +kernel) rfl), (mw (i := 41) (by decide +kernel) rfl), by decide +kernel, by decide +kernel⟩
theorem mi_X2_seek : MI yX2_seek cX2_seek 7 (some .boolean) 3 := ⟨by decide +kernel, (mw (i := 780) (by decide +kernel) rfl), (mw (i := 41) (by decide +kernel) rfl), by decide +kernel, by decide +kernel⟩
theorem mi_X3_init : MI yX3_init cX3_init 1 none 0 := ⟨by decide +kernel, (mw (i := 187) (by decide +kernel) rfl), (mw (i := 42) (by decide +kernel) rfl), by decide +kernel, by decide +kernel⟩
theorem mi_X3_take : MI yX3_take cX3_take 2 none 1 := ⟨by decide +kernel, (mw (i := 1162) (by decide +kernel) rfl), (mw (i := 42) (by decide +kernel) rfl), by decide +kernel, by decide +kernel⟩
theorem mi_X4_init : MI yX4_init cX4_init 1 none 0 := ⟨by decide +kernel, (mw (i := 141) (by decide +kernel) rfl), (mw (i := 40) (by decide +kernel) rfl), by decide +kernel, by decide +kernel⟩
theorem mi_X4_take : MI yX4_take cX4_take 2 none 1 := ⟨by decide +kernel, (mw (i := 1120) (by decide +kernel) rfl), (mw (i := 40) (by decide +kernel) rfl), by decide +kernel, by decide +kernel⟩
theorem mi_X8_depthOf : MI yX8_depthOf cX8_depthOf 5 (some .int) 2 := ⟨by decide +kernel, (mw (i := 776) (by decide +kernel) rfl), (mw (i := 39) (by decide +kernel) rfl), by decide +kernel, by decide +kernel⟩
theorem mi_X8_init : MI yX8_init cX8_init 1 none 0 := ⟨by decide +kernel, (mw (i := 97) (by decide +kernel) rfl), (mw (i := 39) (by decide +kernel) rfl), by decide +kernel, by decide +kernel⟩
theorem mi_X8_innermostOf : MI yX8_innermostOf cX8_innermostOf 8 (some .int) 2 := ⟨by decide +kernel, (mw (i := 772) (by decide +kernel) rfl), (mw (i := 39) (by decide +kernel) rfl), by decide +kernel, by decide +kernel⟩
theorem mi_X8_standingFrom : MI yX8_standingFrom cX8_standingFrom 5 (some .int) 2 := ⟨by decide +kernel, (mw (i := 824) (by decide +kernel) rfl), (mw (i := 39) (by decide +kernel) rfl), by decide +kernel, by decide +kernel⟩
theorem mi_X8_take : MI yX8_take cX8_take 3 none 1 := ⟨by decide +kernel, (mw (i := 1166) (by decide +kernel) rfl), (mw (i := 39) (by decide +kernel) rfl), by decide +kernel, by decide +kernel⟩
theorem mi_X8_unstruckFrom : MI yX8_unstruckFrom cX8_unstruckFrom 5 (some .int) 2 := ⟨by decide +kernel, (mw (i := 759) (by decide +kernel) rfl), (mw (i := 39) (by decide +kernel) rfl), by decide +kernel, by decide +kernel⟩
theorem fl_RX0_7 : Fl RX0 7 0 0 .int false := ⟨RX0, TX0, 8, tyX0, rfl, by decide, rfl, lay_0, (mw (i := 216) (by decide +kernel) rfl), tyX0_ok, nmX0, tyX0_ok 0 (by decide), rfl, by decide, by decide⟩
theorem fl_RX0_13 : Fl RX0 13 0 1 .int false := ⟨RX0, TX0, 8, tyX0, rfl, by decide, rfl, lay_0, (mw (i := 219) (by decide +kernel) rfl), tyX0_ok, nmX0, tyX0_ok 1 (by decide), rfl, by decide, by decide⟩
theorem fl_RX0_16 : Fl RX0 16 0 2 .int false := ⟨RX0, TX0, 8, tyX0, rfl, by decide, rfl, lay_0, (mw (i := 221) (by decide +kernel) rfl), tyX0_ok, nmX0, tyX0_ok 2 (by decide), rfl, by decide, by decide⟩
theorem fl_RX0_19 : Fl RX0 19 0 3 .int false := ⟨RX0, TX0, 8, tyX0, rfl, by decide, rfl, lay_0, (mw (i := 224) (by decide +kernel) rfl), tyX0_ok, nmX0, tyX0_ok 3 (by decide), rfl, by decide, by decide⟩
theorem fl_RX0_22 : Fl RX0 22 0 4 .int false := ⟨RX0, TX0, 8, tyX0, rfl, by decide, rfl, lay_0, (mw (i := 227) (by decide +kernel) rfl), tyX0_ok, nmX0, tyX0_ok 4 (by decide), rfl, by decide, by decide⟩
theorem fl_RX0_25 : Fl RX0 25 0 5 .int false := ⟨RX0, TX0, 8, tyX0, rfl, by decide, rfl, lay_0, (mw (i := 231) (by decide +kernel) rfl), tyX0_ok, nmX0, tyX0_ok 5 (by decide), rfl, by decide, by decide⟩
theorem fl_RX0_28 : Fl RX0 28 0 6 .int false := ⟨RX0, TX0, 8, tyX0, rfl, by decide, rfl, lay_0, (mw (i := 236) (by decide +kernel) rfl), tyX0_ok, nmX0, tyX0_ok 6 (by decide), rfl, by decide, by decide⟩
theorem fl_RX0_31 : Fl RX0 31 0 7 .int false := ⟨RX0, TX0, 8, tyX0, rfl, by decide, rfl, lay_0, (mw (i := 240) (by decide +kernel) rfl), tyX0_ok, nmX0, tyX0_ok 7 (by decide), rfl, by decide, by decide⟩
theorem fl_RX1_11 : Fl RX1 11 1 6 (.array (.object "NotaryBook$Act")) true := ⟨RX1, TX1, 12, tyX1, rfl, by decide, rfl, lay_1, (mw (i := 275) (by decide +kernel) rfl), tyX1_ok, nmX1, tyX1_ok 6 (by decide), rfl, by decide, fun _ => rfl⟩
theorem fl_RX1_17 : Fl RX1 17 1 7 (.array (.object "NotaryBook$Copy")) true := ⟨RX1, TX1, 12, tyX1, rfl, by decide, rfl, lay_1, (mw (i := 277) (by decide +kernel) rfl), tyX1_ok, nmX1, tyX1_ok 7 (by decide), rfl, by decide, fun _ => rfl⟩
theorem fl_RX1_24 : Fl RX1 24 1 8 (.object "NotaryBook$Script") true := ⟨RX1, TX1, 12, tyX1, rfl, by decide, rfl, lay_1, (mw (i := 279) (by decide +kernel) rfl), tyX1_ok, nmX1, tyX1_ok 8 (by decide), rfl, by decide, fun _ => rfl⟩
theorem fl_RX1_31 : Fl RX1 31 1 9 (.object "NotaryBook$Leaves") true := ⟨RX1, TX1, 12, tyX1, rfl, by decide, rfl, lay_1, (mw (i := 282) (by decide +kernel) rfl), tyX1_ok, nmX1, tyX1_ok 9 (by decide), rfl, by decide, fun _ => rfl⟩
theorem fl_RX1_38 : Fl RX1 38 1 10 (.object "NotaryBook$Clause") true := ⟨RX1, TX1, 12, tyX1, rfl, by decide, rfl, lay_1, (mw (i := 285) (by decide +kernel) rfl), tyX1_ok, nmX1, tyX1_ok 10 (by decide), rfl, by decide, fun _ => rfl⟩
theorem fl_RX1_43 : Fl RX1 43 1 11 (.object "NotaryBook$Copy") true := ⟨RX1, TX1, 12, tyX1, rfl, by decide, rfl, lay_1, (mw (i := 287) (by decide +kernel) rfl), tyX1_ok, nmX1, tyX1_ok 11 (by decide), rfl, by decide, fun _ => rfl⟩
theorem fl_RX1_48 : Fl RX1 48 1 0 .int false := ⟨RX1, TX1, 12, tyX1, rfl, by decide, rfl, lay_1, (mw (i := 260) (by decide +kernel) rfl), tyX1_ok, nmX1, tyX1_ok 0 (by decide), rfl, by decide, by decide⟩
theorem fl_RX1_52 : Fl RX1 52 1 1 .int false := ⟨RX1, TX1, 12, tyX1, rfl, by decide, rfl, lay_1, (mw (i := 263) (by decide +kernel) rfl), tyX1_ok, nmX1, tyX1_ok 1 (by decide), rfl, by decide, by decide⟩
theorem fl_RX1_55 : Fl RX1 55 1 2 .int false := ⟨RX1, TX1, 12, tyX1, rfl, by decide, rfl, lay_1, (mw (i := 266) (by decide +kernel) rfl), tyX1_ok, nmX1, tyX1_ok 2 (by decide), rfl, by decide, by decide⟩
theorem fl_RX1_58 : Fl RX1 58 1 3 .int false := ⟨RX1, TX1, 12, tyX1, rfl, by decide, rfl, lay_1, (mw (i := 269) (by decide +kernel) rfl), tyX1_ok, nmX1, tyX1_ok 3 (by decide), rfl, by decide, by decide⟩
theorem fl_RX1_61 : Fl RX1 61 1 4 .int false := ⟨RX1, TX1, 12, tyX1, rfl, by decide, rfl, lay_1, (mw (i := 272) (by decide +kernel) rfl), tyX1_ok, nmX1, tyX1_ok 4 (by decide), rfl, by decide, by decide⟩
theorem fl_RX1_64 : Fl RX1 64 1 5 .int false := ⟨RX1, TX1, 12, tyX1, rfl, by decide, rfl, lay_1, (mw (i := 274) (by decide +kernel) rfl), tyX1_ok, nmX1, tyX1_ok 5 (by decide), rfl, by decide, by decide⟩
theorem fl_RX1_80 : Fl RX1 80 8 0 .int false := ⟨RX8, TX8, 7, tyX8, rfl, by decide, rfl, lay_8, (mw (i := 100) (by decide +kernel) rfl), tyX8_ok, nmX8, tyX8_ok 0 (by decide), rfl, by decide, by decide⟩
theorem fl_RX1_83 : Fl RX1 83 4 1 .int false := ⟨RX4, TX4, 4, tyX4, rfl, by decide, rfl, lay_4, (mw (i := 147) (by decide +kernel) rfl), tyX4_ok, nmX4, tyX4_ok 1 (by decide), rfl, by decide, by decide⟩
theorem fl_RX1_84 : Fl RX1 84 0 2 .int false := ⟨RX0, TX0, 8, tyX0, rfl, by decide, rfl, lay_0, (mw (i := 222) (by decide +kernel) rfl), tyX0_ok, nmX0, tyX0_ok 2 (by decide), rfl, by decide, by decide⟩
theorem fl_RX1_91 : Fl RX1 91 0 6 .int false := ⟨RX0, TX0, 8, tyX0, rfl, by decide, rfl, lay_0, (mw (i := 238) (by decide +kernel) rfl), tyX0_ok, nmX0, tyX0_ok 6 (by decide), rfl, by decide, by decide⟩
theorem fl_RX1_92 : Fl RX1 92 0 5 .int false := ⟨RX0, TX0, 8, tyX0, rfl, by decide, rfl, lay_0, (mw (i := 233) (by decide +kernel) rfl), tyX0_ok, nmX0, tyX0_ok 5 (by decide), rfl, by decide, by decide⟩
theorem fl_RX1_99 : Fl RX1 99 0 4 .int false := ⟨RX0, TX0, 8, tyX0, rfl, by decide, rfl, lay_0, (mw (i := 228) (by decide +kernel) rfl), tyX0_ok, nmX0, tyX0_ok 4 (by decide), rfl, by decide, by decide⟩
theorem fl_RX2_7 : Fl RX2 7 0 5 .int false := ⟨RX0, TX0, 8, tyX0, rfl, by decide, rfl, lay_0, (mw (i := 230) (by decide +kernel) rfl), tyX0_ok, nmX0, tyX0_ok 5 (by decide), rfl, by decide, by decide⟩
theorem fl_RX2_13 : Fl RX2 13 0 6 .int false := ⟨RX0, TX0, 8, tyX0, rfl, by decide, rfl, lay_0, (mw (i := 235) (by decide +kernel) rfl), tyX0_ok, nmX0, tyX0_ok 6 (by decide), rfl, by decide, by decide⟩
theorem fl_RX2_16 : Fg RX2 16 8 2 := ⟨RX8, TX8, 7, rfl, by decide, rfl, lay_8, (mw (i := 106) (by decide +kernel) rfl)⟩
theorem fl_RX2_22 : Fl RX2 22 2 0 .int false := ⟨RX2, TX2, 4, tyX2, rfl, by decide, rfl, lay_2, (mw (i := 167) (by decide +kernel) rfl), tyX2_ok, nmX2, tyX2_ok 0 (by decide), rfl, by decide, by decide⟩
theorem fl_RX2_25 : Fl RX2 25 2 2 .int false := ⟨RX2, TX2, 4, tyX2, rfl, by decide, rfl, lay_2, (mw (i := 173) (by decide +kernel) rfl), tyX2_ok, nmX2, tyX2_ok 2 (by decide), rfl, by decide, by decide⟩
theorem fl_RX2_32 : Fg RX2 32 8 3 := ⟨RX8, TX8, 7, rfl, by decide, rfl, lay_8, (mw (i := 108) (by decide +kernel) rfl)⟩
theorem fl_RX2_35 : Fl RX2 35 2 3 .int false := ⟨RX2, TX2, 4, tyX2, rfl, by decide, rfl, lay_2, (mw (i := 174) (by decide +kernel) rfl), tyX2_ok, nmX2, tyX2_ok 3 (by decide), rfl, by decide, by decide⟩
theorem fl_RX2_38 : Fl RX2 38 2 1 .int false := ⟨RX2, TX2, 4, tyX2, rfl, by decide, rfl, lay_2, (mw (i := 170) (by decide +kernel) rfl), tyX2_ok, nmX2, tyX2_ok 1 (by decide), rfl, by decide, by decide⟩
theorem fl_RX3_9 : Fl RX3 9 3 0 .int false := ⟨RX3, TX3, 5, tyX3, rfl, by decide, rfl, lay_3, (mw (i := 189) (by decide +kernel) rfl), tyX3_ok, nmX3, tyX3_ok 0 (by decide), rfl, by decide, by decide⟩
theorem fl_RX3_15 : Fl RX3 15 3 1 .int false := ⟨RX3, TX3, 5, tyX3, rfl, by decide, rfl, lay_3, (mw (i := 192) (by decide +kernel) rfl), tyX3_ok, nmX3, tyX3_ok 1 (by decide), rfl, by decide, by decide⟩
theorem fl_RX3_18 : Fl RX3 18 3 2 .int false := ⟨RX3, TX3, 5, tyX3, rfl, by decide, rfl, lay_3, (mw (i := 194) (by decide +kernel) rfl), tyX3_ok, nmX3, tyX3_ok 2 (by decide), rfl, by decide, by decide⟩
theorem fl_RX3_21 : Fl RX3 21 3 3 .int false := ⟨RX3, TX3, 5, tyX3, rfl, by decide, rfl, lay_3, (mw (i := 196) (by decide +kernel) rfl), tyX3_ok, nmX3, tyX3_ok 3 (by decide), rfl, by decide, by decide⟩
theorem fl_RX3_24 : Fl RX3 24 3 4 .int false := ⟨RX3, TX3, 5, tyX3, rfl, by decide, rfl, lay_3, (mw (i := 198) (by decide +kernel) rfl), tyX3_ok, nmX3, tyX3_ok 4 (by decide), rfl, by decide, by decide⟩
theorem fl_RX4_11 : Fl RX4 11 4 2 (.array .int) true := ⟨RX4, TX4, 4, tyX4, rfl, by decide, rfl, lay_4, (mw (i := 150) (by decide +kernel) rfl), tyX4_ok, nmX4, tyX4_ok 2 (by decide), rfl, by decide, fun _ => rfl⟩
theorem fl_RX4_15 : Fl RX4 15 4 3 (.array .boolean) true := ⟨RX4, TX4, 4, tyX4, rfl, by decide, rfl, lay_4, (mw (i := 151) (by decide +kernel) rfl), tyX4_ok, nmX4, tyX4_ok 3 (by decide), rfl, by decide, fun _ => rfl⟩
theorem fl_RX4_19 : Fl RX4 19 4 0 .int false := ⟨RX4, TX4, 4, tyX4, rfl, by decide, rfl, lay_4, (mw (i := 143) (by decide +kernel) rfl), tyX4_ok, nmX4, tyX4_ok 0 (by decide), rfl, by decide, by decide⟩
theorem fl_RX4_23 : Fl RX4 23 4 1 .int false := ⟨RX4, TX4, 4, tyX4, rfl, by decide, rfl, lay_4, (mw (i := 146) (by decide +kernel) rfl), tyX4_ok, nmX4, tyX4_ok 1 (by decide), rfl, by decide, by decide⟩
theorem fl_RX8_11 : Fl RX8 11 8 1 (.array .long) true := ⟨RX8, TX8, 7, tyX8, rfl, by decide, rfl, lay_8, (mw (i := 103) (by decide +kernel) rfl), tyX8_ok, nmX8, tyX8_ok 1 (by decide), rfl, by decide, fun _ => rfl⟩
theorem fl_RX8_15 : Fl RX8 15 8 2 (.array .int) true := ⟨RX8, TX8, 7, tyX8, rfl, by decide, rfl, lay_8, (mw (i := 105) (by decide +kernel) rfl), tyX8_ok, nmX8, tyX8_ok 2 (by decide), rfl, by decide, fun _ => rfl⟩
theorem fl_RX8_19 : Fl RX8 19 8 3 (.array .int) true := ⟨RX8, TX8, 7, tyX8, rfl, by decide, rfl, lay_8, (mw (i := 107) (by decide +kernel) rfl), tyX8_ok, nmX8, tyX8_ok 3 (by decide), rfl, by decide, fun _ => rfl⟩
theorem fl_RX8_22 : Fl RX8 22 8 4 (.array .boolean) true := ⟨RX8, TX8, 7, tyX8, rfl, by decide, rfl, lay_8, (mw (i := 109) (by decide +kernel) rfl), tyX8_ok, nmX8, tyX8_ok 4 (by decide), rfl, by decide, fun _ => rfl⟩
theorem fl_RX8_26 : Fl RX8 26 8 5 (.array .int) true := ⟨RX8, TX8, 7, tyX8, rfl, by decide, rfl, lay_8, (mw (i := 113) (by decide +kernel) rfl), tyX8_ok, nmX8, tyX8_ok 5 (by decide), rfl, by decide, fun _ => rfl⟩
theorem fl_RX8_29 : Fl RX8 29 8 6 (.array .long) true := ⟨RX8, TX8, 7, tyX8, rfl, by decide, rfl, lay_8, (mw (i := 117) (by decide +kernel) rfl), tyX8_ok, nmX8, tyX8_ok 6 (by decide), rfl, by decide, fun _ => rfl⟩
theorem fl_RX8_32 : Fl RX8 32 8 0 .int false := ⟨RX8, TX8, 7, tyX8, rfl, by decide, rfl, lay_8, (mw (i := 99) (by decide +kernel) rfl), tyX8_ok, nmX8, tyX8_ok 0 (by decide), rfl, by decide, by decide⟩
theorem lk_RX1_23 : LNI RX1 "NotaryBook" 23 yX8_init := ⟨(mn (i := 95) (by decide +kernel) rfl), (mw (i := 96) (by decide +kernel) rfl), rfl⟩
theorem lk_RX1_30 : LNI RX1 "NotaryBook" 30 yX4_init := ⟨(mn (i := 139) (by decide +kernel) rfl), (mw (i := 140) (by decide +kernel) rfl), rfl⟩
theorem lk_RX1_37 : LNI RX1 "NotaryBook" 37 yX2_init := ⟨(mn (i := 163) (by decide +kernel) rfl), (mw (i := 164) (by decide +kernel) rfl), rfl⟩
theorem lk_RX1_42 : LNI RX1 "NotaryBook" 42 yX3_init := ⟨(mn (i := 185) (by decide +kernel) rfl), (mw (i := 186) (by decide +kernel) rfl), rfl⟩
theorem lk_RX1_47 : LNI RX1 "NotaryBook" 47 yX0_init := ⟨(mn (i := 212) (by decide +kernel) rfl), (mw (i := 213) (by decide +kernel) rfl), rfl⟩
theorem lk_RX1_67 : LV RX1 67 yX0_take := ⟨(mw (i := 1155) (by decide +kernel) rfl), (mw (i := 1156) (by decide +kernel) rfl), (mw (i := 1157) (by decide +kernel) rfl)⟩
theorem lk_RX1_71 : LV RX1 71 yX3_take := ⟨(mw (i := 1159) (by decide +kernel) rfl), (mw (i := 1160) (by decide +kernel) rfl), (mw (i := 1161) (by decide +kernel) rfl)⟩
theorem lk_RX1_74 : LV RX1 74 yX8_take := ⟨(mw (i := 1163) (by decide +kernel) rfl), (mw (i := 1164) (by decide +kernel) rfl), (mw (i := 1165) (by decide +kernel) rfl)⟩
theorem lk_RX1_77 : LV RX1 77 yX4_take := ⟨(mw (i := 1168) (by decide +kernel) rfl), (mw (i := 1118) (by decide +kernel) rfl), (mw (i := 1119) (by decide +kernel) rfl)⟩
theorem lk_RX1_87 : LV RX1 87 yX1_openAct := ⟨(mw (i := 743) (by decide +kernel) rfl), (mw (i := 662) (by decide +kernel) rfl), (mw (i := 663) (by decide +kernel) rfl)⟩
theorem lk_RX1_95 : LV RX1 95 yX8_standingFrom := ⟨(mw (i := 821) (by decide +kernel) rfl), (mw (i := 822) (by decide +kernel) rfl), (mw (i := 823) (by decide +kernel) rfl)⟩
theorem lk_RX1_109 : LV RX1 109 yX8_innermostOf := ⟨(mw (i := 769) (by decide +kernel) rfl), (mw (i := 770) (by decide +kernel) rfl), (mw (i := 771) (by decide +kernel) rfl)⟩
theorem lk_RX1_112 : LV RX1 112 yX2_seek := ⟨(mw (i := 777) (by decide +kernel) rfl), (mw (i := 778) (by decide +kernel) rfl), (mw (i := 779) (by decide +kernel) rfl)⟩
theorem lk_RX2_28 : LV RX2 28 yX2_followFrom := ⟨(mw (i := 781) (by decide +kernel) rfl), (mw (i := 783) (by decide +kernel) rfl), (mw (i := 16) (by decide +kernel) rfl)⟩
theorem lk_RX8_42 : LV RX8 42 yX8_unstruckFrom := ⟨(mw (i := 756) (by decide +kernel) rfl), (mw (i := 757) (by decide +kernel) rfl), (mw (i := 758) (by decide +kernel) rfl)⟩
theorem lk_RX8_64 : LV RX8 64 yX8_depthOf := ⟨(mw (i := 773) (by decide +kernel) rfl), (mw (i := 774) (by decide +kernel) rfl), (mw (i := 775) (by decide +kernel) rfl)⟩
theorem nw_RX1_9 : NW RX1 9 0 := ⟨RX0, TX0, 8, tyX0, rfl, rfl, lay_0, tyX0_ok, (mw (i := 89) (by decide +kernel) rfl), (mw (i := 211) (by decide +kernel) rfl), (mw (i := 43) (by decide +kernel) rfl), by decide, dv_0⟩
theorem nw_RX1_15 : NW RX1 15 3 := ⟨RX3, TX3, 5, tyX3, rfl, rfl, lay_3, tyX3_ok, (mw (i := 91) (by decide +kernel) rfl), (mw (i := 184) (by decide +kernel) rfl), (mw (i := 42) (by decide +kernel) rfl), by decide, dv_3⟩
theorem nw_RX1_21 : NW RX1 21 8 := ⟨RX8, TX8, 7, tyX8, rfl, rfl, lay_8, tyX8_ok, (mw (i := 93) (by decide +kernel) rfl), (mw (i := 94) (by decide +kernel) rfl), (mw (i := 39) (by decide +kernel) rfl), by decide, dv_8⟩
theorem nw_RX1_28 : NW RX1 28 4 := ⟨RX4, TX4, 4, tyX4, rfl, rfl, lay_4, tyX4_ok, (mw (i := 137) (by decide +kernel) rfl), (mw (i := 138) (by decide +kernel) rfl), (mw (i := 40) (by decide +kernel) rfl), by decide, dv_4⟩
theorem nw_RX1_35 : NW RX1 35 2 := ⟨RX2, TX2, 4, tyX2, rfl, rfl, lay_2, tyX2_ok, (mw (i := 161) (by decide +kernel) rfl), (mw (i := 162) (by decide +kernel) rfl), (mw (i := 41) (by decide +kernel) rfl), by decide, dv_2⟩
theorem na_boolean : Cond.arrayClass (newarray.typeOf .boolean) ∈ ALLw := mw (i := 136) (by decide +kernel) rfl
theorem na_long : Cond.arrayClass (newarray.typeOf .long) ∈ ALLw := mw (i := 134) (by decide +kernel) rfl
theorem an_RX1_9 : Cond.classLink RX1 9 "NotaryBook$Act" ∈ ALLw ∧ Cond.arrayOver (.object "NotaryBook$Act") ∈ ALLn := ⟨(mw (i := 89) (by decide +kernel) rfl), (mn (i := 90) (by decide +kernel) rfl)⟩
theorem an_RX1_15 : Cond.classLink RX1 15 "NotaryBook$Copy" ∈ ALLw ∧ Cond.arrayOver (.object "NotaryBook$Copy") ∈ ALLn := ⟨(mw (i := 91) (by decide +kernel) rfl), (mn (i := 92) (by decide +kernel) rfl)⟩
theorem mt_RX1_116 : MTW RX1 116 Lib.Math.min.name Lib.Math.min.code 2 := ⟨(mw (i := 680) (by decide +kernel) rfl), (mw (i := 549) (by decide +kernel) rfl), (mw (i := 56) (by decide +kernel) rfl), (mw (i := 550) (by decide +kernel) rfl)⟩
theorem cp_RX4_26 : CPW RX4 26 := ⟨(mw (i := 1121) (by decide +kernel) rfl), (mw (i := 1123) (by decide +kernel) rfl), (mw (i := 1122) (by decide +kernel) rfl), (mw (i := 58) (by decide +kernel) rfl)⟩
theorem cp_RX8_36 : CPW RX8 36 := ⟨(mw (i := 1167) (by decide +kernel) rfl), (mw (i := 1123) (by decide +kernel) rfl), (mw (i := 1122) (by decide +kernel) rfl), (mw (i := 58) (by decide +kernel) rfl)⟩
theorem obj_RX0_1 : OBW RX0 1 := ⟨(mw (i := 215) (by decide +kernel) rfl), (mw (i := 81) (by decide +kernel) rfl), (mw (i := 82) (by decide +kernel) rfl)⟩
theorem obj_RX1_1 : OBW RX1 1 := ⟨(mw (i := 88) (by decide +kernel) rfl), (mw (i := 81) (by decide +kernel) rfl), (mw (i := 82) (by decide +kernel) rfl)⟩
theorem obj_RX2_1 : OBW RX2 1 := ⟨(mw (i := 166) (by decide +kernel) rfl), (mw (i := 81) (by decide +kernel) rfl), (mw (i := 82) (by decide +kernel) rfl)⟩
theorem obj_RX3_3 : OBW RX3 3 := ⟨(mw (i := 188) (by decide +kernel) rfl), (mw (i := 81) (by decide +kernel) rfl), (mw (i := 82) (by decide +kernel) rfl)⟩
theorem obj_RX4_3 : OBW RX4 3 := ⟨(mw (i := 142) (by decide +kernel) rfl), (mw (i := 81) (by decide +kernel) rfl), (mw (i := 82) (by decide +kernel) rfl)⟩
theorem obj_RX8_3 : OBW RX8 3 := ⟨(mw (i := 98) (by decide +kernel) rfl), (mw (i := 81) (by decide +kernel) rfl), (mw (i := 82) (by decide +kernel) rfl)⟩
theorem dX0_init_0 : decode cX0_init 0 = .ok (.aload_n 0, 1) := by decide +kernel
theorem dX0_init_1 : decode cX0_init 1 = .ok (.invokespecial 1, 3) := by decide +kernel
theorem dX0_init_4 : decode cX0_init 4 = .ok (.return_, 1) := by decide +kernel
theorem dX0_take_0 : decode cX0_take 0 = .ok (.aload_n 0, 1) := by decide +kernel
theorem dX0_take_1 : decode cX0_take 1 = .ok (.aload_n 1, 1) := by decide +kernel
theorem dX0_take_2 : decode cX0_take 2 = .ok (.getfield 7, 3) := by decide +kernel
theorem dX0_take_5 : decode cX0_take 5 = .ok (.putfield 7, 3) := by decide +kernel
theorem dX0_take_8 : decode cX0_take 8 = .ok (.aload_n 0, 1) := by decide +kernel
theorem dX0_take_9 : decode cX0_take 9 = .ok (.aload_n 1, 1) := by decide +kernel
theorem dX0_take_10 : decode cX0_take 10 = .ok (.getfield 13, 3) := by decide +kernel
theorem dX0_take_13 : decode cX0_take 13 = .ok (.putfield 13, 3) := by decide +kernel
theorem dX0_take_16 : decode cX0_take 16 = .ok (.aload_n 0, 1) := by decide +kernel
theorem dX0_take_17 : decode cX0_take 17 = .ok (.aload_n 1, 1) := by decide +kernel
theorem dX0_take_18 : decode cX0_take 18 = .ok (.getfield 16, 3) := by decide +kernel
theorem dX0_take_21 : decode cX0_take 21 = .ok (.putfield 16, 3) := by decide +kernel
theorem dX0_take_24 : decode cX0_take 24 = .ok (.aload_n 0, 1) := by decide +kernel
theorem dX0_take_25 : decode cX0_take 25 = .ok (.aload_n 1, 1) := by decide +kernel
theorem dX0_take_26 : decode cX0_take 26 = .ok (.getfield 19, 3) := by decide +kernel
theorem dX0_take_29 : decode cX0_take 29 = .ok (.putfield 19, 3) := by decide +kernel
theorem dX0_take_32 : decode cX0_take 32 = .ok (.aload_n 0, 1) := by decide +kernel
theorem dX0_take_33 : decode cX0_take 33 = .ok (.aload_n 1, 1) := by decide +kernel
theorem dX0_take_34 : decode cX0_take 34 = .ok (.getfield 22, 3) := by decide +kernel
theorem dX0_take_37 : decode cX0_take 37 = .ok (.putfield 22, 3) := by decide +kernel
theorem dX0_take_40 : decode cX0_take 40 = .ok (.aload_n 0, 1) := by decide +kernel
theorem dX0_take_41 : decode cX0_take 41 = .ok (.aload_n 1, 1) := by decide +kernel
theorem dX0_take_42 : decode cX0_take 42 = .ok (.getfield 25, 3) := by decide +kernel
theorem dX0_take_45 : decode cX0_take 45 = .ok (.putfield 25, 3) := by decide +kernel
theorem dX0_take_48 : decode cX0_take 48 = .ok (.aload_n 0, 1) := by decide +kernel
theorem dX0_take_49 : decode cX0_take 49 = .ok (.aload_n 1, 1) := by decide +kernel
theorem dX0_take_50 : decode cX0_take 50 = .ok (.getfield 28, 3) := by decide +kernel
theorem dX0_take_53 : decode cX0_take 53 = .ok (.putfield 28, 3) := by decide +kernel
theorem dX0_take_56 : decode cX0_take 56 = .ok (.aload_n 0, 1) := by decide +kernel
theorem dX0_take_57 : decode cX0_take 57 = .ok (.aload_n 1, 1) := by decide +kernel
theorem dX0_take_58 : decode cX0_take 58 = .ok (.getfield 31, 3) := by decide +kernel
theorem dX0_take_61 : decode cX0_take 61 = .ok (.putfield 31, 3) := by decide +kernel
theorem dX0_take_64 : decode cX0_take 64 = .ok (.return_, 1) := by decide +kernel
theorem dX0_start_0 : decode cX0_start 0 = .ok (.aload_n 0, 1) := by decide +kernel
theorem dX0_start_1 : decode cX0_start 1 = .ok (.iload_n 1, 1) := by decide +kernel
theorem dX0_start_2 : decode cX0_start 2 = .ok (.putfield 7, 3) := by decide +kernel
theorem dX0_start_5 : decode cX0_start 5 = .ok (.aload_n 0, 1) := by decide +kernel
theorem dX0_start_6 : decode cX0_start 6 = .ok (.iload_n 2, 1) := by decide +kernel
theorem dX0_start_7 : decode cX0_start 7 = .ok (.putfield 13, 3) := by decide +kernel
theorem dX0_start_10 : decode cX0_start 10 = .ok (.aload_n 0, 1) := by decide +kernel
theorem dX0_start_11 : decode cX0_start 11 = .ok (.iconst 0, 1) := by decide +kernel
theorem dX0_start_12 : decode cX0_start 12 = .ok (.putfield 16, 3) := by decide +kernel
theorem dX0_start_15 : decode cX0_start 15 = .ok (.aload_n 0, 1) := by decide +kernel
theorem dX0_start_16 : decode cX0_start 16 = .ok (.iconst 0, 1) := by decide +kernel
theorem dX0_start_17 : decode cX0_start 17 = .ok (.putfield 19, 3) := by decide +kernel
theorem dX0_start_20 : decode cX0_start 20 = .ok (.aload_n 0, 1) := by decide +kernel
theorem dX0_start_21 : decode cX0_start 21 = .ok (.iconst 0, 1) := by decide +kernel
theorem dX0_start_22 : decode cX0_start 22 = .ok (.putfield 22, 3) := by decide +kernel
theorem dX0_start_25 : decode cX0_start 25 = .ok (.aload_n 0, 1) := by decide +kernel
theorem dX0_start_26 : decode cX0_start 26 = .ok (.iload_n 3, 1) := by decide +kernel
theorem dX0_start_27 : decode cX0_start 27 = .ok (.putfield 25, 3) := by decide +kernel
theorem dX0_start_30 : decode cX0_start 30 = .ok (.aload_n 0, 1) := by decide +kernel
theorem dX0_start_31 : decode cX0_start 31 = .ok (.iload 4, 2) := by decide +kernel
theorem dX0_start_33 : decode cX0_start 33 = .ok (.putfield 28, 3) := by decide +kernel
theorem dX0_start_36 : decode cX0_start 36 = .ok (.aload_n 0, 1) := by decide +kernel
theorem dX0_start_37 : decode cX0_start 37 = .ok (.iconst 0, 1) := by decide +kernel
theorem dX0_start_38 : decode cX0_start 38 = .ok (.putfield 31, 3) := by decide +kernel
theorem dX0_start_41 : decode cX0_start 41 = .ok (.return_, 1) := by decide +kernel
theorem dX0_baseFee_0 : decode cX0_baseFee 0 = .ok (.aload_n 0, 1) := by decide +kernel
theorem dX0_baseFee_1 : decode cX0_baseFee 1 = .ok (.getfield 13, 3) := by decide +kernel
theorem dX0_baseFee_4 : decode cX0_baseFee 4 = .ok (.lookupswitch 32 #[(0, 28), (1, 30)], 28) := by decide +kernel
theorem dX0_baseFee_32 : decode cX0_baseFee 32 = .ok (.iconst 5, 1) := by decide +kernel
theorem dX0_baseFee_33 : decode cX0_baseFee 33 = .ok (.ireturn, 1) := by decide +kernel
theorem dX0_baseFee_34 : decode cX0_baseFee 34 = .ok (.iconst 3, 1) := by decide +kernel
theorem dX0_baseFee_35 : decode cX0_baseFee 35 = .ok (.ireturn, 1) := by decide +kernel
theorem dX0_baseFee_36 : decode cX0_baseFee 36 = .ok (.iconst 4, 1) := by decide +kernel
theorem dX0_baseFee_37 : decode cX0_baseFee 37 = .ok (.ireturn, 1) := by decide +kernel
theorem dX8_init_0 : decode cX8_init 0 = .ok (.aload_n 0, 1) := by decide +kernel
theorem dX8_init_1 : decode cX8_init 1 = .ok (.invokespecial 3, 3) := by decide +kernel
theorem dX8_init_4 : decode cX8_init 4 = .ok (.aload_n 0, 1) := by decide +kernel
theorem dX8_init_5 : decode cX8_init 5 = .ok (.sipush 240, 3) := by decide +kernel
theorem dX8_init_8 : decode cX8_init 8 = .ok (.newarray .long, 2) := by decide +kernel
theorem dX8_init_10 : decode cX8_init 10 = .ok (.putfield 11, 3) := by decide +kernel
theorem dX8_init_13 : decode cX8_init 13 = .ok (.aload_n 0, 1) := by decide +kernel
theorem dX8_init_14 : decode cX8_init 14 = .ok (.sipush 240, 3) := by decide +kernel
theorem dX8_init_17 : decode cX8_init 17 = .ok (.newarray .int, 2) := by decide +kernel
theorem dX8_init_19 : decode cX8_init 19 = .ok (.putfield 15, 3) := by decide +kernel
theorem dX8_init_22 : decode cX8_init 22 = .ok (.aload_n 0, 1) := by decide +kernel
theorem dX8_init_23 : decode cX8_init 23 = .ok (.sipush 240, 3) := by decide +kernel
theorem dX8_init_26 : decode cX8_init 26 = .ok (.newarray .int, 2) := by decide +kernel
theorem dX8_init_28 : decode cX8_init 28 = .ok (.putfield 19, 3) := by decide +kernel
theorem dX8_init_31 : decode cX8_init 31 = .ok (.aload_n 0, 1) := by decide +kernel
theorem dX8_init_32 : decode cX8_init 32 = .ok (.sipush 240, 3) := by decide +kernel
theorem dX8_init_35 : decode cX8_init 35 = .ok (.newarray .boolean, 2) := by decide +kernel
theorem dX8_init_37 : decode cX8_init 37 = .ok (.putfield 22, 3) := by decide +kernel
theorem dX8_init_40 : decode cX8_init 40 = .ok (.aload_n 0, 1) := by decide +kernel
theorem dX8_init_41 : decode cX8_init 41 = .ok (.sipush 240, 3) := by decide +kernel
theorem dX8_init_44 : decode cX8_init 44 = .ok (.newarray .int, 2) := by decide +kernel
theorem dX8_init_46 : decode cX8_init 46 = .ok (.putfield 26, 3) := by decide +kernel
theorem dX8_init_49 : decode cX8_init 49 = .ok (.aload_n 0, 1) := by decide +kernel
theorem dX8_init_50 : decode cX8_init 50 = .ok (.sipush 960, 3) := by decide +kernel
theorem dX8_init_53 : decode cX8_init 53 = .ok (.newarray .long, 2) := by decide +kernel
theorem dX8_init_55 : decode cX8_init 55 = .ok (.putfield 29, 3) := by decide +kernel
theorem dX8_init_58 : decode cX8_init 58 = .ok (.return_, 1) := by decide +kernel
theorem dX4_init_0 : decode cX4_init 0 = .ok (.aload_n 0, 1) := by decide +kernel
theorem dX4_init_1 : decode cX4_init 1 = .ok (.invokespecial 3, 3) := by decide +kernel
theorem dX4_init_4 : decode cX4_init 4 = .ok (.aload_n 0, 1) := by decide +kernel
theorem dX4_init_5 : decode cX4_init 5 = .ok (.bipush 12, 2) := by decide +kernel
theorem dX4_init_7 : decode cX4_init 7 = .ok (.newarray .int, 2) := by decide +kernel
theorem dX4_init_9 : decode cX4_init 9 = .ok (.putfield 11, 3) := by decide +kernel
theorem dX4_init_12 : decode cX4_init 12 = .ok (.aload_n 0, 1) := by decide +kernel
theorem dX4_init_13 : decode cX4_init 13 = .ok (.bipush 12, 2) := by decide +kernel
theorem dX4_init_15 : decode cX4_init 15 = .ok (.newarray .boolean, 2) := by decide +kernel
theorem dX4_init_17 : decode cX4_init 17 = .ok (.putfield 15, 3) := by decide +kernel
theorem dX4_init_20 : decode cX4_init 20 = .ok (.return_, 1) := by decide +kernel
theorem dX2_init_0 : decode cX2_init 0 = .ok (.aload_n 0, 1) := by decide +kernel
theorem dX2_init_1 : decode cX2_init 1 = .ok (.invokespecial 1, 3) := by decide +kernel
theorem dX2_init_4 : decode cX2_init 4 = .ok (.return_, 1) := by decide +kernel
theorem dX3_init_0 : decode cX3_init 0 = .ok (.aload_n 0, 1) := by decide +kernel
theorem dX3_init_1 : decode cX3_init 1 = .ok (.invokespecial 3, 3) := by decide +kernel
theorem dX3_init_4 : decode cX3_init 4 = .ok (.return_, 1) := by decide +kernel
theorem dX1_init_0 : decode cX1_init 0 = .ok (.aload_n 0, 1) := by decide +kernel
theorem dX1_init_1 : decode cX1_init 1 = .ok (.invokespecial 1, 3) := by decide +kernel
theorem dX1_init_4 : decode cX1_init 4 = .ok (.aload_n 0, 1) := by decide +kernel
theorem dX1_init_5 : decode cX1_init 5 = .ok (.bipush 10, 2) := by decide +kernel
theorem dX1_init_7 : decode cX1_init 7 = .ok (.anewarray 9, 3) := by decide +kernel
theorem dX1_init_10 : decode cX1_init 10 = .ok (.putfield 11, 3) := by decide +kernel
theorem dX1_init_13 : decode cX1_init 13 = .ok (.aload_n 0, 1) := by decide +kernel
theorem dX1_init_14 : decode cX1_init 14 = .ok (.bipush 8, 2) := by decide +kernel
theorem dX1_init_16 : decode cX1_init 16 = .ok (.anewarray 15, 3) := by decide +kernel
theorem dX1_init_19 : decode cX1_init 19 = .ok (.putfield 17, 3) := by decide +kernel
theorem dX1_init_22 : decode cX1_init 22 = .ok (.aload_n 0, 1) := by decide +kernel
theorem dX1_init_23 : decode cX1_init 23 = .ok (.new 21, 3) := by decide +kernel
theorem dX1_init_26 : decode cX1_init 26 = .ok (.dup, 1) := by decide +kernel
theorem dX1_init_27 : decode cX1_init 27 = .ok (.invokespecial 23, 3) := by decide +kernel
theorem dX1_init_30 : decode cX1_init 30 = .ok (.putfield 24, 3) := by decide +kernel
theorem dX1_init_33 : decode cX1_init 33 = .ok (.aload_n 0, 1) := by decide +kernel
theorem dX1_init_34 : decode cX1_init 34 = .ok (.new 28, 3) := by decide +kernel
theorem dX1_init_37 : decode cX1_init 37 = .ok (.dup, 1) := by decide +kernel
theorem dX1_init_38 : decode cX1_init 38 = .ok (.invokespecial 30, 3) := by decide +kernel
theorem dX1_init_41 : decode cX1_init 41 = .ok (.putfield 31, 3) := by decide +kernel
theorem dX1_init_44 : decode cX1_init 44 = .ok (.aload_n 0, 1) := by decide +kernel
theorem dX1_init_45 : decode cX1_init 45 = .ok (.new 35, 3) := by decide +kernel
theorem dX1_init_48 : decode cX1_init 48 = .ok (.dup, 1) := by decide +kernel
theorem dX1_init_49 : decode cX1_init 49 = .ok (.invokespecial 37, 3) := by decide +kernel
theorem dX1_init_52 : decode cX1_init 52 = .ok (.putfield 38, 3) := by decide +kernel
theorem dX1_init_55 : decode cX1_init 55 = .ok (.aload_n 0, 1) := by decide +kernel
theorem dX1_init_56 : decode cX1_init 56 = .ok (.new 15, 3) := by decide +kernel
theorem dX1_init_59 : decode cX1_init 59 = .ok (.dup, 1) := by decide +kernel
theorem dX1_init_60 : decode cX1_init 60 = .ok (.invokespecial 42, 3) := by decide +kernel
theorem dX1_init_63 : decode cX1_init 63 = .ok (.putfield 43, 3) := by decide +kernel
theorem dX1_init_66 : decode cX1_init 66 = .ok (.iconst 0, 1) := by decide +kernel
theorem dX1_init_67 : decode cX1_init 67 = .ok (.istore_n 1, 1) := by decide +kernel
theorem dX1_init_68 : decode cX1_init 68 = .ok (.iload_n 1, 1) := by decide +kernel
theorem dX1_init_69 : decode cX1_init 69 = .ok (.bipush 10, 2) := by decide +kernel
theorem dX1_init_71 : decode cX1_init 71 = .ok (.if_icmp .ge 22, 3) := by decide +kernel
theorem dX1_init_74 : decode cX1_init 74 = .ok (.aload_n 0, 1) := by decide +kernel
theorem dX1_init_75 : decode cX1_init 75 = .ok (.getfield 11, 3) := by decide +kernel
theorem dX1_init_78 : decode cX1_init 78 = .ok (.iload_n 1, 1) := by decide +kernel
theorem dX1_init_79 : decode cX1_init 79 = .ok (.new 9, 3) := by decide +kernel
theorem dX1_init_82 : decode cX1_init 82 = .ok (.dup, 1) := by decide +kernel
theorem dX1_init_83 : decode cX1_init 83 = .ok (.invokespecial 47, 3) := by decide +kernel
theorem dX1_init_86 : decode cX1_init 86 = .ok (.aastore, 1) := by decide +kernel
theorem dX1_init_87 : decode cX1_init 87 = .ok (.iinc 1 1, 3) := by decide +kernel
theorem dX1_init_90 : decode cX1_init 90 = .ok (.goto (-22), 3) := by decide +kernel
theorem dX1_init_93 : decode cX1_init 93 = .ok (.iconst 0, 1) := by decide +kernel
theorem dX1_init_94 : decode cX1_init 94 = .ok (.istore_n 1, 1) := by decide +kernel
theorem dX1_init_95 : decode cX1_init 95 = .ok (.iload_n 1, 1) := by decide +kernel
theorem dX1_init_96 : decode cX1_init 96 = .ok (.bipush 8, 2) := by decide +kernel
theorem dX1_init_98 : decode cX1_init 98 = .ok (.if_icmp .ge 22, 3) := by decide +kernel
theorem dX1_init_101 : decode cX1_init 101 = .ok (.aload_n 0, 1) := by decide +kernel
theorem dX1_init_102 : decode cX1_init 102 = .ok (.getfield 17, 3) := by decide +kernel
theorem dX1_init_105 : decode cX1_init 105 = .ok (.iload_n 1, 1) := by decide +kernel
theorem dX1_init_106 : decode cX1_init 106 = .ok (.new 15, 3) := by decide +kernel
theorem dX1_init_109 : decode cX1_init 109 = .ok (.dup, 1) := by decide +kernel
theorem dX1_init_110 : decode cX1_init 110 = .ok (.invokespecial 42, 3) := by decide +kernel
theorem dX1_init_113 : decode cX1_init 113 = .ok (.aastore, 1) := by decide +kernel
theorem dX1_init_114 : decode cX1_init 114 = .ok (.iinc 1 1, 3) := by decide +kernel
theorem dX1_init_117 : decode cX1_init 117 = .ok (.goto (-22), 3) := by decide +kernel
theorem dX1_init_120 : decode cX1_init 120 = .ok (.return_, 1) := by decide +kernel
theorem dX3_take_0 : decode cX3_take 0 = .ok (.aload_n 0, 1) := by decide +kernel
theorem dX3_take_1 : decode cX3_take 1 = .ok (.aload_n 1, 1) := by decide +kernel
theorem dX3_take_2 : decode cX3_take 2 = .ok (.getfield 9, 3) := by decide +kernel
theorem dX3_take_5 : decode cX3_take 5 = .ok (.putfield 9, 3) := by decide +kernel
theorem dX3_take_8 : decode cX3_take 8 = .ok (.aload_n 0, 1) := by decide +kernel
theorem dX3_take_9 : decode cX3_take 9 = .ok (.aload_n 1, 1) := by decide +kernel
theorem dX3_take_10 : decode cX3_take 10 = .ok (.getfield 15, 3) := by decide +kernel
theorem dX3_take_13 : decode cX3_take 13 = .ok (.putfield 15, 3) := by decide +kernel
theorem dX3_take_16 : decode cX3_take 16 = .ok (.aload_n 0, 1) := by decide +kernel
theorem dX3_take_17 : decode cX3_take 17 = .ok (.aload_n 1, 1) := by decide +kernel
theorem dX3_take_18 : decode cX3_take 18 = .ok (.getfield 18, 3) := by decide +kernel
theorem dX3_take_21 : decode cX3_take 21 = .ok (.putfield 18, 3) := by decide +kernel
theorem dX3_take_24 : decode cX3_take 24 = .ok (.aload_n 0, 1) := by decide +kernel
theorem dX3_take_25 : decode cX3_take 25 = .ok (.aload_n 1, 1) := by decide +kernel
theorem dX3_take_26 : decode cX3_take 26 = .ok (.getfield 21, 3) := by decide +kernel
theorem dX3_take_29 : decode cX3_take 29 = .ok (.putfield 21, 3) := by decide +kernel
theorem dX3_take_32 : decode cX3_take 32 = .ok (.aload_n 0, 1) := by decide +kernel
theorem dX3_take_33 : decode cX3_take 33 = .ok (.aload_n 1, 1) := by decide +kernel
theorem dX3_take_34 : decode cX3_take 34 = .ok (.getfield 24, 3) := by decide +kernel
theorem dX3_take_37 : decode cX3_take 37 = .ok (.putfield 24, 3) := by decide +kernel
theorem dX3_take_40 : decode cX3_take 40 = .ok (.return_, 1) := by decide +kernel
theorem dX8_take_0 : decode cX8_take 0 = .ok (.aload_n 0, 1) := by decide +kernel
theorem dX8_take_1 : decode cX8_take 1 = .ok (.aload_n 1, 1) := by decide +kernel
theorem dX8_take_2 : decode cX8_take 2 = .ok (.getfield 32, 3) := by decide +kernel
theorem dX8_take_5 : decode cX8_take 5 = .ok (.putfield 32, 3) := by decide +kernel
theorem dX8_take_8 : decode cX8_take 8 = .ok (.aload_n 1, 1) := by decide +kernel
theorem dX8_take_9 : decode cX8_take 9 = .ok (.getfield 11, 3) := by decide +kernel
theorem dX8_take_12 : decode cX8_take 12 = .ok (.iconst 0, 1) := by decide +kernel
theorem dX8_take_13 : decode cX8_take 13 = .ok (.aload_n 0, 1) := by decide +kernel
theorem dX8_take_14 : decode cX8_take 14 = .ok (.getfield 11, 3) := by decide +kernel
theorem dX8_take_17 : decode cX8_take 17 = .ok (.iconst 0, 1) := by decide +kernel
theorem dX8_take_18 : decode cX8_take 18 = .ok (.aload_n 0, 1) := by decide +kernel
theorem dX8_take_19 : decode cX8_take 19 = .ok (.getfield 32, 3) := by decide +kernel
theorem dX8_take_22 : decode cX8_take 22 = .ok (.invokestatic 36, 3) := by decide +kernel
theorem dX8_take_25 : decode cX8_take 25 = .ok (.aload_n 1, 1) := by decide +kernel
theorem dX8_take_26 : decode cX8_take 26 = .ok (.getfield 15, 3) := by decide +kernel
theorem dX8_take_29 : decode cX8_take 29 = .ok (.iconst 0, 1) := by decide +kernel
theorem dX8_take_30 : decode cX8_take 30 = .ok (.aload_n 0, 1) := by decide +kernel
theorem dX8_take_31 : decode cX8_take 31 = .ok (.getfield 15, 3) := by decide +kernel
theorem dX8_take_34 : decode cX8_take 34 = .ok (.iconst 0, 1) := by decide +kernel
theorem dX8_take_35 : decode cX8_take 35 = .ok (.aload_n 0, 1) := by decide +kernel
theorem dX8_take_36 : decode cX8_take 36 = .ok (.getfield 32, 3) := by decide +kernel
theorem dX8_take_39 : decode cX8_take 39 = .ok (.invokestatic 36, 3) := by decide +kernel
theorem dX8_take_42 : decode cX8_take 42 = .ok (.aload_n 1, 1) := by decide +kernel
theorem dX8_take_43 : decode cX8_take 43 = .ok (.getfield 19, 3) := by decide +kernel
theorem dX8_take_46 : decode cX8_take 46 = .ok (.iconst 0, 1) := by decide +kernel
theorem dX8_take_47 : decode cX8_take 47 = .ok (.aload_n 0, 1) := by decide +kernel
theorem dX8_take_48 : decode cX8_take 48 = .ok (.getfield 19, 3) := by decide +kernel
theorem dX8_take_51 : decode cX8_take 51 = .ok (.iconst 0, 1) := by decide +kernel
theorem dX8_take_52 : decode cX8_take 52 = .ok (.aload_n 0, 1) := by decide +kernel
theorem dX8_take_53 : decode cX8_take 53 = .ok (.getfield 32, 3) := by decide +kernel
theorem dX8_take_56 : decode cX8_take 56 = .ok (.invokestatic 36, 3) := by decide +kernel
theorem dX8_take_59 : decode cX8_take 59 = .ok (.aload_n 1, 1) := by decide +kernel
theorem dX8_take_60 : decode cX8_take 60 = .ok (.getfield 26, 3) := by decide +kernel
theorem dX8_take_63 : decode cX8_take 63 = .ok (.iconst 0, 1) := by decide +kernel
theorem dX8_take_64 : decode cX8_take 64 = .ok (.aload_n 0, 1) := by decide +kernel
theorem dX8_take_65 : decode cX8_take 65 = .ok (.getfield 26, 3) := by decide +kernel
theorem dX8_take_68 : decode cX8_take 68 = .ok (.iconst 0, 1) := by decide +kernel
theorem dX8_take_69 : decode cX8_take 69 = .ok (.aload_n 0, 1) := by decide +kernel
theorem dX8_take_70 : decode cX8_take 70 = .ok (.getfield 32, 3) := by decide +kernel
theorem dX8_take_73 : decode cX8_take 73 = .ok (.invokestatic 36, 3) := by decide +kernel
theorem dX8_take_76 : decode cX8_take 76 = .ok (.aload_n 1, 1) := by decide +kernel
theorem dX8_take_77 : decode cX8_take 77 = .ok (.getfield 29, 3) := by decide +kernel
theorem dX8_take_80 : decode cX8_take 80 = .ok (.iconst 0, 1) := by decide +kernel
theorem dX8_take_81 : decode cX8_take 81 = .ok (.aload_n 0, 1) := by decide +kernel
theorem dX8_take_82 : decode cX8_take 82 = .ok (.getfield 29, 3) := by decide +kernel
theorem dX8_take_85 : decode cX8_take 85 = .ok (.iconst 0, 1) := by decide +kernel
theorem dX8_take_86 : decode cX8_take 86 = .ok (.aload_n 0, 1) := by decide +kernel
theorem dX8_take_87 : decode cX8_take 87 = .ok (.getfield 32, 3) := by decide +kernel
theorem dX8_take_90 : decode cX8_take 90 = .ok (.iconst 4, 1) := by decide +kernel
theorem dX8_take_91 : decode cX8_take 91 = .ok (.imul, 1) := by decide +kernel
theorem dX8_take_92 : decode cX8_take 92 = .ok (.invokestatic 36, 3) := by decide +kernel
theorem dX8_take_95 : decode cX8_take 95 = .ok (.iconst 0, 1) := by decide +kernel
theorem dX8_take_96 : decode cX8_take 96 = .ok (.istore_n 2, 1) := by decide +kernel
theorem dX8_take_97 : decode cX8_take 97 = .ok (.iload_n 2, 1) := by decide +kernel
theorem dX8_take_98 : decode cX8_take 98 = .ok (.aload_n 0, 1) := by decide +kernel
theorem dX8_take_99 : decode cX8_take 99 = .ok (.getfield 32, 3) := by decide +kernel
theorem dX8_take_102 : decode cX8_take 102 = .ok (.if_icmp .ge 21, 3) := by decide +kernel
theorem dX8_take_105 : decode cX8_take 105 = .ok (.aload_n 0, 1) := by decide +kernel
theorem dX8_take_106 : decode cX8_take 106 = .ok (.getfield 22, 3) := by decide +kernel
theorem dX8_take_109 : decode cX8_take 109 = .ok (.iload_n 2, 1) := by decide +kernel
theorem dX8_take_110 : decode cX8_take 110 = .ok (.aload_n 1, 1) := by decide +kernel
theorem dX8_take_111 : decode cX8_take 111 = .ok (.getfield 22, 3) := by decide +kernel
theorem dX8_take_114 : decode cX8_take 114 = .ok (.iload_n 2, 1) := by decide +kernel
theorem dX8_take_115 : decode cX8_take 115 = .ok (.baload, 1) := by decide +kernel
theorem dX8_take_116 : decode cX8_take 116 = .ok (.bastore, 1) := by decide +kernel
theorem dX8_take_117 : decode cX8_take 117 = .ok (.iinc 2 1, 3) := by decide +kernel
theorem dX8_take_120 : decode cX8_take 120 = .ok (.goto (-23), 3) := by decide +kernel
theorem dX8_take_123 : decode cX8_take 123 = .ok (.return_, 1) := by decide +kernel
theorem dX4_take_0 : decode cX4_take 0 = .ok (.aload_n 0, 1) := by decide +kernel
theorem dX4_take_1 : decode cX4_take 1 = .ok (.aload_n 1, 1) := by decide +kernel
theorem dX4_take_2 : decode cX4_take 2 = .ok (.getfield 19, 3) := by decide +kernel
theorem dX4_take_5 : decode cX4_take 5 = .ok (.putfield 19, 3) := by decide +kernel
theorem dX4_take_8 : decode cX4_take 8 = .ok (.aload_n 0, 1) := by decide +kernel
theorem dX4_take_9 : decode cX4_take 9 = .ok (.aload_n 1, 1) := by decide +kernel
theorem dX4_take_10 : decode cX4_take 10 = .ok (.getfield 23, 3) := by decide +kernel
theorem dX4_take_13 : decode cX4_take 13 = .ok (.putfield 23, 3) := by decide +kernel
theorem dX4_take_16 : decode cX4_take 16 = .ok (.aload_n 1, 1) := by decide +kernel
theorem dX4_take_17 : decode cX4_take 17 = .ok (.getfield 11, 3) := by decide +kernel
theorem dX4_take_20 : decode cX4_take 20 = .ok (.iconst 0, 1) := by decide +kernel
theorem dX4_take_21 : decode cX4_take 21 = .ok (.aload_n 0, 1) := by decide +kernel
theorem dX4_take_22 : decode cX4_take 22 = .ok (.getfield 11, 3) := by decide +kernel
theorem dX4_take_25 : decode cX4_take 25 = .ok (.iconst 0, 1) := by decide +kernel
theorem dX4_take_26 : decode cX4_take 26 = .ok (.bipush 12, 2) := by decide +kernel
theorem dX4_take_28 : decode cX4_take 28 = .ok (.invokestatic 26, 3) := by decide +kernel
theorem dX4_take_31 : decode cX4_take 31 = .ok (.return_, 1) := by decide +kernel
theorem dX1_take_0 : decode cX1_take 0 = .ok (.aload_n 0, 1) := by decide +kernel
theorem dX1_take_1 : decode cX1_take 1 = .ok (.aload_n 1, 1) := by decide +kernel
theorem dX1_take_2 : decode cX1_take 2 = .ok (.getfield 48, 3) := by decide +kernel
theorem dX1_take_5 : decode cX1_take 5 = .ok (.putfield 48, 3) := by decide +kernel
theorem dX1_take_8 : decode cX1_take 8 = .ok (.aload_n 0, 1) := by decide +kernel
theorem dX1_take_9 : decode cX1_take 9 = .ok (.aload_n 1, 1) := by decide +kernel
theorem dX1_take_10 : decode cX1_take 10 = .ok (.getfield 52, 3) := by decide +kernel
theorem dX1_take_13 : decode cX1_take 13 = .ok (.putfield 52, 3) := by decide +kernel
theorem dX1_take_16 : decode cX1_take 16 = .ok (.aload_n 0, 1) := by decide +kernel
theorem dX1_take_17 : decode cX1_take 17 = .ok (.aload_n 1, 1) := by decide +kernel
theorem dX1_take_18 : decode cX1_take 18 = .ok (.getfield 55, 3) := by decide +kernel
theorem dX1_take_21 : decode cX1_take 21 = .ok (.putfield 55, 3) := by decide +kernel
theorem dX1_take_24 : decode cX1_take 24 = .ok (.aload_n 0, 1) := by decide +kernel
theorem dX1_take_25 : decode cX1_take 25 = .ok (.aload_n 1, 1) := by decide +kernel
theorem dX1_take_26 : decode cX1_take 26 = .ok (.getfield 58, 3) := by decide +kernel
theorem dX1_take_29 : decode cX1_take 29 = .ok (.putfield 58, 3) := by decide +kernel
theorem dX1_take_32 : decode cX1_take 32 = .ok (.aload_n 0, 1) := by decide +kernel
theorem dX1_take_33 : decode cX1_take 33 = .ok (.aload_n 1, 1) := by decide +kernel
theorem dX1_take_34 : decode cX1_take 34 = .ok (.getfield 61, 3) := by decide +kernel
theorem dX1_take_37 : decode cX1_take 37 = .ok (.putfield 61, 3) := by decide +kernel
theorem dX1_take_40 : decode cX1_take 40 = .ok (.aload_n 0, 1) := by decide +kernel
theorem dX1_take_41 : decode cX1_take 41 = .ok (.aload_n 1, 1) := by decide +kernel
theorem dX1_take_42 : decode cX1_take 42 = .ok (.getfield 64, 3) := by decide +kernel
theorem dX1_take_45 : decode cX1_take 45 = .ok (.putfield 64, 3) := by decide +kernel
theorem dX1_take_48 : decode cX1_take 48 = .ok (.iconst 0, 1) := by decide +kernel
theorem dX1_take_49 : decode cX1_take 49 = .ok (.istore_n 2, 1) := by decide +kernel
theorem dX1_take_50 : decode cX1_take 50 = .ok (.iload_n 2, 1) := by decide +kernel
theorem dX1_take_51 : decode cX1_take 51 = .ok (.aload_n 0, 1) := by decide +kernel
theorem dX1_take_52 : decode cX1_take 52 = .ok (.getfield 55, 3) := by decide +kernel
theorem dX1_take_55 : decode cX1_take 55 = .ok (.if_icmp .ge 24, 3) := by decide +kernel
theorem dX1_take_58 : decode cX1_take 58 = .ok (.aload_n 0, 1) := by decide +kernel
theorem dX1_take_59 : decode cX1_take 59 = .ok (.getfield 11, 3) := by decide +kernel
theorem dX1_take_62 : decode cX1_take 62 = .ok (.iload_n 2, 1) := by decide +kernel
theorem dX1_take_63 : decode cX1_take 63 = .ok (.aaload, 1) := by decide +kernel
theorem dX1_take_64 : decode cX1_take 64 = .ok (.aload_n 1, 1) := by decide +kernel
theorem dX1_take_65 : decode cX1_take 65 = .ok (.getfield 11, 3) := by decide +kernel
theorem dX1_take_68 : decode cX1_take 68 = .ok (.iload_n 2, 1) := by decide +kernel
theorem dX1_take_69 : decode cX1_take 69 = .ok (.aaload, 1) := by decide +kernel
theorem dX1_take_70 : decode cX1_take 70 = .ok (.invokevirtual 67, 3) := by decide +kernel
theorem dX1_take_73 : decode cX1_take 73 = .ok (.iinc 2 1, 3) := by decide +kernel
theorem dX1_take_76 : decode cX1_take 76 = .ok (.goto (-26), 3) := by decide +kernel
theorem dX1_take_79 : decode cX1_take 79 = .ok (.iconst 0, 1) := by decide +kernel
theorem dX1_take_80 : decode cX1_take 80 = .ok (.istore_n 2, 1) := by decide +kernel
theorem dX1_take_81 : decode cX1_take 81 = .ok (.iload_n 2, 1) := by decide +kernel
theorem dX1_take_82 : decode cX1_take 82 = .ok (.aload_n 0, 1) := by decide +kernel
theorem dX1_take_83 : decode cX1_take 83 = .ok (.getfield 58, 3) := by decide +kernel
theorem dX1_take_86 : decode cX1_take 86 = .ok (.if_icmp .ge 24, 3) := by decide +kernel
theorem dX1_take_89 : decode cX1_take 89 = .ok (.aload_n 0, 1) := by decide +kernel
theorem dX1_take_90 : decode cX1_take 90 = .ok (.getfield 17, 3) := by decide +kernel
theorem dX1_take_93 : decode cX1_take 93 = .ok (.iload_n 2, 1) := by decide +kernel
theorem dX1_take_94 : decode cX1_take 94 = .ok (.aaload, 1) := by decide +kernel
theorem dX1_take_95 : decode cX1_take 95 = .ok (.aload_n 1, 1) := by decide +kernel
theorem dX1_take_96 : decode cX1_take 96 = .ok (.getfield 17, 3) := by decide +kernel
theorem dX1_take_99 : decode cX1_take 99 = .ok (.iload_n 2, 1) := by decide +kernel
theorem dX1_take_100 : decode cX1_take 100 = .ok (.aaload, 1) := by decide +kernel
theorem dX1_take_101 : decode cX1_take 101 = .ok (.invokevirtual 71, 3) := by decide +kernel
theorem dX1_take_104 : decode cX1_take 104 = .ok (.iinc 2 1, 3) := by decide +kernel
theorem dX1_take_107 : decode cX1_take 107 = .ok (.goto (-26), 3) := by decide +kernel
theorem dX1_take_110 : decode cX1_take 110 = .ok (.aload_n 0, 1) := by decide +kernel
theorem dX1_take_111 : decode cX1_take 111 = .ok (.getfield 24, 3) := by decide +kernel
theorem dX1_take_114 : decode cX1_take 114 = .ok (.aload_n 1, 1) := by decide +kernel
theorem dX1_take_115 : decode cX1_take 115 = .ok (.getfield 24, 3) := by decide +kernel
theorem dX1_take_118 : decode cX1_take 118 = .ok (.invokevirtual 74, 3) := by decide +kernel
theorem dX1_take_121 : decode cX1_take 121 = .ok (.aload_n 0, 1) := by decide +kernel
theorem dX1_take_122 : decode cX1_take 122 = .ok (.getfield 31, 3) := by decide +kernel
theorem dX1_take_125 : decode cX1_take 125 = .ok (.aload_n 1, 1) := by decide +kernel
theorem dX1_take_126 : decode cX1_take 126 = .ok (.getfield 31, 3) := by decide +kernel
theorem dX1_take_129 : decode cX1_take 129 = .ok (.invokevirtual 77, 3) := by decide +kernel
theorem dX1_take_132 : decode cX1_take 132 = .ok (.return_, 1) := by decide +kernel
theorem dX1_clear_0 : decode cX1_clear 0 = .ok (.aload_n 0, 1) := by decide +kernel
theorem dX1_clear_1 : decode cX1_clear 1 = .ok (.iconst 0, 1) := by decide +kernel
theorem dX1_clear_2 : decode cX1_clear 2 = .ok (.putfield 55, 3) := by decide +kernel
theorem dX1_clear_5 : decode cX1_clear 5 = .ok (.aload_n 0, 1) := by decide +kernel
theorem dX1_clear_6 : decode cX1_clear 6 = .ok (.iconst 0, 1) := by decide +kernel
theorem dX1_clear_7 : decode cX1_clear 7 = .ok (.putfield 58, 3) := by decide +kernel
theorem dX1_clear_10 : decode cX1_clear 10 = .ok (.aload_n 0, 1) := by decide +kernel
theorem dX1_clear_11 : decode cX1_clear 11 = .ok (.iconst 0, 1) := by decide +kernel
theorem dX1_clear_12 : decode cX1_clear 12 = .ok (.putfield 61, 3) := by decide +kernel
theorem dX1_clear_15 : decode cX1_clear 15 = .ok (.aload_n 0, 1) := by decide +kernel
theorem dX1_clear_16 : decode cX1_clear 16 = .ok (.iconst 0, 1) := by decide +kernel
theorem dX1_clear_17 : decode cX1_clear 17 = .ok (.putfield 64, 3) := by decide +kernel
theorem dX1_clear_20 : decode cX1_clear 20 = .ok (.aload_n 0, 1) := by decide +kernel
theorem dX1_clear_21 : decode cX1_clear 21 = .ok (.getfield 24, 3) := by decide +kernel
theorem dX1_clear_24 : decode cX1_clear 24 = .ok (.iconst 0, 1) := by decide +kernel
theorem dX1_clear_25 : decode cX1_clear 25 = .ok (.putfield 80, 3) := by decide +kernel
theorem dX1_clear_28 : decode cX1_clear 28 = .ok (.aload_n 0, 1) := by decide +kernel
theorem dX1_clear_29 : decode cX1_clear 29 = .ok (.getfield 31, 3) := by decide +kernel
theorem dX1_clear_32 : decode cX1_clear 32 = .ok (.iconst 0, 1) := by decide +kernel
theorem dX1_clear_33 : decode cX1_clear 33 = .ok (.putfield 83, 3) := by decide +kernel
theorem dX1_clear_36 : decode cX1_clear 36 = .ok (.return_, 1) := by decide +kernel
theorem dX1_openAct_0 : decode cX1_openAct 0 = .ok (.aload_n 0, 1) := by decide +kernel
theorem dX1_openAct_1 : decode cX1_openAct 1 = .ok (.getfield 55, 3) := by decide +kernel
theorem dX1_openAct_4 : decode cX1_openAct 4 = .ok (.ifCond .eq 20, 3) := by decide +kernel
theorem dX1_openAct_7 : decode cX1_openAct 7 = .ok (.aload_n 0, 1) := by decide +kernel
theorem dX1_openAct_8 : decode cX1_openAct 8 = .ok (.getfield 11, 3) := by decide +kernel
theorem dX1_openAct_11 : decode cX1_openAct 11 = .ok (.aload_n 0, 1) := by decide +kernel
theorem dX1_openAct_12 : decode cX1_openAct 12 = .ok (.getfield 55, 3) := by decide +kernel
theorem dX1_openAct_15 : decode cX1_openAct 15 = .ok (.iconst 1, 1) := by decide +kernel
theorem dX1_openAct_16 : decode cX1_openAct 16 = .ok (.isub, 1) := by decide +kernel
theorem dX1_openAct_17 : decode cX1_openAct 17 = .ok (.aaload, 1) := by decide +kernel
theorem dX1_openAct_18 : decode cX1_openAct 18 = .ok (.getfield 84, 3) := by decide +kernel
theorem dX1_openAct_21 : decode cX1_openAct 21 = .ok (.ifCond .eq 5, 3) := by decide +kernel
theorem dX1_openAct_24 : decode cX1_openAct 24 = .ok (.aconst_null, 1) := by decide +kernel
theorem dX1_openAct_25 : decode cX1_openAct 25 = .ok (.areturn, 1) := by decide +kernel
theorem dX1_openAct_26 : decode cX1_openAct 26 = .ok (.aload_n 0, 1) := by decide +kernel
theorem dX1_openAct_27 : decode cX1_openAct 27 = .ok (.getfield 11, 3) := by decide +kernel
theorem dX1_openAct_30 : decode cX1_openAct 30 = .ok (.aload_n 0, 1) := by decide +kernel
theorem dX1_openAct_31 : decode cX1_openAct 31 = .ok (.getfield 55, 3) := by decide +kernel
theorem dX1_openAct_34 : decode cX1_openAct 34 = .ok (.iconst 1, 1) := by decide +kernel
theorem dX1_openAct_35 : decode cX1_openAct 35 = .ok (.isub, 1) := by decide +kernel
theorem dX1_openAct_36 : decode cX1_openAct 36 = .ok (.aaload, 1) := by decide +kernel
theorem dX1_openAct_37 : decode cX1_openAct 37 = .ok (.areturn, 1) := by decide +kernel
theorem dX1_openNumber_0 : decode cX1_openNumber 0 = .ok (.aload_n 0, 1) := by decide +kernel
theorem dX1_openNumber_1 : decode cX1_openNumber 1 = .ok (.invokevirtual 87, 3) := by decide +kernel
theorem dX1_openNumber_4 : decode cX1_openNumber 4 = .ok (.ifnonnull 7, 3) := by decide +kernel
theorem dX1_openNumber_7 : decode cX1_openNumber 7 = .ok (.iconst 0, 1) := by decide +kernel
theorem dX1_openNumber_8 : decode cX1_openNumber 8 = .ok (.goto 7, 3) := by decide +kernel
theorem dX1_openNumber_11 : decode cX1_openNumber 11 = .ok (.aload_n 0, 1) := by decide +kernel
theorem dX1_openNumber_12 : decode cX1_openNumber 12 = .ok (.getfield 55, 3) := by decide +kernel
theorem dX1_openNumber_15 : decode cX1_openNumber 15 = .ok (.ireturn, 1) := by decide +kernel
theorem dX1_openSize_0 : decode cX1_openSize 0 = .ok (.aload_n 0, 1) := by decide +kernel
theorem dX1_openSize_1 : decode cX1_openSize 1 = .ok (.invokevirtual 87, 3) := by decide +kernel
theorem dX1_openSize_4 : decode cX1_openSize 4 = .ok (.astore_n 1, 1) := by decide +kernel
theorem dX1_openSize_5 : decode cX1_openSize 5 = .ok (.aload_n 1, 1) := by decide +kernel
theorem dX1_openSize_6 : decode cX1_openSize 6 = .ok (.ifnonnull 7, 3) := by decide +kernel
theorem dX1_openSize_9 : decode cX1_openSize 9 = .ok (.iconst 0, 1) := by decide +kernel
theorem dX1_openSize_10 : decode cX1_openSize 10 = .ok (.goto 7, 3) := by decide +kernel
theorem dX1_openSize_13 : decode cX1_openSize 13 = .ok (.aload_n 1, 1) := by decide +kernel
theorem dX1_openSize_14 : decode cX1_openSize 14 = .ok (.getfield 91, 3) := by decide +kernel
theorem dX1_openSize_17 : decode cX1_openSize 17 = .ok (.ireturn, 1) := by decide +kernel
theorem dX8_unstruckFrom_0 : decode cX8_unstruckFrom 0 = .ok (.iconst 0, 1) := by decide +kernel
theorem dX8_unstruckFrom_1 : decode cX8_unstruckFrom 1 = .ok (.istore_n 3, 1) := by decide +kernel
theorem dX8_unstruckFrom_2 : decode cX8_unstruckFrom 2 = .ok (.iload_n 1, 1) := by decide +kernel
theorem dX8_unstruckFrom_3 : decode cX8_unstruckFrom 3 = .ok (.istore 4, 2) := by decide +kernel
theorem dX8_unstruckFrom_5 : decode cX8_unstruckFrom 5 = .ok (.iload 4, 2) := by decide +kernel
theorem dX8_unstruckFrom_7 : decode cX8_unstruckFrom 7 = .ok (.iload_n 1, 1) := by decide +kernel
theorem dX8_unstruckFrom_8 : decode cX8_unstruckFrom 8 = .ok (.iload_n 2, 1) := by decide +kernel
theorem dX8_unstruckFrom_9 : decode cX8_unstruckFrom 9 = .ok (.iadd, 1) := by decide +kernel
theorem dX8_unstruckFrom_10 : decode cX8_unstruckFrom 10 = .ok (.if_icmp .ge 22, 3) := by decide +kernel
theorem dX8_unstruckFrom_13 : decode cX8_unstruckFrom 13 = .ok (.aload_n 0, 1) := by decide +kernel
theorem dX8_unstruckFrom_14 : decode cX8_unstruckFrom 14 = .ok (.getfield 22, 3) := by decide +kernel
theorem dX8_unstruckFrom_17 : decode cX8_unstruckFrom 17 = .ok (.iload 4, 2) := by decide +kernel
theorem dX8_unstruckFrom_19 : decode cX8_unstruckFrom 19 = .ok (.baload, 1) := by decide +kernel
theorem dX8_unstruckFrom_20 : decode cX8_unstruckFrom 20 = .ok (.ifCond .ne 6, 3) := by decide +kernel
theorem dX8_unstruckFrom_23 : decode cX8_unstruckFrom 23 = .ok (.iinc 3 1, 3) := by decide +kernel
theorem dX8_unstruckFrom_26 : decode cX8_unstruckFrom 26 = .ok (.iinc 4 1, 3) := by decide +kernel
theorem dX8_unstruckFrom_29 : decode cX8_unstruckFrom 29 = .ok (.goto (-24), 3) := by decide +kernel
theorem dX8_unstruckFrom_32 : decode cX8_unstruckFrom 32 = .ok (.iload_n 3, 1) := by decide +kernel
theorem dX8_unstruckFrom_33 : decode cX8_unstruckFrom 33 = .ok (.ireturn, 1) := by decide +kernel
theorem dX8_standingFrom_0 : decode cX8_standingFrom 0 = .ok (.aload_n 0, 1) := by decide +kernel
theorem dX8_standingFrom_1 : decode cX8_standingFrom 1 = .ok (.iload_n 1, 1) := by decide +kernel
theorem dX8_standingFrom_2 : decode cX8_standingFrom 2 = .ok (.iload_n 2, 1) := by decide +kernel
theorem dX8_standingFrom_3 : decode cX8_standingFrom 3 = .ok (.invokevirtual 42, 3) := by decide +kernel
theorem dX8_standingFrom_6 : decode cX8_standingFrom 6 = .ok (.istore_n 3, 1) := by decide +kernel
theorem dX8_standingFrom_7 : decode cX8_standingFrom 7 = .ok (.iload_n 1, 1) := by decide +kernel
theorem dX8_standingFrom_8 : decode cX8_standingFrom 8 = .ok (.istore 4, 2) := by decide +kernel
theorem dX8_standingFrom_10 : decode cX8_standingFrom 10 = .ok (.iload 4, 2) := by decide +kernel
theorem dX8_standingFrom_12 : decode cX8_standingFrom 12 = .ok (.iload_n 1, 1) := by decide +kernel
theorem dX8_standingFrom_13 : decode cX8_standingFrom 13 = .ok (.iload_n 2, 1) := by decide +kernel
theorem dX8_standingFrom_14 : decode cX8_standingFrom 14 = .ok (.iadd, 1) := by decide +kernel
theorem dX8_standingFrom_15 : decode cX8_standingFrom 15 = .ok (.if_icmp .ge 19, 3) := by decide +kernel
theorem dX8_standingFrom_18 : decode cX8_standingFrom 18 = .ok (.iload_n 3, 1) := by decide +kernel
theorem dX8_standingFrom_19 : decode cX8_standingFrom 19 = .ok (.aload_n 0, 1) := by decide +kernel
theorem dX8_standingFrom_20 : decode cX8_standingFrom 20 = .ok (.getfield 26, 3) := by decide +kernel
theorem dX8_standingFrom_23 : decode cX8_standingFrom 23 = .ok (.iload 4, 2) := by decide +kernel
theorem dX8_standingFrom_25 : decode cX8_standingFrom 25 = .ok (.iaload, 1) := by decide +kernel
theorem dX8_standingFrom_26 : decode cX8_standingFrom 26 = .ok (.iadd, 1) := by decide +kernel
theorem dX8_standingFrom_27 : decode cX8_standingFrom 27 = .ok (.istore_n 3, 1) := by decide +kernel
theorem dX8_standingFrom_28 : decode cX8_standingFrom 28 = .ok (.iinc 4 1, 3) := by decide +kernel
theorem dX8_standingFrom_31 : decode cX8_standingFrom 31 = .ok (.goto (-21), 3) := by decide +kernel
theorem dX8_standingFrom_34 : decode cX8_standingFrom 34 = .ok (.iload_n 3, 1) := by decide +kernel
theorem dX8_standingFrom_35 : decode cX8_standingFrom 35 = .ok (.ireturn, 1) := by decide +kernel
theorem dX1_openStanding_0 : decode cX1_openStanding 0 = .ok (.aload_n 0, 1) := by decide +kernel
theorem dX1_openStanding_1 : decode cX1_openStanding 1 = .ok (.invokevirtual 87, 3) := by decide +kernel
theorem dX1_openStanding_4 : decode cX1_openStanding 4 = .ok (.astore_n 1, 1) := by decide +kernel
theorem dX1_openStanding_5 : decode cX1_openStanding 5 = .ok (.aload_n 1, 1) := by decide +kernel
theorem dX1_openStanding_6 : decode cX1_openStanding 6 = .ok (.ifnonnull 7, 3) := by decide +kernel
theorem dX1_openStanding_9 : decode cX1_openStanding 9 = .ok (.iconst 0, 1) := by decide +kernel
theorem dX1_openStanding_10 : decode cX1_openStanding 10 = .ok (.goto 18, 3) := by decide +kernel
theorem dX1_openStanding_13 : decode cX1_openStanding 13 = .ok (.aload_n 0, 1) := by decide +kernel
theorem dX1_openStanding_14 : decode cX1_openStanding 14 = .ok (.getfield 24, 3) := by decide +kernel
theorem dX1_openStanding_17 : decode cX1_openStanding 17 = .ok (.aload_n 1, 1) := by decide +kernel
theorem dX1_openStanding_18 : decode cX1_openStanding 18 = .ok (.getfield 92, 3) := by decide +kernel
theorem dX1_openStanding_21 : decode cX1_openStanding 21 = .ok (.aload_n 1, 1) := by decide +kernel
theorem dX1_openStanding_22 : decode cX1_openStanding 22 = .ok (.getfield 91, 3) := by decide +kernel
theorem dX1_openStanding_25 : decode cX1_openStanding 25 = .ok (.invokevirtual 95, 3) := by decide +kernel
theorem dX1_openStanding_28 : decode cX1_openStanding 28 = .ok (.ireturn, 1) := by decide +kernel
theorem dX1_marksOfAll_0 : decode cX1_marksOfAll 0 = .ok (.iconst 0, 1) := by decide +kernel
theorem dX1_marksOfAll_1 : decode cX1_marksOfAll 1 = .ok (.istore_n 1, 1) := by decide +kernel
theorem dX1_marksOfAll_2 : decode cX1_marksOfAll 2 = .ok (.iconst 0, 1) := by decide +kernel
theorem dX1_marksOfAll_3 : decode cX1_marksOfAll 3 = .ok (.istore_n 2, 1) := by decide +kernel
theorem dX1_marksOfAll_4 : decode cX1_marksOfAll 4 = .ok (.iload_n 2, 1) := by decide +kernel
theorem dX1_marksOfAll_5 : decode cX1_marksOfAll 5 = .ok (.aload_n 0, 1) := by decide +kernel
theorem dX1_marksOfAll_6 : decode cX1_marksOfAll 6 = .ok (.getfield 55, 3) := by decide +kernel
theorem dX1_marksOfAll_9 : decode cX1_marksOfAll 9 = .ok (.if_icmp .ge 21, 3) := by decide +kernel
theorem dX1_marksOfAll_12 : decode cX1_marksOfAll 12 = .ok (.iload_n 1, 1) := by decide +kernel
theorem dX1_marksOfAll_13 : decode cX1_marksOfAll 13 = .ok (.aload_n 0, 1) := by decide +kernel
theorem dX1_marksOfAll_14 : decode cX1_marksOfAll 14 = .ok (.getfield 11, 3) := by decide +kernel
theorem dX1_marksOfAll_17 : decode cX1_marksOfAll 17 = .ok (.iload_n 2, 1) := by decide +kernel
theorem dX1_marksOfAll_18 : decode cX1_marksOfAll 18 = .ok (.aaload, 1) := by decide +kernel
theorem dX1_marksOfAll_19 : decode cX1_marksOfAll 19 = .ok (.getfield 99, 3) := by decide +kernel
theorem dX1_marksOfAll_22 : decode cX1_marksOfAll 22 = .ok (.iadd, 1) := by decide +kernel
theorem dX1_marksOfAll_23 : decode cX1_marksOfAll 23 = .ok (.istore_n 1, 1) := by decide +kernel
theorem dX1_marksOfAll_24 : decode cX1_marksOfAll 24 = .ok (.iinc 2 1, 3) := by decide +kernel
theorem dX1_marksOfAll_27 : decode cX1_marksOfAll 27 = .ok (.goto (-23), 3) := by decide +kernel
theorem dX1_marksOfAll_30 : decode cX1_marksOfAll 30 = .ok (.iload_n 1, 1) := by decide +kernel
theorem dX1_marksOfAll_31 : decode cX1_marksOfAll 31 = .ok (.ireturn, 1) := by decide +kernel
theorem dX1_actsAt_0 : decode cX1_actsAt 0 = .ok (.iconst 0, 1) := by decide +kernel
theorem dX1_actsAt_1 : decode cX1_actsAt 1 = .ok (.istore_n 2, 1) := by decide +kernel
theorem dX1_actsAt_2 : decode cX1_actsAt 2 = .ok (.iconst 0, 1) := by decide +kernel
theorem dX1_actsAt_3 : decode cX1_actsAt 3 = .ok (.istore_n 3, 1) := by decide +kernel
theorem dX1_actsAt_4 : decode cX1_actsAt 4 = .ok (.iload_n 3, 1) := by decide +kernel
theorem dX1_actsAt_5 : decode cX1_actsAt 5 = .ok (.aload_n 0, 1) := by decide +kernel
theorem dX1_actsAt_6 : decode cX1_actsAt 6 = .ok (.getfield 55, 3) := by decide +kernel
theorem dX1_actsAt_9 : decode cX1_actsAt 9 = .ok (.if_icmp .ge 25, 3) := by decide +kernel
theorem dX1_actsAt_12 : decode cX1_actsAt 12 = .ok (.aload_n 0, 1) := by decide +kernel
theorem dX1_actsAt_13 : decode cX1_actsAt 13 = .ok (.getfield 11, 3) := by decide +kernel
theorem dX1_actsAt_16 : decode cX1_actsAt 16 = .ok (.iload_n 3, 1) := by decide +kernel
theorem dX1_actsAt_17 : decode cX1_actsAt 17 = .ok (.aaload, 1) := by decide +kernel
theorem dX1_actsAt_18 : decode cX1_actsAt 18 = .ok (.getfield 84, 3) := by decide +kernel
theorem dX1_actsAt_21 : decode cX1_actsAt 21 = .ok (.iload_n 1, 1) := by decide +kernel
theorem dX1_actsAt_22 : decode cX1_actsAt 22 = .ok (.if_icmp .ne 6, 3) := by decide +kernel
theorem dX1_actsAt_25 : decode cX1_actsAt 25 = .ok (.iinc 2 1, 3) := by decide +kernel
theorem dX1_actsAt_28 : decode cX1_actsAt 28 = .ok (.iinc 3 1, 3) := by decide +kernel
theorem dX1_actsAt_31 : decode cX1_actsAt 31 = .ok (.goto (-27), 3) := by decide +kernel
theorem dX1_actsAt_34 : decode cX1_actsAt 34 = .ok (.iload_n 2, 1) := by decide +kernel
theorem dX1_actsAt_35 : decode cX1_actsAt 35 = .ok (.ireturn, 1) := by decide +kernel
theorem dX8_depthOf_0 : decode cX8_depthOf 0 = .ok (.aload_n 0, 1) := by decide +kernel
theorem dX8_depthOf_1 : decode cX8_depthOf 1 = .ok (.getfield 15, 3) := by decide +kernel
theorem dX8_depthOf_4 : decode cX8_depthOf 4 = .ok (.iload_n 2, 1) := by decide +kernel
theorem dX8_depthOf_5 : decode cX8_depthOf 5 = .ok (.iaload, 1) := by decide +kernel
theorem dX8_depthOf_6 : decode cX8_depthOf 6 = .ok (.istore_n 3, 1) := by decide +kernel
theorem dX8_depthOf_7 : decode cX8_depthOf 7 = .ok (.iload_n 1, 1) := by decide +kernel
theorem dX8_depthOf_8 : decode cX8_depthOf 8 = .ok (.istore 4, 2) := by decide +kernel
theorem dX8_depthOf_10 : decode cX8_depthOf 10 = .ok (.iload 4, 2) := by decide +kernel
theorem dX8_depthOf_12 : decode cX8_depthOf 12 = .ok (.iload_n 2, 1) := by decide +kernel
theorem dX8_depthOf_13 : decode cX8_depthOf 13 = .ok (.if_icmp .ge 27, 3) := by decide +kernel
theorem dX8_depthOf_16 : decode cX8_depthOf 16 = .ok (.iload_n 3, 1) := by decide +kernel
theorem dX8_depthOf_17 : decode cX8_depthOf 17 = .ok (.aload_n 0, 1) := by decide +kernel
theorem dX8_depthOf_18 : decode cX8_depthOf 18 = .ok (.getfield 15, 3) := by decide +kernel
theorem dX8_depthOf_21 : decode cX8_depthOf 21 = .ok (.iload 4, 2) := by decide +kernel
theorem dX8_depthOf_23 : decode cX8_depthOf 23 = .ok (.iaload, 1) := by decide +kernel
theorem dX8_depthOf_24 : decode cX8_depthOf 24 = .ok (.aload_n 0, 1) := by decide +kernel
theorem dX8_depthOf_25 : decode cX8_depthOf 25 = .ok (.getfield 19, 3) := by decide +kernel
theorem dX8_depthOf_28 : decode cX8_depthOf 28 = .ok (.iload 4, 2) := by decide +kernel
theorem dX8_depthOf_30 : decode cX8_depthOf 30 = .ok (.iaload, 1) := by decide +kernel
theorem dX8_depthOf_31 : decode cX8_depthOf 31 = .ok (.isub, 1) := by decide +kernel
theorem dX8_depthOf_32 : decode cX8_depthOf 32 = .ok (.iadd, 1) := by decide +kernel
theorem dX8_depthOf_33 : decode cX8_depthOf 33 = .ok (.istore_n 3, 1) := by decide +kernel
theorem dX8_depthOf_34 : decode cX8_depthOf 34 = .ok (.iinc 4 1, 3) := by decide +kernel
theorem dX8_depthOf_37 : decode cX8_depthOf 37 = .ok (.goto (-27), 3) := by decide +kernel
theorem dX8_depthOf_40 : decode cX8_depthOf 40 = .ok (.iload_n 3, 1) := by decide +kernel
theorem dX8_depthOf_41 : decode cX8_depthOf 41 = .ok (.ireturn, 1) := by decide +kernel
theorem dX8_innermostOf_0 : decode cX8_innermostOf 0 = .ok (.aload_n 0, 1) := by decide +kernel
theorem dX8_innermostOf_1 : decode cX8_innermostOf 1 = .ok (.iload_n 1, 1) := by decide +kernel
theorem dX8_innermostOf_2 : decode cX8_innermostOf 2 = .ok (.iload_n 2, 1) := by decide +kernel
theorem dX8_innermostOf_3 : decode cX8_innermostOf 3 = .ok (.invokevirtual 64, 3) := by decide +kernel
theorem dX8_innermostOf_6 : decode cX8_innermostOf 6 = .ok (.istore_n 3, 1) := by decide +kernel
theorem dX8_innermostOf_7 : decode cX8_innermostOf 7 = .ok (.iconst (-1), 1) := by decide +kernel
theorem dX8_innermostOf_8 : decode cX8_innermostOf 8 = .ok (.istore 4, 2) := by decide +kernel
theorem dX8_innermostOf_10 : decode cX8_innermostOf 10 = .ok (.iconst 0, 1) := by decide +kernel
theorem dX8_innermostOf_11 : decode cX8_innermostOf 11 = .ok (.istore 5, 2) := by decide +kernel
theorem dX8_innermostOf_13 : decode cX8_innermostOf 13 = .ok (.iconst 0, 1) := by decide +kernel
theorem dX8_innermostOf_14 : decode cX8_innermostOf 14 = .ok (.istore 6, 2) := by decide +kernel
theorem dX8_innermostOf_16 : decode cX8_innermostOf 16 = .ok (.iload_n 1, 1) := by decide +kernel
theorem dX8_innermostOf_17 : decode cX8_innermostOf 17 = .ok (.istore 7, 2) := by decide +kernel
theorem dX8_innermostOf_19 : decode cX8_innermostOf 19 = .ok (.iload 7, 2) := by decide +kernel
theorem dX8_innermostOf_21 : decode cX8_innermostOf 21 = .ok (.iload_n 2, 1) := by decide +kernel
theorem dX8_innermostOf_22 : decode cX8_innermostOf 22 = .ok (.if_icmp .gt 72, 3) := by decide +kernel
theorem dX8_innermostOf_25 : decode cX8_innermostOf 25 = .ok (.iload 6, 2) := by decide +kernel
theorem dX8_innermostOf_27 : decode cX8_innermostOf 27 = .ok (.iload_n 3, 1) := by decide +kernel
theorem dX8_innermostOf_28 : decode cX8_innermostOf 28 = .ok (.if_icmp .ge 28, 3) := by decide +kernel
theorem dX8_innermostOf_31 : decode cX8_innermostOf 31 = .ok (.iload 6, 2) := by decide +kernel
theorem dX8_innermostOf_33 : decode cX8_innermostOf 33 = .ok (.aload_n 0, 1) := by decide +kernel
theorem dX8_innermostOf_34 : decode cX8_innermostOf 34 = .ok (.getfield 15, 3) := by decide +kernel
theorem dX8_innermostOf_37 : decode cX8_innermostOf 37 = .ok (.iload 7, 2) := by decide +kernel
theorem dX8_innermostOf_39 : decode cX8_innermostOf 39 = .ok (.iaload, 1) := by decide +kernel
theorem dX8_innermostOf_40 : decode cX8_innermostOf 40 = .ok (.iadd, 1) := by decide +kernel
theorem dX8_innermostOf_41 : decode cX8_innermostOf 41 = .ok (.iload_n 3, 1) := by decide +kernel
theorem dX8_innermostOf_42 : decode cX8_innermostOf 42 = .ok (.if_icmp .lt 14, 3) := by decide +kernel
theorem dX8_innermostOf_45 : decode cX8_innermostOf 45 = .ok (.iload 5, 2) := by decide +kernel
theorem dX8_innermostOf_47 : decode cX8_innermostOf 47 = .ok (.iload_n 3, 1) := by decide +kernel
theorem dX8_innermostOf_48 : decode cX8_innermostOf 48 = .ok (.iadd, 1) := by decide +kernel
theorem dX8_innermostOf_49 : decode cX8_innermostOf 49 = .ok (.iload 6, 2) := by decide +kernel
theorem dX8_innermostOf_51 : decode cX8_innermostOf 51 = .ok (.isub, 1) := by decide +kernel
theorem dX8_innermostOf_52 : decode cX8_innermostOf 52 = .ok (.iconst 1, 1) := by decide +kernel
theorem dX8_innermostOf_53 : decode cX8_innermostOf 53 = .ok (.isub, 1) := by decide +kernel
theorem dX8_innermostOf_54 : decode cX8_innermostOf 54 = .ok (.istore 4, 2) := by decide +kernel
theorem dX8_innermostOf_56 : decode cX8_innermostOf 56 = .ok (.iload 5, 2) := by decide +kernel
theorem dX8_innermostOf_58 : decode cX8_innermostOf 58 = .ok (.aload_n 0, 1) := by decide +kernel
theorem dX8_innermostOf_59 : decode cX8_innermostOf 59 = .ok (.getfield 15, 3) := by decide +kernel
theorem dX8_innermostOf_62 : decode cX8_innermostOf 62 = .ok (.iload 7, 2) := by decide +kernel
theorem dX8_innermostOf_64 : decode cX8_innermostOf 64 = .ok (.iaload, 1) := by decide +kernel
theorem dX8_innermostOf_65 : decode cX8_innermostOf 65 = .ok (.iadd, 1) := by decide +kernel
theorem dX8_innermostOf_66 : decode cX8_innermostOf 66 = .ok (.istore 5, 2) := by decide +kernel
theorem dX8_innermostOf_68 : decode cX8_innermostOf 68 = .ok (.iload 6, 2) := by decide +kernel
theorem dX8_innermostOf_70 : decode cX8_innermostOf 70 = .ok (.aload_n 0, 1) := by decide +kernel
theorem dX8_innermostOf_71 : decode cX8_innermostOf 71 = .ok (.getfield 15, 3) := by decide +kernel
theorem dX8_innermostOf_74 : decode cX8_innermostOf 74 = .ok (.iload 7, 2) := by decide +kernel
theorem dX8_innermostOf_76 : decode cX8_innermostOf 76 = .ok (.iaload, 1) := by decide +kernel
theorem dX8_innermostOf_77 : decode cX8_innermostOf 77 = .ok (.aload_n 0, 1) := by decide +kernel
theorem dX8_innermostOf_78 : decode cX8_innermostOf 78 = .ok (.getfield 19, 3) := by decide +kernel
theorem dX8_innermostOf_81 : decode cX8_innermostOf 81 = .ok (.iload 7, 2) := by decide +kernel
theorem dX8_innermostOf_83 : decode cX8_innermostOf 83 = .ok (.iaload, 1) := by decide +kernel
theorem dX8_innermostOf_84 : decode cX8_innermostOf 84 = .ok (.isub, 1) := by decide +kernel
theorem dX8_innermostOf_85 : decode cX8_innermostOf 85 = .ok (.iadd, 1) := by decide +kernel
theorem dX8_innermostOf_86 : decode cX8_innermostOf 86 = .ok (.istore 6, 2) := by decide +kernel
theorem dX8_innermostOf_88 : decode cX8_innermostOf 88 = .ok (.iinc 7 1, 3) := by decide +kernel
theorem dX8_innermostOf_91 : decode cX8_innermostOf 91 = .ok (.goto (-72), 3) := by decide +kernel
theorem dX8_innermostOf_94 : decode cX8_innermostOf 94 = .ok (.iload 4, 2) := by decide +kernel
theorem dX8_innermostOf_96 : decode cX8_innermostOf 96 = .ok (.ireturn, 1) := by decide +kernel
theorem dX2_followFrom_0 : decode cX2_followFrom 0 = .ok (.aload_n 0, 1) := by decide +kernel
theorem dX2_followFrom_1 : decode cX2_followFrom 1 = .ok (.iload_n 3, 1) := by decide +kernel
theorem dX2_followFrom_2 : decode cX2_followFrom 2 = .ok (.aload_n 0, 1) := by decide +kernel
theorem dX2_followFrom_3 : decode cX2_followFrom 3 = .ok (.getfield 25, 3) := by decide +kernel
theorem dX2_followFrom_6 : decode cX2_followFrom 6 = .ok (.if_icmp .le 7, 3) := by decide +kernel
theorem dX2_followFrom_9 : decode cX2_followFrom 9 = .ok (.iconst 1, 1) := by decide +kernel
theorem dX2_followFrom_10 : decode cX2_followFrom 10 = .ok (.goto 4, 3) := by decide +kernel
theorem dX2_followFrom_13 : decode cX2_followFrom 13 = .ok (.iconst 0, 1) := by decide +kernel
theorem dX2_followFrom_14 : decode cX2_followFrom 14 = .ok (.putfield 35, 3) := by decide +kernel
theorem dX2_followFrom_17 : decode cX2_followFrom 17 = .ok (.iload_n 3, 1) := by decide +kernel
theorem dX2_followFrom_18 : decode cX2_followFrom 18 = .ok (.aload_n 1, 1) := by decide +kernel
theorem dX2_followFrom_19 : decode cX2_followFrom 19 = .ok (.getfield 32, 3) := by decide +kernel
theorem dX2_followFrom_22 : decode cX2_followFrom 22 = .ok (.aload_n 0, 1) := by decide +kernel
theorem dX2_followFrom_23 : decode cX2_followFrom 23 = .ok (.getfield 22, 3) := by decide +kernel
theorem dX2_followFrom_26 : decode cX2_followFrom 26 = .ok (.iaload, 1) := by decide +kernel
theorem dX2_followFrom_27 : decode cX2_followFrom 27 = .ok (.isub, 1) := by decide +kernel
theorem dX2_followFrom_28 : decode cX2_followFrom 28 = .ok (.istore 4, 2) := by decide +kernel
theorem dX2_followFrom_30 : decode cX2_followFrom 30 = .ok (.aload_n 0, 1) := by decide +kernel
theorem dX2_followFrom_31 : decode cX2_followFrom 31 = .ok (.getfield 22, 3) := by decide +kernel
theorem dX2_followFrom_34 : decode cX2_followFrom 34 = .ok (.istore 5, 2) := by decide +kernel
theorem dX2_followFrom_36 : decode cX2_followFrom 36 = .ok (.iload 4, 2) := by decide +kernel
theorem dX2_followFrom_38 : decode cX2_followFrom 38 = .ok (.aload_n 0, 1) := by decide +kernel
theorem dX2_followFrom_39 : decode cX2_followFrom 39 = .ok (.getfield 25, 3) := by decide +kernel
theorem dX2_followFrom_42 : decode cX2_followFrom 42 = .ok (.if_icmp .lt 74, 3) := by decide +kernel
theorem dX2_followFrom_45 : decode cX2_followFrom 45 = .ok (.iload 5, 2) := by decide +kernel
theorem dX2_followFrom_47 : decode cX2_followFrom 47 = .ok (.iconst 1, 1) := by decide +kernel
theorem dX2_followFrom_48 : decode cX2_followFrom 48 = .ok (.iadd, 1) := by decide +kernel
theorem dX2_followFrom_49 : decode cX2_followFrom 49 = .ok (.aload_n 2, 1) := by decide +kernel
theorem dX2_followFrom_50 : decode cX2_followFrom 50 = .ok (.getfield 7, 3) := by decide +kernel
theorem dX2_followFrom_53 : decode cX2_followFrom 53 = .ok (.aload_n 2, 1) := by decide +kernel
theorem dX2_followFrom_54 : decode cX2_followFrom 54 = .ok (.getfield 13, 3) := by decide +kernel
theorem dX2_followFrom_57 : decode cX2_followFrom 57 = .ok (.iadd, 1) := by decide +kernel
theorem dX2_followFrom_58 : decode cX2_followFrom 58 = .ok (.if_icmp .ge 58, 3) := by decide +kernel
theorem dX2_followFrom_61 : decode cX2_followFrom 61 = .ok (.iinc 5 1, 3) := by decide +kernel
theorem dX2_followFrom_64 : decode cX2_followFrom 64 = .ok (.iload 4, 2) := by decide +kernel
theorem dX2_followFrom_66 : decode cX2_followFrom 66 = .ok (.aload_n 0, 1) := by decide +kernel
theorem dX2_followFrom_67 : decode cX2_followFrom 67 = .ok (.getfield 25, 3) := by decide +kernel
theorem dX2_followFrom_70 : decode cX2_followFrom 70 = .ok (.if_icmp .ne 23, 3) := by decide +kernel
theorem dX2_followFrom_73 : decode cX2_followFrom 73 = .ok (.aload_n 1, 1) := by decide +kernel
theorem dX2_followFrom_74 : decode cX2_followFrom 74 = .ok (.getfield 16, 3) := by decide +kernel
theorem dX2_followFrom_77 : decode cX2_followFrom 77 = .ok (.iload 5, 2) := by decide +kernel
theorem dX2_followFrom_79 : decode cX2_followFrom 79 = .ok (.iaload, 1) := by decide +kernel
theorem dX2_followFrom_80 : decode cX2_followFrom 80 = .ok (.ifCond .le 13, 3) := by decide +kernel
theorem dX2_followFrom_83 : decode cX2_followFrom 83 = .ok (.aload_n 0, 1) := by decide +kernel
theorem dX2_followFrom_84 : decode cX2_followFrom 84 = .ok (.dup, 1) := by decide +kernel
theorem dX2_followFrom_85 : decode cX2_followFrom 85 = .ok (.getfield 35, 3) := by decide +kernel
theorem dX2_followFrom_88 : decode cX2_followFrom 88 = .ok (.iconst 1, 1) := by decide +kernel
theorem dX2_followFrom_89 : decode cX2_followFrom 89 = .ok (.iadd, 1) := by decide +kernel
theorem dX2_followFrom_90 : decode cX2_followFrom 90 = .ok (.putfield 35, 3) := by decide +kernel
theorem dX2_followFrom_93 : decode cX2_followFrom 93 = .ok (.iload 4, 2) := by decide +kernel
theorem dX2_followFrom_95 : decode cX2_followFrom 95 = .ok (.aload_n 1, 1) := by decide +kernel
theorem dX2_followFrom_96 : decode cX2_followFrom 96 = .ok (.getfield 16, 3) := by decide +kernel
theorem dX2_followFrom_99 : decode cX2_followFrom 99 = .ok (.iload 5, 2) := by decide +kernel
theorem dX2_followFrom_101 : decode cX2_followFrom 101 = .ok (.iaload, 1) := by decide +kernel
theorem dX2_followFrom_102 : decode cX2_followFrom 102 = .ok (.aload_n 1, 1) := by decide +kernel
theorem dX2_followFrom_103 : decode cX2_followFrom 103 = .ok (.getfield 32, 3) := by decide +kernel
theorem dX2_followFrom_106 : decode cX2_followFrom 106 = .ok (.iload 5, 2) := by decide +kernel
theorem dX2_followFrom_108 : decode cX2_followFrom 108 = .ok (.iaload, 1) := by decide +kernel
theorem dX2_followFrom_109 : decode cX2_followFrom 109 = .ok (.isub, 1) := by decide +kernel
theorem dX2_followFrom_110 : decode cX2_followFrom 110 = .ok (.iadd, 1) := by decide +kernel
theorem dX2_followFrom_111 : decode cX2_followFrom 111 = .ok (.istore 4, 2) := by decide +kernel
theorem dX2_followFrom_113 : decode cX2_followFrom 113 = .ok (.goto (-77), 3) := by decide +kernel
theorem dX2_followFrom_116 : decode cX2_followFrom 116 = .ok (.aload_n 0, 1) := by decide +kernel
theorem dX2_followFrom_117 : decode cX2_followFrom 117 = .ok (.iload 5, 2) := by decide +kernel
theorem dX2_followFrom_119 : decode cX2_followFrom 119 = .ok (.aload_n 0, 1) := by decide +kernel
theorem dX2_followFrom_120 : decode cX2_followFrom 120 = .ok (.getfield 22, 3) := by decide +kernel
theorem dX2_followFrom_123 : decode cX2_followFrom 123 = .ok (.isub, 1) := by decide +kernel
theorem dX2_followFrom_124 : decode cX2_followFrom 124 = .ok (.iconst 1, 1) := by decide +kernel
theorem dX2_followFrom_125 : decode cX2_followFrom 125 = .ok (.iadd, 1) := by decide +kernel
theorem dX2_followFrom_126 : decode cX2_followFrom 126 = .ok (.putfield 38, 3) := by decide +kernel
theorem dX2_followFrom_129 : decode cX2_followFrom 129 = .ok (.return_, 1) := by decide +kernel
theorem dX2_seek_0 : decode cX2_seek 0 = .ok (.iconst 0, 1) := by decide +kernel
theorem dX2_seek_1 : decode cX2_seek 1 = .ok (.istore 4, 2) := by decide +kernel
theorem dX2_seek_3 : decode cX2_seek 3 = .ok (.iconst 0, 1) := by decide +kernel
theorem dX2_seek_4 : decode cX2_seek 4 = .ok (.istore 5, 2) := by decide +kernel
theorem dX2_seek_6 : decode cX2_seek 6 = .ok (.aload_n 2, 1) := by decide +kernel
theorem dX2_seek_7 : decode cX2_seek 7 = .ok (.getfield 7, 3) := by decide +kernel
theorem dX2_seek_10 : decode cX2_seek 10 = .ok (.istore 6, 2) := by decide +kernel
theorem dX2_seek_12 : decode cX2_seek 12 = .ok (.iload 6, 2) := by decide +kernel
theorem dX2_seek_14 : decode cX2_seek 14 = .ok (.aload_n 2, 1) := by decide +kernel
theorem dX2_seek_15 : decode cX2_seek 15 = .ok (.getfield 7, 3) := by decide +kernel
theorem dX2_seek_18 : decode cX2_seek 18 = .ok (.aload_n 2, 1) := by decide +kernel
theorem dX2_seek_19 : decode cX2_seek 19 = .ok (.getfield 13, 3) := by decide +kernel
theorem dX2_seek_22 : decode cX2_seek 22 = .ok (.iadd, 1) := by decide +kernel
theorem dX2_seek_23 : decode cX2_seek 23 = .ok (.if_icmp .ge 98, 3) := by decide +kernel
theorem dX2_seek_26 : decode cX2_seek 26 = .ok (.iload_n 3, 1) := by decide +kernel
theorem dX2_seek_27 : decode cX2_seek 27 = .ok (.iload 4, 2) := by decide +kernel
theorem dX2_seek_29 : decode cX2_seek 29 = .ok (.if_icmp .lt 54, 3) := by decide +kernel
theorem dX2_seek_32 : decode cX2_seek 32 = .ok (.iload_n 3, 1) := by decide +kernel
theorem dX2_seek_33 : decode cX2_seek 33 = .ok (.iload 4, 2) := by decide +kernel
theorem dX2_seek_35 : decode cX2_seek 35 = .ok (.aload_n 1, 1) := by decide +kernel
theorem dX2_seek_36 : decode cX2_seek 36 = .ok (.getfield 16, 3) := by decide +kernel
theorem dX2_seek_39 : decode cX2_seek 39 = .ok (.iload 6, 2) := by decide +kernel
theorem dX2_seek_41 : decode cX2_seek 41 = .ok (.iaload, 1) := by decide +kernel
theorem dX2_seek_42 : decode cX2_seek 42 = .ok (.iadd, 1) := by decide +kernel
theorem dX2_seek_43 : decode cX2_seek 43 = .ok (.if_icmp .ge 40, 3) := by decide +kernel
theorem dX2_seek_46 : decode cX2_seek 46 = .ok (.aload_n 0, 1) := by decide +kernel
theorem dX2_seek_47 : decode cX2_seek 47 = .ok (.iload 6, 2) := by decide +kernel
theorem dX2_seek_49 : decode cX2_seek 49 = .ok (.putfield 22, 3) := by decide +kernel
theorem dX2_seek_52 : decode cX2_seek 52 = .ok (.aload_n 0, 1) := by decide +kernel
theorem dX2_seek_53 : decode cX2_seek 53 = .ok (.iload 5, 2) := by decide +kernel
theorem dX2_seek_55 : decode cX2_seek 55 = .ok (.iload_n 3, 1) := by decide +kernel
theorem dX2_seek_56 : decode cX2_seek 56 = .ok (.iadd, 1) := by decide +kernel
theorem dX2_seek_57 : decode cX2_seek 57 = .ok (.iload 4, 2) := by decide +kernel
theorem dX2_seek_59 : decode cX2_seek 59 = .ok (.isub, 1) := by decide +kernel
theorem dX2_seek_60 : decode cX2_seek 60 = .ok (.iconst 1, 1) := by decide +kernel
theorem dX2_seek_61 : decode cX2_seek 61 = .ok (.iadd, 1) := by decide +kernel
theorem dX2_seek_62 : decode cX2_seek 62 = .ok (.putfield 25, 3) := by decide +kernel
theorem dX2_seek_65 : decode cX2_seek 65 = .ok (.aload_n 0, 1) := by decide +kernel
theorem dX2_seek_66 : decode cX2_seek 66 = .ok (.aload_n 1, 1) := by decide +kernel
theorem dX2_seek_67 : decode cX2_seek 67 = .ok (.aload_n 2, 1) := by decide +kernel
theorem dX2_seek_68 : decode cX2_seek 68 = .ok (.iload 5, 2) := by decide +kernel
theorem dX2_seek_70 : decode cX2_seek 70 = .ok (.aload_n 1, 1) := by decide +kernel
theorem dX2_seek_71 : decode cX2_seek 71 = .ok (.getfield 16, 3) := by decide +kernel
theorem dX2_seek_74 : decode cX2_seek 74 = .ok (.iload 6, 2) := by decide +kernel
theorem dX2_seek_76 : decode cX2_seek 76 = .ok (.iaload, 1) := by decide +kernel
theorem dX2_seek_77 : decode cX2_seek 77 = .ok (.iadd, 1) := by decide +kernel
theorem dX2_seek_78 : decode cX2_seek 78 = .ok (.invokevirtual 28, 3) := by decide +kernel
theorem dX2_seek_81 : decode cX2_seek 81 = .ok (.iconst 1, 1) := by decide +kernel
theorem dX2_seek_82 : decode cX2_seek 82 = .ok (.ireturn, 1) := by decide +kernel
theorem dX2_seek_83 : decode cX2_seek 83 = .ok (.iload 4, 2) := by decide +kernel
theorem dX2_seek_85 : decode cX2_seek 85 = .ok (.aload_n 1, 1) := by decide +kernel
theorem dX2_seek_86 : decode cX2_seek 86 = .ok (.getfield 16, 3) := by decide +kernel
theorem dX2_seek_89 : decode cX2_seek 89 = .ok (.iload 6, 2) := by decide +kernel
theorem dX2_seek_91 : decode cX2_seek 91 = .ok (.iaload, 1) := by decide +kernel
theorem dX2_seek_92 : decode cX2_seek 92 = .ok (.iadd, 1) := by decide +kernel
theorem dX2_seek_93 : decode cX2_seek 93 = .ok (.istore 4, 2) := by decide +kernel
theorem dX2_seek_95 : decode cX2_seek 95 = .ok (.iload 5, 2) := by decide +kernel
theorem dX2_seek_97 : decode cX2_seek 97 = .ok (.aload_n 1, 1) := by decide +kernel
theorem dX2_seek_98 : decode cX2_seek 98 = .ok (.getfield 16, 3) := by decide +kernel
theorem dX2_seek_101 : decode cX2_seek 101 = .ok (.iload 6, 2) := by decide +kernel
theorem dX2_seek_103 : decode cX2_seek 103 = .ok (.iaload, 1) := by decide +kernel
theorem dX2_seek_104 : decode cX2_seek 104 = .ok (.aload_n 1, 1) := by decide +kernel
theorem dX2_seek_105 : decode cX2_seek 105 = .ok (.getfield 32, 3) := by decide +kernel
theorem dX2_seek_108 : decode cX2_seek 108 = .ok (.iload 6, 2) := by decide +kernel
theorem dX2_seek_110 : decode cX2_seek 110 = .ok (.iaload, 1) := by decide +kernel
theorem dX2_seek_111 : decode cX2_seek 111 = .ok (.isub, 1) := by decide +kernel
theorem dX2_seek_112 : decode cX2_seek 112 = .ok (.iadd, 1) := by decide +kernel
theorem dX2_seek_113 : decode cX2_seek 113 = .ok (.istore 5, 2) := by decide +kernel
theorem dX2_seek_115 : decode cX2_seek 115 = .ok (.iinc 6 1, 3) := by decide +kernel
theorem dX2_seek_118 : decode cX2_seek 118 = .ok (.goto (-106), 3) := by decide +kernel
theorem dX2_seek_121 : decode cX2_seek 121 = .ok (.iconst 0, 1) := by decide +kernel
theorem dX2_seek_122 : decode cX2_seek 122 = .ok (.ireturn, 1) := by decide +kernel
theorem dX1_seekClauseAround_0 : decode cX1_seekClauseAround 0 = .ok (.aload_n 0, 1) := by decide +kernel
theorem dX1_seekClauseAround_1 : decode cX1_seekClauseAround 1 = .ok (.invokevirtual 87, 3) := by decide +kernel
theorem dX1_seekClauseAround_4 : decode cX1_seekClauseAround 4 = .ok (.astore_n 2, 1) := by decide +kernel
theorem dX1_seekClauseAround_5 : decode cX1_seekClauseAround 5 = .ok (.aload_n 2, 1) := by decide +kernel
theorem dX1_seekClauseAround_6 : decode cX1_seekClauseAround 6 = .ok (.ifnull 15, 3) := by decide +kernel
theorem dX1_seekClauseAround_9 : decode cX1_seekClauseAround 9 = .ok (.iload_n 1, 1) := by decide +kernel
theorem dX1_seekClauseAround_10 : decode cX1_seekClauseAround 10 = .ok (.ifCond .lt 11, 3) := by decide +kernel
theorem dX1_seekClauseAround_13 : decode cX1_seekClauseAround 13 = .ok (.iload_n 1, 1) := by decide +kernel
theorem dX1_seekClauseAround_14 : decode cX1_seekClauseAround 14 = .ok (.aload_n 2, 1) := by decide +kernel
theorem dX1_seekClauseAround_15 : decode cX1_seekClauseAround 15 = .ok (.getfield 91, 3) := by decide +kernel
theorem dX1_seekClauseAround_18 : decode cX1_seekClauseAround 18 = .ok (.if_icmp .lt 5, 3) := by decide +kernel
theorem dX1_seekClauseAround_21 : decode cX1_seekClauseAround 21 = .ok (.iconst 0, 1) := by decide +kernel
theorem dX1_seekClauseAround_22 : decode cX1_seekClauseAround 22 = .ok (.ireturn, 1) := by decide +kernel
theorem dX1_seekClauseAround_23 : decode cX1_seekClauseAround 23 = .ok (.aload_n 0, 1) := by decide +kernel
theorem dX1_seekClauseAround_24 : decode cX1_seekClauseAround 24 = .ok (.getfield 38, 3) := by decide +kernel
theorem dX1_seekClauseAround_27 : decode cX1_seekClauseAround 27 = .ok (.aload_n 0, 1) := by decide +kernel
theorem dX1_seekClauseAround_28 : decode cX1_seekClauseAround 28 = .ok (.getfield 24, 3) := by decide +kernel
theorem dX1_seekClauseAround_31 : decode cX1_seekClauseAround 31 = .ok (.aload_n 2, 1) := by decide +kernel
theorem dX1_seekClauseAround_32 : decode cX1_seekClauseAround 32 = .ok (.aload_n 0, 1) := by decide +kernel
theorem dX1_seekClauseAround_33 : decode cX1_seekClauseAround 33 = .ok (.getfield 24, 3) := by decide +kernel
theorem dX1_seekClauseAround_36 : decode cX1_seekClauseAround 36 = .ok (.aload_n 2, 1) := by decide +kernel
theorem dX1_seekClauseAround_37 : decode cX1_seekClauseAround 37 = .ok (.getfield 92, 3) := by decide +kernel
theorem dX1_seekClauseAround_40 : decode cX1_seekClauseAround 40 = .ok (.aload_n 2, 1) := by decide +kernel
theorem dX1_seekClauseAround_41 : decode cX1_seekClauseAround 41 = .ok (.getfield 92, 3) := by decide +kernel
theorem dX1_seekClauseAround_44 : decode cX1_seekClauseAround 44 = .ok (.iload_n 1, 1) := by decide +kernel
theorem dX1_seekClauseAround_45 : decode cX1_seekClauseAround 45 = .ok (.iadd, 1) := by decide +kernel
theorem dX1_seekClauseAround_46 : decode cX1_seekClauseAround 46 = .ok (.invokevirtual 109, 3) := by decide +kernel
theorem dX1_seekClauseAround_49 : decode cX1_seekClauseAround 49 = .ok (.invokevirtual 112, 3) := by decide +kernel
theorem dX1_seekClauseAround_52 : decode cX1_seekClauseAround 52 = .ok (.ireturn, 1) := by decide +kernel
theorem dX1_leavesOf_0 : decode cX1_leavesOf 0 = .ok (.aload_n 0, 1) := by decide +kernel
theorem dX1_leavesOf_1 : decode cX1_leavesOf 1 = .ok (.getfield 48, 3) := by decide +kernel
theorem dX1_leavesOf_4 : decode cX1_leavesOf 4 = .ok (.ifCond .le 19, 3) := by decide +kernel
theorem dX1_leavesOf_7 : decode cX1_leavesOf 7 = .ok (.iload_n 1, 1) := by decide +kernel
theorem dX1_leavesOf_8 : decode cX1_leavesOf 8 = .ok (.aload_n 0, 1) := by decide +kernel
theorem dX1_leavesOf_9 : decode cX1_leavesOf 9 = .ok (.getfield 48, 3) := by decide +kernel
theorem dX1_leavesOf_12 : decode cX1_leavesOf 12 = .ok (.iadd, 1) := by decide +kernel
theorem dX1_leavesOf_13 : decode cX1_leavesOf 13 = .ok (.iconst 1, 1) := by decide +kernel
theorem dX1_leavesOf_14 : decode cX1_leavesOf 14 = .ok (.isub, 1) := by decide +kernel
theorem dX1_leavesOf_15 : decode cX1_leavesOf 15 = .ok (.aload_n 0, 1) := by decide +kernel
theorem dX1_leavesOf_16 : decode cX1_leavesOf 16 = .ok (.getfield 48, 3) := by decide +kernel
theorem dX1_leavesOf_19 : decode cX1_leavesOf 19 = .ok (.idiv, 1) := by decide +kernel
theorem dX1_leavesOf_20 : decode cX1_leavesOf 20 = .ok (.goto 4, 3) := by decide +kernel
theorem dX1_leavesOf_23 : decode cX1_leavesOf 23 = .ok (.iconst 0, 1) := by decide +kernel
theorem dX1_leavesOf_24 : decode cX1_leavesOf 24 = .ok (.ireturn, 1) := by decide +kernel
theorem dX1_leafOf_0 : decode cX1_leafOf 0 = .ok (.aload_n 0, 1) := by decide +kernel
theorem dX1_leafOf_1 : decode cX1_leafOf 1 = .ok (.getfield 48, 3) := by decide +kernel
theorem dX1_leafOf_4 : decode cX1_leafOf 4 = .ok (.ifCond .le 12, 3) := by decide +kernel
theorem dX1_leafOf_7 : decode cX1_leafOf 7 = .ok (.iload_n 1, 1) := by decide +kernel
theorem dX1_leafOf_8 : decode cX1_leafOf 8 = .ok (.aload_n 0, 1) := by decide +kernel
theorem dX1_leafOf_9 : decode cX1_leafOf 9 = .ok (.getfield 48, 3) := by decide +kernel
theorem dX1_leafOf_12 : decode cX1_leafOf 12 = .ok (.idiv, 1) := by decide +kernel
theorem dX1_leafOf_13 : decode cX1_leafOf 13 = .ok (.goto 4, 3) := by decide +kernel
theorem dX1_leafOf_16 : decode cX1_leafOf 16 = .ok (.iconst 0, 1) := by decide +kernel
theorem dX1_leafOf_17 : decode cX1_leafOf 17 = .ok (.ireturn, 1) := by decide +kernel
theorem dX1_mostWords_0 : decode cX1_mostWords 0 = .ok (.bipush 12, 2) := by decide +kernel
theorem dX1_mostWords_2 : decode cX1_mostWords 2 = .ok (.aload_n 0, 1) := by decide +kernel
theorem dX1_mostWords_3 : decode cX1_mostWords 3 = .ok (.getfield 48, 3) := by decide +kernel
theorem dX1_mostWords_6 : decode cX1_mostWords 6 = .ok (.imul, 1) := by decide +kernel
theorem dX1_mostWords_7 : decode cX1_mostWords 7 = .ok (.sipush 240, 3) := by decide +kernel
theorem dX1_mostWords_10 : decode cX1_mostWords 10 = .ok (.invokestatic 116, 3) := by decide +kernel
theorem dX1_mostWords_13 : decode cX1_mostWords 13 = .ok (.ireturn, 1) := by decide +kernel
set_option maxRecDepth 100000 in
set_option maxHeartbeats 4000000 in
theorem cX0_initc {l : Launch} {v0 : Option Nat} {σ : HpT} {r : Unit} (h : fX0_init v0 σ = some r) : IsK σ v0 0 ∧ Ct l yX0_init cX0_init 1 none 1 21 [va_rf v0] σ (.ok none) σ 0 0 := by
  unfold fX0_init at h
  replace h := bnP_s h
  obtain ⟨u, hk, h⟩ := h
  replace hk := isK_s hk
  refine ⟨hk, ?_⟩
  refine ct_start mi_X0_init.1 rfl (al_le (al_1 (rf_cat _) al_n) (Nat.le_of_ble_eq_true rfl)) (ag_1 (rf_cat _) ag_n) (fun Δ Γ B hE hnm => ?_)
  refine g_aload_n B 0 dX0_init_0 rfl rfl ?_
  refine g_objInit9 B hk obj_RX0_1 (by decide) (Nat.le_of_ble_eq_true rfl) dX0_init_1 ?_
  replace h := Option.some.inj h
  subst h
  exact g_vret B hE (Nat.zero_le _) (Nat.zero_le _) dX0_init_4
set_option maxRecDepth 100000 in
set_option maxHeartbeats 4000000 in
theorem cX0_takec {l : Launch} {v0 : Option Nat} {v1 : Option Nat} {σ : HpT} {σ' : HpT} (h : fX0_take v0 v1 σ = some σ') : IsK σ v0 0 ∧ Ct l yX0_take cX0_take 2 none 0 0 [va_rf v0, va_rf v1] σ (.ok none) σ' 0 0 := by
  unfold fX0_take at h
  replace h := bnP_s h
  obtain ⟨u, hk, h⟩ := h
  replace hk := isK_s hk
  refine ⟨hk, ?_⟩
  refine ct_start mi_X0_take.1 rfl (al_le (al_1 (rf_cat _) (al_1 (rf_cat _) al_n)) (Nat.le_of_ble_eq_true rfl)) (ag_1 (rf_cat _) (ag_1 (rf_cat _) ag_n)) (fun Δ Γ B hE hnm => ?_)
  refine g_aload_n B 0 dX0_take_0 rfl rfl ?_
  refine g_aload_n B 1 dX0_take_1 rfl rfl ?_
  replace h := bnP_s h
  obtain ⟨x1, h2, h⟩ := h
  refine g_getI B fl_RX0_7 (by decide) dX0_take_2 h2 ?_
  replace h := bnP_s h
  obtain ⟨s5, h4, h⟩ := h
  refine g_putI B fl_RX0_7 (by decide) dX0_take_5 h4 ?_
  refine g_aload_n B 0 dX0_take_8 rfl rfl ?_
  refine g_aload_n B 1 dX0_take_9 rfl rfl ?_
  replace h := bnP_s h
  obtain ⟨x6, h7, h⟩ := h
  refine g_getI B fl_RX0_13 (by decide) dX0_take_10 h7 ?_
  replace h := bnP_s h
  obtain ⟨s10, h9, h⟩ := h
  refine g_putI B fl_RX0_13 (by decide) dX0_take_13 h9 ?_
  refine g_aload_n B 0 dX0_take_16 rfl rfl ?_
  refine g_aload_n B 1 dX0_take_17 rfl rfl ?_
  replace h := bnP_s h
  obtain ⟨x11, h12, h⟩ := h
  refine g_getI B fl_RX0_16 (by decide) dX0_take_18 h12 ?_
  replace h := bnP_s h
  obtain ⟨s15, h14, h⟩ := h
  refine g_putI B fl_RX0_16 (by decide) dX0_take_21 h14 ?_
  refine g_aload_n B 0 dX0_take_24 rfl rfl ?_
  refine g_aload_n B 1 dX0_take_25 rfl rfl ?_
  replace h := bnP_s h
  obtain ⟨x16, h17, h⟩ := h
  refine g_getI B fl_RX0_19 (by decide) dX0_take_26 h17 ?_
  replace h := bnP_s h
  obtain ⟨s20, h19, h⟩ := h
  refine g_putI B fl_RX0_19 (by decide) dX0_take_29 h19 ?_
  refine g_aload_n B 0 dX0_take_32 rfl rfl ?_
  refine g_aload_n B 1 dX0_take_33 rfl rfl ?_
  replace h := bnP_s h
  obtain ⟨x21, h22, h⟩ := h
  refine g_getI B fl_RX0_22 (by decide) dX0_take_34 h22 ?_
  replace h := bnP_s h
  obtain ⟨s25, h24, h⟩ := h
  refine g_putI B fl_RX0_22 (by decide) dX0_take_37 h24 ?_
  refine g_aload_n B 0 dX0_take_40 rfl rfl ?_
  refine g_aload_n B 1 dX0_take_41 rfl rfl ?_
  replace h := bnP_s h
  obtain ⟨x26, h27, h⟩ := h
  refine g_getI B fl_RX0_25 (by decide) dX0_take_42 h27 ?_
  replace h := bnP_s h
  obtain ⟨s30, h29, h⟩ := h
  refine g_putI B fl_RX0_25 (by decide) dX0_take_45 h29 ?_
  refine g_aload_n B 0 dX0_take_48 rfl rfl ?_
  refine g_aload_n B 1 dX0_take_49 rfl rfl ?_
  replace h := bnP_s h
  obtain ⟨x31, h32, h⟩ := h
  refine g_getI B fl_RX0_28 (by decide) dX0_take_50 h32 ?_
  replace h := bnP_s h
  obtain ⟨s35, h34, h⟩ := h
  refine g_putI B fl_RX0_28 (by decide) dX0_take_53 h34 ?_
  refine g_aload_n B 0 dX0_take_56 rfl rfl ?_
  refine g_aload_n B 1 dX0_take_57 rfl rfl ?_
  replace h := bnP_s h
  obtain ⟨x36, h37, h⟩ := h
  refine g_getI B fl_RX0_31 (by decide) dX0_take_58 h37 ?_
  replace h := bnP_s h
  obtain ⟨s40, h39, h⟩ := h
  refine g_putI B fl_RX0_31 (by decide) dX0_take_61 h39 ?_
  replace h := Option.some.inj h
  subst h
  exact g_vret B hE (Nat.zero_le _) (Nat.zero_le _) dX0_take_64
set_option maxRecDepth 100000 in
set_option maxHeartbeats 4000000 in
theorem cX0_startc {l : Launch} {v0 : Option Nat} {v1 : Int32} {v2 : Int32} {v3 : Int32} {v4 : Int32} {σ : HpT} {σ' : HpT} (h : fX0_start v0 v1 v2 v3 v4 σ = some σ') : IsK σ v0 0 ∧ Ct l yX0_start cX0_start 5 none 0 0 [va_rf v0, .int v1, .int v2, .int v3, .int v4] σ (.ok none) σ' 0 0 := by
  unfold fX0_start at h
  replace h := bnP_s h
  obtain ⟨u, hk, h⟩ := h
  replace hk := isK_s hk
  refine ⟨hk, ?_⟩
  refine ct_start mi_X0_start.1 rfl (al_le (al_1 (rf_cat _) (al_1 rfl (al_1 rfl (al_1 rfl (al_1 rfl al_n))))) (Nat.le_of_ble_eq_true rfl)) (ag_1 (rf_cat _) (ag_1 rfl (ag_1 rfl (ag_1 rfl (ag_1 rfl ag_n))))) (fun Δ Γ B hE hnm => ?_)
  refine g_aload_n B 0 dX0_start_0 rfl rfl ?_
  refine g_iload_n B 1 dX0_start_1 rfl rfl ?_
  replace h := bnP_s h
  obtain ⟨s3, h2, h⟩ := h
  refine g_putI B fl_RX0_7 (by decide) dX0_start_2 h2 ?_
  refine g_aload_n B 0 dX0_start_5 rfl rfl ?_
  refine g_iload_n B 2 dX0_start_6 rfl rfl ?_
  replace h := bnP_s h
  obtain ⟨s6, h5, h⟩ := h
  refine g_putI B fl_RX0_13 (by decide) dX0_start_7 h5 ?_
  refine g_aload_n B 0 dX0_start_10 rfl rfl ?_
  refine g_iconst (v := 0) B dX0_start_11 (by decide) ?_
  replace h := bnP_s h
  obtain ⟨s9, h8, h⟩ := h
  refine g_putI B fl_RX0_16 (by decide) dX0_start_12 h8 ?_
  refine g_aload_n B 0 dX0_start_15 rfl rfl ?_
  refine g_iconst (v := 0) B dX0_start_16 (by decide) ?_
  replace h := bnP_s h
  obtain ⟨s12, h11, h⟩ := h
  refine g_putI B fl_RX0_19 (by decide) dX0_start_17 h11 ?_
  refine g_aload_n B 0 dX0_start_20 rfl rfl ?_
  refine g_iconst (v := 0) B dX0_start_21 (by decide) ?_
  replace h := bnP_s h
  obtain ⟨s15, h14, h⟩ := h
  refine g_putI B fl_RX0_22 (by decide) dX0_start_22 h14 ?_
  refine g_aload_n B 0 dX0_start_25 rfl rfl ?_
  refine g_iload_n B 3 dX0_start_26 rfl rfl ?_
  replace h := bnP_s h
  obtain ⟨s18, h17, h⟩ := h
  refine g_putI B fl_RX0_25 (by decide) dX0_start_27 h17 ?_
  refine g_aload_n B 0 dX0_start_30 rfl rfl ?_
  refine g_iload B 4 dX0_start_31 rfl ?_
  replace h := bnP_s h
  obtain ⟨s21, h20, h⟩ := h
  refine g_putI B fl_RX0_28 (by decide) dX0_start_33 h20 ?_
  refine g_aload_n B 0 dX0_start_36 rfl rfl ?_
  refine g_iconst (v := 0) B dX0_start_37 (by decide) ?_
  replace h := bnP_s h
  obtain ⟨s24, h23, h⟩ := h
  refine g_putI B fl_RX0_31 (by decide) dX0_start_38 h23 ?_
  replace h := Option.some.inj h
  subst h
  exact g_vret B hE (Nat.zero_le _) (Nat.zero_le _) dX0_start_41
set_option maxRecDepth 100000 in
set_option maxHeartbeats 4000000 in
theorem cX0_baseFeec {l : Launch} {v0 : Option Nat} {σ : HpT} {r : Int32} (h : fX0_baseFee v0 σ = some r) : IsK σ v0 0 ∧ Ct l yX0_baseFee cX0_baseFee 1 (some .int) 0 0 [va_rf v0] σ (.ok (some (.int r))) σ 0 0 := by
  unfold fX0_baseFee at h
  replace h := bnP_s h
  obtain ⟨u, hk, h⟩ := h
  replace hk := isK_s hk
  refine ⟨hk, ?_⟩
  refine ct_start mi_X0_baseFee.1 rfl (al_le (al_1 (rf_cat _) al_n) (Nat.le_of_ble_eq_true rfl)) (ag_1 (rf_cat _) ag_n) (fun Δ Γ B hE hnm => ?_)
  refine g_aload_n B 0 dX0_baseFee_0 rfl rfl ?_
  replace h := bnP_s h
  obtain ⟨x1, h2, h⟩ := h
  refine g_getI B fl_RX0_13 (by decide) dX0_baseFee_1 h2 ?_
  by_cases n0 : x1 = 0
  · replace h := ifp n0 h
    rw [n0]
    refine g_lookup B (off := 28) 32 dX0_baseFee_4 (by decide) (by decide) (by decide) ?_
    refine g_iconst (v := 5) B dX0_baseFee_32 (by decide) ?_
    replace h := Option.some.inj h
    subst h
    exact g_iret B hE (Nat.zero_le _) (Nat.zero_le _) dX0_baseFee_33
  replace h := ifn n0 h
  by_cases n1 : x1 = 1
  · replace h := ifp n1 h
    rw [n1]
    refine g_lookup B (off := 30) 34 dX0_baseFee_4 (by decide) (by decide) (by decide) ?_
    refine g_iconst (v := 3) B dX0_baseFee_34 (by decide) ?_
    replace h := Option.some.inj h
    subst h
    exact g_iret B hE (Nat.zero_le _) (Nat.zero_le _) dX0_baseFee_35
  replace h := ifn n1 h
  have mn0 := tne n0 (k := 0) (by decide)
  have mn1 := tne n1 (k := 1) (by decide)
  refine g_lookup B (off := 32) 36 dX0_baseFee_4 (by decide) (lk_df2 mn0 mn1) (by decide) ?_
  refine g_iconst (v := 4) B dX0_baseFee_36 (by decide) ?_
  replace h := Option.some.inj h
  subst h
  exact g_iret B hE (Nat.zero_le _) (Nat.zero_le _) dX0_baseFee_37
set_option maxRecDepth 100000 in
set_option maxHeartbeats 4000000 in
theorem cX8_initc {l : Launch} {v0 : Option Nat} {σ : HpT} {o : Except Nat (Unit)} {σ' : HpT} {a b : Nat} (h : fX8_init v0 σ = some (o, σ', a, b)) : IsK σ v0 8 ∧ Ct l yX8_init cX8_init 1 none 1 21 [va_rf v0] σ (oU o) σ' a b := by
  unfold fX8_init at h
  replace h := bnP_s h
  obtain ⟨u, hk, h⟩ := h
  replace hk := isK_s hk
  refine ⟨hk, ?_⟩
  refine ct_start mi_X8_init.1 rfl (al_le (al_1 (rf_cat _) al_n) (Nat.le_of_ble_eq_true rfl)) (ag_1 (rf_cat _) ag_n) (fun Δ Γ B hE hnm => ?_)
  have hka : 0 + a = a := Nat.zero_add a
  have hkb : 0 + b = b := Nat.zero_add b
  have hla : a ≤ a := Nat.le_refl a
  have hlb : b ≤ b := Nat.le_refl b
  refine g_aload_n B 0 dX8_init_0 rfl rfl ?_
  refine g_objInit9 B hk obj_RX8_3 (by decide) (Nat.le_of_ble_eq_true rfl) dX8_init_1 ?_
  refine g_aload_n B 0 dX8_init_4 rfl rfl ?_
  refine g_sipush (v := 240) B dX8_init_5 (by decide) ?_
  replace h := bnA_s h
  rcases h with ⟨e9, h2, e8⟩ | ⟨x1, s3, a4, b5, a6, b7, h2, h, ea, eb⟩
  · exact absurd h2 (by simp [nwA, nwR]; try (split <;> simp))
  · subst ea; subst eb
    have hka := bk hka
    have hkb := bk hkb
    refine g_newarr B (Or.inr (Or.inl ⟨rfl, rfl⟩)) na_long dX8_init_8 h2 (Nat.le_trans (bm hka) hla) (Nat.le_trans (bm hkb) hlb) ?_
    replace h := bnP_s h
    obtain ⟨s10, h9, h⟩ := h
    refine g_putRF B fl_RX8_11 (by decide) (Or.inr ⟨_, rfl⟩) hnm dX8_init_10 h9 ?_
    refine g_aload_n B 0 dX8_init_13 rfl rfl ?_
    refine g_sipush (v := 240) B dX8_init_14 (by decide) ?_
    replace h := bnA_s h
    rcases h with ⟨e9, h12, e8⟩ | ⟨x11, s13, a14, b15, a16, b17, h12, h, ea, eb⟩
    · exact absurd h12 (by simp [nwA, nwR]; try (split <;> simp))
    · subst ea; subst eb
      have hka := bk hka
      have hkb := bk hkb
      refine g_newarr B (Or.inl ⟨rfl, rfl⟩) na_int dX8_init_17 h12 (Nat.le_trans (bm hka) hla) (Nat.le_trans (bm hkb) hlb) ?_
      replace h := bnP_s h
      obtain ⟨s20, h19, h⟩ := h
      refine g_putRF B fl_RX8_15 (by decide) (Or.inr ⟨_, rfl⟩) hnm dX8_init_19 h19 ?_
      refine g_aload_n B 0 dX8_init_22 rfl rfl ?_
      refine g_sipush (v := 240) B dX8_init_23 (by decide) ?_
      replace h := bnA_s h
      rcases h with ⟨e9, h22, e8⟩ | ⟨x21, s23, a24, b25, a26, b27, h22, h, ea, eb⟩
      · exact absurd h22 (by simp [nwA, nwR]; try (split <;> simp))
      · subst ea; subst eb
        have hka := bk hka
        have hkb := bk hkb
        refine g_newarr B (Or.inl ⟨rfl, rfl⟩) na_int dX8_init_26 h22 (Nat.le_trans (bm hka) hla) (Nat.le_trans (bm hkb) hlb) ?_
        replace h := bnP_s h
        obtain ⟨s30, h29, h⟩ := h
        refine g_putRF B fl_RX8_19 (by decide) (Or.inr ⟨_, rfl⟩) hnm dX8_init_28 h29 ?_
        refine g_aload_n B 0 dX8_init_31 rfl rfl ?_
        refine g_sipush (v := 240) B dX8_init_32 (by decide) ?_
        replace h := bnA_s h
        rcases h with ⟨e9, h32, e8⟩ | ⟨x31, s33, a34, b35, a36, b37, h32, h, ea, eb⟩
        · exact absurd h32 (by simp [nwA, nwR]; try (split <;> simp))
        · subst ea; subst eb
          have hka := bk hka
          have hkb := bk hkb
          refine g_newarr B (Or.inr (Or.inr (Or.inr ⟨rfl, rfl⟩))) na_boolean dX8_init_35 h32 (Nat.le_trans (bm hka) hla) (Nat.le_trans (bm hkb) hlb) ?_
          replace h := bnP_s h
          obtain ⟨s40, h39, h⟩ := h
          refine g_putRF B fl_RX8_22 (by decide) (Or.inr ⟨_, rfl⟩) hnm dX8_init_37 h39 ?_
          refine g_aload_n B 0 dX8_init_40 rfl rfl ?_
          refine g_sipush (v := 240) B dX8_init_41 (by decide) ?_
          replace h := bnA_s h
          rcases h with ⟨e9, h42, e8⟩ | ⟨x41, s43, a44, b45, a46, b47, h42, h, ea, eb⟩
          · exact absurd h42 (by simp [nwA, nwR]; try (split <;> simp))
          · subst ea; subst eb
            have hka := bk hka
            have hkb := bk hkb
            refine g_newarr B (Or.inl ⟨rfl, rfl⟩) na_int dX8_init_44 h42 (Nat.le_trans (bm hka) hla) (Nat.le_trans (bm hkb) hlb) ?_
            replace h := bnP_s h
            obtain ⟨s50, h49, h⟩ := h
            refine g_putRF B fl_RX8_26 (by decide) (Or.inr ⟨_, rfl⟩) hnm dX8_init_46 h49 ?_
            refine g_aload_n B 0 dX8_init_49 rfl rfl ?_
            refine g_sipush (v := 960) B dX8_init_50 (by decide) ?_
            replace h := bnA_s h
            rcases h with ⟨e9, h52, e8⟩ | ⟨x51, s53, a54, b55, a56, b57, h52, h, ea, eb⟩
            · exact absurd h52 (by simp [nwA, nwR]; try (split <;> simp))
            · subst ea; subst eb
              have hka := bk hka
              have hkb := bk hkb
              refine g_newarr B (Or.inr (Or.inl ⟨rfl, rfl⟩)) na_long dX8_init_53 h52 (Nat.le_trans (bm hka) hla) (Nat.le_trans (bm hkb) hlb) ?_
              replace h := bnP_s h
              obtain ⟨s60, h59, h⟩ := h
              refine g_putRF B fl_RX8_29 (by decide) (Or.inr ⟨_, rfl⟩) hnm dX8_init_55 h59 ?_
              obtain ⟨w1, w2, w3, w4⟩ := inA h
              clear h
              subst w1
              subst w2
              subst w3
              subst w4
              exact g_vret B hE (Nat.le_trans (Nat.le_of_eq hka) hla) (Nat.le_trans (Nat.le_of_eq hkb) hlb) dX8_init_58
set_option maxRecDepth 100000 in
set_option maxHeartbeats 4000000 in
theorem cX4_initc {l : Launch} {v0 : Option Nat} {σ : HpT} {o : Except Nat (Unit)} {σ' : HpT} {a b : Nat} (h : fX4_init v0 σ = some (o, σ', a, b)) : IsK σ v0 4 ∧ Ct l yX4_init cX4_init 1 none 1 21 [va_rf v0] σ (oU o) σ' a b := by
  unfold fX4_init at h
  replace h := bnP_s h
  obtain ⟨u, hk, h⟩ := h
  replace hk := isK_s hk
  refine ⟨hk, ?_⟩
  refine ct_start mi_X4_init.1 rfl (al_le (al_1 (rf_cat _) al_n) (Nat.le_of_ble_eq_true rfl)) (ag_1 (rf_cat _) ag_n) (fun Δ Γ B hE hnm => ?_)
  have hka : 0 + a = a := Nat.zero_add a
  have hkb : 0 + b = b := Nat.zero_add b
  have hla : a ≤ a := Nat.le_refl a
  have hlb : b ≤ b := Nat.le_refl b
  refine g_aload_n B 0 dX4_init_0 rfl rfl ?_
  refine g_objInit9 B hk obj_RX4_3 (by decide) (Nat.le_of_ble_eq_true rfl) dX4_init_1 ?_
  refine g_aload_n B 0 dX4_init_4 rfl rfl ?_
  refine g_bipush (v := 12) B dX4_init_5 (by decide) ?_
  replace h := bnA_s h
  rcases h with ⟨e9, h2, e8⟩ | ⟨x1, s3, a4, b5, a6, b7, h2, h, ea, eb⟩
  · exact absurd h2 (by simp [nwA, nwR]; try (split <;> simp))
  · subst ea; subst eb
    have hka := bk hka
    have hkb := bk hkb
    refine g_newarr B (Or.inl ⟨rfl, rfl⟩) na_int dX4_init_7 h2 (Nat.le_trans (bm hka) hla) (Nat.le_trans (bm hkb) hlb) ?_
    replace h := bnP_s h
    obtain ⟨s10, h9, h⟩ := h
    refine g_putRF B fl_RX4_11 (by decide) (Or.inr ⟨_, rfl⟩) hnm dX4_init_9 h9 ?_
    refine g_aload_n B 0 dX4_init_12 rfl rfl ?_
    refine g_bipush (v := 12) B dX4_init_13 (by decide) ?_
    replace h := bnA_s h
    rcases h with ⟨e9, h12, e8⟩ | ⟨x11, s13, a14, b15, a16, b17, h12, h, ea, eb⟩
    · exact absurd h12 (by simp [nwA, nwR]; try (split <;> simp))
    · subst ea; subst eb
      have hka := bk hka
      have hkb := bk hkb
      refine g_newarr B (Or.inr (Or.inr (Or.inr ⟨rfl, rfl⟩))) na_boolean dX4_init_15 h12 (Nat.le_trans (bm hka) hla) (Nat.le_trans (bm hkb) hlb) ?_
      replace h := bnP_s h
      obtain ⟨s20, h19, h⟩ := h
      refine g_putRF B fl_RX4_15 (by decide) (Or.inr ⟨_, rfl⟩) hnm dX4_init_17 h19 ?_
      obtain ⟨w1, w2, w3, w4⟩ := inA h
      clear h
      subst w1
      subst w2
      subst w3
      subst w4
      exact g_vret B hE (Nat.le_trans (Nat.le_of_eq hka) hla) (Nat.le_trans (Nat.le_of_eq hkb) hlb) dX4_init_20
set_option maxRecDepth 100000 in
set_option maxHeartbeats 4000000 in
theorem cX2_initc {l : Launch} {v0 : Option Nat} {σ : HpT} {r : Unit} (h : fX2_init v0 σ = some r) : IsK σ v0 2 ∧ Ct l yX2_init cX2_init 1 none 1 21 [va_rf v0] σ (.ok none) σ 0 0 := by
  unfold fX2_init at h
  replace h := bnP_s h
  obtain ⟨u, hk, h⟩ := h
  replace hk := isK_s hk
  refine ⟨hk, ?_⟩
  refine ct_start mi_X2_init.1 rfl (al_le (al_1 (rf_cat _) al_n) (Nat.le_of_ble_eq_true rfl)) (ag_1 (rf_cat _) ag_n) (fun Δ Γ B hE hnm => ?_)
  refine g_aload_n B 0 dX2_init_0 rfl rfl ?_
  refine g_objInit9 B hk obj_RX2_1 (by decide) (Nat.le_of_ble_eq_true rfl) dX2_init_1 ?_
  replace h := Option.some.inj h
  subst h
  exact g_vret B hE (Nat.zero_le _) (Nat.zero_le _) dX2_init_4
set_option maxRecDepth 100000 in
set_option maxHeartbeats 4000000 in
theorem cX3_initc {l : Launch} {v0 : Option Nat} {σ : HpT} {r : Unit} (h : fX3_init v0 σ = some r) : IsK σ v0 3 ∧ Ct l yX3_init cX3_init 1 none 1 21 [va_rf v0] σ (.ok none) σ 0 0 := by
  unfold fX3_init at h
  replace h := bnP_s h
  obtain ⟨u, hk, h⟩ := h
  replace hk := isK_s hk
  refine ⟨hk, ?_⟩
  refine ct_start mi_X3_init.1 rfl (al_le (al_1 (rf_cat _) al_n) (Nat.le_of_ble_eq_true rfl)) (ag_1 (rf_cat _) ag_n) (fun Δ Γ B hE hnm => ?_)
  refine g_aload_n B 0 dX3_init_0 rfl rfl ?_
  refine g_objInit9 B hk obj_RX3_3 (by decide) (Nat.le_of_ble_eq_true rfl) dX3_init_1 ?_
  replace h := Option.some.inj h
  subst h
  exact g_vret B hE (Nat.zero_le _) (Nat.zero_le _) dX3_init_4
set_option maxRecDepth 100000 in
set_option maxHeartbeats 4000000 in
theorem cX1_initc {l : Launch} {v0 : Option Nat} {σ : HpT} {o : Except Nat (Unit)} {σ' : HpT} {a b : Nat} (h : fX1_init v0 σ = some (o, σ', a, b)) : IsK σ v0 1 ∧ Ct l yX1_init cX1_init 2 none 2 41 [va_rf v0] σ (oU o) σ' a b := by
  unfold fX1_init at h
  replace h := bnP_s h
  obtain ⟨u, hk, h⟩ := h
  replace hk := isK_s hk
  refine ⟨hk, ?_⟩
  refine ct_start mi_X1_init.1 rfl (al_le (al_1 (rf_cat _) al_n) (Nat.le_of_ble_eq_true rfl)) (ag_1 (rf_cat _) ag_n) (fun Δ Γ B hE hnm => ?_)
  have hka : 0 + a = a := Nat.zero_add a
  have hkb : 0 + b = b := Nat.zero_add b
  have hla : a ≤ a := Nat.le_refl a
  have hlb : b ≤ b := Nat.le_refl b
  refine g_aload_n B 0 dX1_init_0 rfl rfl ?_
  refine g_objInit9 B hk obj_RX1_1 (by decide) (Nat.le_of_ble_eq_true rfl) dX1_init_1 ?_
  refine g_aload_n B 0 dX1_init_4 rfl rfl ?_
  refine g_bipush (v := 10) B dX1_init_5 (by decide) ?_
  replace h := bnA_s h
  rcases h with ⟨e9, h2, e8⟩ | ⟨x1, s3, a4, b5, a6, b7, h2, h, ea, eb⟩
  · exact absurd h2 (by simp [nwA, nwR]; try (split <;> simp))
  · subst ea; subst eb
    have hka := bk hka
    have hkb := bk hkb
    refine g_anew B (κ := 25) (by decide) an_RX1_9.1 an_RX1_9.2 (fun _ => rfl) (by decide +kernel : _ = "[LNotaryBook$Act;") dX1_init_7 h2 (Nat.le_trans (bm hka) hla) (Nat.le_trans (bm hkb) hlb) ?_
    replace h := bnP_s h
    obtain ⟨s10, h9, h⟩ := h
    refine g_putRF B fl_RX1_11 (by decide) (Or.inr ⟨_, rfl⟩) hnm dX1_init_10 h9 ?_
    refine g_aload_n B 0 dX1_init_13 rfl rfl ?_
    refine g_bipush (v := 8) B dX1_init_14 (by decide) ?_
    replace h := bnA_s h
    rcases h with ⟨e9, h12, e8⟩ | ⟨x11, s13, a14, b15, a16, b17, h12, h, ea, eb⟩
    · exact absurd h12 (by simp [nwA, nwR]; try (split <;> simp))
    · subst ea; subst eb
      have hka := bk hka
      have hkb := bk hkb
      refine g_anew B (κ := 26) (by decide) an_RX1_15.1 an_RX1_15.2 (fun _ => rfl) (by decide +kernel : _ = "[LNotaryBook$Copy;") dX1_init_16 h12 (Nat.le_trans (bm hka) hla) (Nat.le_trans (bm hkb) hlb) ?_
      replace h := bnP_s h
      obtain ⟨s20, h19, h⟩ := h
      refine g_putRF B fl_RX1_17 (by decide) (Or.inr ⟨_, rfl⟩) hnm dX1_init_19 h19 ?_
      refine g_aload_n B 0 dX1_init_22 rfl rfl ?_
      replace h := bnA_s h
      rcases h with ⟨e9, h22, e8⟩ | ⟨x21, s23, a24, b25, a26, b27, h22, h, ea, eb⟩
      · exact absurd h22 (by simp [nwA, nwR]; try (split <;> simp))
      · subst ea; subst eb
        have hka := bk hka
        have hkb := bk hkb
        refine g_new B nw_RX1_21 dX1_init_23 h22 (Nat.le_trans (bm hka) hla) (Nat.le_trans (bm hkb) hlb) ?_
        refine g_dup B dX1_init_26 (rf_cat _) ?_
        replace h := bnA_s h
        rcases h with ⟨e9, h29, e8⟩ | ⟨x28, s30, a31, b32, a33, b34, h29, h, ea, eb⟩
        · subst e8
          exact g_callNIx (st := [va_rf x21, va_rf v0]) B (cX8_initc (o := .error e9) h29) mi_X8_init lk_RX1_23 ⟨Nat.le_of_ble_eq_true rfl, Nat.le_of_ble_eq_true rfl⟩ rfl rfl (Nat.le_of_ble_eq_true rfl) dX1_init_27 (Nat.le_trans (Nat.le_of_eq hka) hla) (Nat.le_trans (Nat.le_of_eq hkb) hlb) hE
        · subst ea; subst eb
          have hka := bk hka
          have hkb := bk hkb
          refine g_callNIvA (st := [va_rf x21, va_rf v0]) B (cX8_initc (o := .ok x28) h29) mi_X8_init lk_RX1_23 ⟨Nat.le_of_ble_eq_true rfl, Nat.le_of_ble_eq_true rfl⟩ rfl rfl (Nat.le_of_ble_eq_true rfl) dX1_init_27 (Nat.le_trans (bm hka) hla) (Nat.le_trans (bm hkb) hlb) ?_
          replace h := bnP_s h
          obtain ⟨s37, h36, h⟩ := h
          refine g_putRF B fl_RX1_24 (by decide) (Or.inl ⟨_, rfl⟩) hnm dX1_init_30 h36 ?_
          refine g_aload_n B 0 dX1_init_33 rfl rfl ?_
          replace h := bnA_s h
          rcases h with ⟨e9, h39, e8⟩ | ⟨x38, s40, a41, b42, a43, b44, h39, h, ea, eb⟩
          · exact absurd h39 (by simp [nwA, nwR]; try (split <;> simp))
          · subst ea; subst eb
            have hka := bk hka
            have hkb := bk hkb
            refine g_new B nw_RX1_28 dX1_init_34 h39 (Nat.le_trans (bm hka) hla) (Nat.le_trans (bm hkb) hlb) ?_
            refine g_dup B dX1_init_37 (rf_cat _) ?_
            replace h := bnA_s h
            rcases h with ⟨e9, h46, e8⟩ | ⟨x45, s47, a48, b49, a50, b51, h46, h, ea, eb⟩
            · subst e8
              exact g_callNIx (st := [va_rf x38, va_rf v0]) B (cX4_initc (o := .error e9) h46) mi_X4_init lk_RX1_30 ⟨Nat.le_of_ble_eq_true rfl, Nat.le_of_ble_eq_true rfl⟩ rfl rfl (Nat.le_of_ble_eq_true rfl) dX1_init_38 (Nat.le_trans (Nat.le_of_eq hka) hla) (Nat.le_trans (Nat.le_of_eq hkb) hlb) hE
            · subst ea; subst eb
              have hka := bk hka
              have hkb := bk hkb
              refine g_callNIvA (st := [va_rf x38, va_rf v0]) B (cX4_initc (o := .ok x45) h46) mi_X4_init lk_RX1_30 ⟨Nat.le_of_ble_eq_true rfl, Nat.le_of_ble_eq_true rfl⟩ rfl rfl (Nat.le_of_ble_eq_true rfl) dX1_init_38 (Nat.le_trans (bm hka) hla) (Nat.le_trans (bm hkb) hlb) ?_
              replace h := bnP_s h
              obtain ⟨s54, h53, h⟩ := h
              refine g_putRF B fl_RX1_31 (by decide) (Or.inl ⟨_, rfl⟩) hnm dX1_init_41 h53 ?_
              refine g_aload_n B 0 dX1_init_44 rfl rfl ?_
              replace h := bnA_s h
              rcases h with ⟨e9, h56, e8⟩ | ⟨x55, s57, a58, b59, a60, b61, h56, h, ea, eb⟩
              · exact absurd h56 (by simp [nwA, nwR]; try (split <;> simp))
              · subst ea; subst eb
                have hka := bk hka
                have hkb := bk hkb
                refine g_new B nw_RX1_35 dX1_init_45 h56 (Nat.le_trans (bm hka) hla) (Nat.le_trans (bm hkb) hlb) ?_
                refine g_dup B dX1_init_48 (rf_cat _) ?_
                replace h := bnP_s h
                obtain ⟨x62, h63, h⟩ := h
                refine g_callNIv0 (st := [va_rf x55, va_rf v0]) B (cX2_initc h63) mi_X2_init lk_RX1_37 ⟨Nat.le_of_ble_eq_true rfl, Nat.le_of_ble_eq_true rfl⟩ rfl rfl (Nat.le_of_ble_eq_true rfl) dX1_init_49 (Nat.le_trans (bm hka) hla) (Nat.le_trans (bm hkb) hlb) ?_
                replace h := bnP_s h
                obtain ⟨s66, h65, h⟩ := h
                refine g_putRF B fl_RX1_38 (by decide) (Or.inl ⟨_, rfl⟩) hnm dX1_init_52 h65 ?_
                refine g_aload_n B 0 dX1_init_55 rfl rfl ?_
                replace h := bnA_s h
                rcases h with ⟨e9, h68, e8⟩ | ⟨x67, s69, a70, b71, a72, b73, h68, h, ea, eb⟩
                · exact absurd h68 (by simp [nwA, nwR]; try (split <;> simp))
                · subst ea; subst eb
                  have hka := bk hka
                  have hkb := bk hkb
                  refine g_new B nw_RX1_15 dX1_init_56 h68 (Nat.le_trans (bm hka) hla) (Nat.le_trans (bm hkb) hlb) ?_
                  refine g_dup B dX1_init_59 (rf_cat _) ?_
                  replace h := bnP_s h
                  obtain ⟨x74, h75, h⟩ := h
                  refine g_callNIv0 (st := [va_rf x67, va_rf v0]) B (cX3_initc h75) mi_X3_init lk_RX1_42 ⟨Nat.le_of_ble_eq_true rfl, Nat.le_of_ble_eq_true rfl⟩ rfl rfl (Nat.le_of_ble_eq_true rfl) dX1_init_60 (Nat.le_trans (bm hka) hla) (Nat.le_trans (bm hkb) hlb) ?_
                  replace h := bnP_s h
                  obtain ⟨s78, h77, h⟩ := h
                  refine g_putRF B fl_RX1_43 (by decide) (Or.inl ⟨_, rfl⟩) hnm dX1_init_63 h77 ?_
                  refine g_iconst (v := 0) B dX1_init_66 (by decide) ?_
                  refine g_istore_n B dX1_init_67 rfl (Nat.le_of_ble_eq_true rfl) (s1_c (f1_1 rfl (rf_cat _) f1_n)) ?_
                  replace h := bnA_o h
                  obtain ⟨z142, s105, a106, b107, h81, er87o, h, la, lb⟩ := h
                  have kE82 : ∀ r80, z142 = .ok r80 → GW Δ Γ (0 + a4 + a14 + a24 + a31 + a41 + a48 + a58 + a70 + a106) (0 + b5 + b15 + b25 + b32 + b42 + b49 + b59 + b71 + b107) 93 [(0, va_rf v0)] [] s105 := by
                    intro r80 ej
                    replace h := h _ ej
                    obtain ⟨a108, b109, h, ea, eb⟩ := h
                    subst ea; subst eb
                    have hka := bk hka
                    have hkb := bk hkb
                    refine g_iconst (v := 0) B dX1_init_93 (by decide) ?_
                    refine g_istore_n B dX1_init_94 rfl (Nat.le_of_ble_eq_true rfl) (s1_c (f1_1 rfl (rf_cat _) f1_n)) ?_
                    replace h := bnA_o h
                    obtain ⟨z141, s136, a137, b138, h112, er118o, h, la, lb⟩ := h
                    have kE113 : ∀ r111, z141 = .ok r111 → GW Δ Γ (0 + a4 + a14 + a24 + a31 + a41 + a48 + a58 + a70 + a106 + a137) (0 + b5 + b15 + b25 + b32 + b42 + b49 + b59 + b71 + b107 + b138) 120 [] [] s136 := by
                      intro r111 ej
                      replace h := h _ ej
                      obtain ⟨a139, b140, h, ea, eb⟩ := h
                      subst ea; subst eb
                      have hka := bk hka
                      have hkb := bk hkb
                      obtain ⟨w1, w2, w3, w4⟩ := inA h
                      clear h
                      subst w1
                      subst w2
                      subst w3
                      subst w4
                      exact g_vret B hE (Nat.le_trans (Nat.le_of_eq hka) hla) (Nat.le_trans (Nat.le_of_eq hkb) hlb) dX1_init_120
                    clear h
                    refine g_sub [1, 0] rfl ?_
                    have hla9 := Nat.le_trans (bj hka la) hla
                    have hlb9 := Nat.le_trans (bj hkb lb) hlb
                    refine lpA_w (I := fun q110 s119 ka120 kb121 => GW Δ Γ (ka120) (kb121) 95 [(0, va_rf v0), (1, .int q110)] [] s119) (r := z141) (σr := s136) (A := 0 + a4 + a14 + a24 + a31 + a41 + a48 + a58 + a70 + a106 + a137) (B := 0 + b5 + b15 + b25 + b32 + b42 + b49 + b59 + b71 + b107 + b138) ?_ FUEL 0 s105 _ _ _ _ h112 rfl rfl
                    intro q110 s119 ka120 kb121 x117 s9 i9 j9 h hI115 hle9 hR116 er118i
                    unfold fX1_init_l2 at h
                    have hka : ka120 + i9 = _ := rfl
                    have hkb : kb121 + j9 = _ := rfl
                    have hlab : ka120 + i9 ≤ 0 + a4 + a14 + a24 + a31 + a41 + a48 + a58 + a70 + a106 + a137 ∧ kb121 + j9 ≤ 0 + b5 + b15 + b25 + b32 + b42 + b49 + b59 + b71 + b107 + b138 := by
                      rcases x117 with e | (x | x)
                      · obtain ⟨-, -, e1, e2⟩ := er118i e rfl; exact ⟨Nat.le_of_eq e1, Nat.le_of_eq e2⟩
                      · exact hle9 x rfl
                      · obtain ⟨-, -, e1, e2⟩ := hR116 x rfl; exact ⟨Nat.le_of_eq e1, Nat.le_of_eq e2⟩
                    have hla := Nat.le_trans hlab.1 hla9
                    have hlb := Nat.le_trans hlab.2 hlb9
                    have er118n : ∀ e, x117 = .error e → z141 = .error e ∧ s9 = s136 ∧ ka120 + i9 = 0 + a4 + a14 + a24 + a31 + a41 + a48 + a58 + a70 + a106 + a137 ∧ kb121 + j9 = 0 + b5 + b15 + b25 + b32 + b42 + b49 + b59 + b71 + b107 + b138 := fun e q => (fun r9 => ⟨r9.1, r9.2.1.symm, r9.2.2.1, r9.2.2.2⟩) (er118i e q)
                    refine g_iload_n B 1 dX1_init_95 rfl rfl ?_
                    refine g_bipush (v := 8) B dX1_init_96 (by decide) ?_
                    refine g_icmp_ge B 120 dX1_init_98 (by decide) (fun hc => ?_) (fun hc => ?_)
                    · replace h := ifp hc h
                      obtain ⟨w1, w2, w3, w4⟩ := inA h
                      clear h
                      subst w1
                      subst w2
                      subst w3
                      subst w4
                      obtain ⟨e8, e7, e6, e5⟩ := hR116 _ rfl
                      subst e8
                      subst e7
                      refine g_cost (by omega) (by omega) ?_
                      exact g_sub [] rfl (kE113 _ rfl)
                    · replace h := ifn hc h
                      refine g_aload_n B 0 dX1_init_101 rfl rfl ?_
                      replace h := bnP_s h
                      obtain ⟨x122, h123, h⟩ := h
                      refine g_getR B fl_RX1_17 (by decide) dX1_init_102 h123 ?_
                      refine g_iload_n B 1 dX1_init_105 rfl rfl ?_
                      replace h := bnA_s h
                      rcases h with ⟨e9, h125, e8⟩ | ⟨x124, s126, a127, b128, a129, b130, h125, h, ea, eb⟩
                      · exact absurd h125 (by simp [nwA, nwR]; try (split <;> simp))
                      · subst ea; subst eb
                        have hka := bk hka
                        have hkb := bk hkb
                        refine g_new B nw_RX1_15 dX1_init_106 h125 (Nat.le_trans (bm hka) hla) (Nat.le_trans (bm hkb) hlb) ?_
                        refine g_dup B dX1_init_109 (rf_cat _) ?_
                        replace h := bnP_s h
                        obtain ⟨x131, h132, h⟩ := h
                        refine g_callNIv0 (st := [va_rf x124, .int q110, va_rf x122]) B (cX3_initc h132) mi_X3_init lk_RX1_42 ⟨Nat.le_of_ble_eq_true rfl, Nat.le_of_ble_eq_true rfl⟩ rfl rfl (Nat.le_of_ble_eq_true rfl) dX1_init_110 (Nat.le_trans (bm hka) hla) (Nat.le_trans (bm hkb) hlb) ?_
                        replace h := bnP_s h
                        obtain ⟨s135, h134, h⟩ := h
                        refine g_rast B (κ := 26) (κ2 := 3) (by decide) (by decide) rfl (fun _ => rfl) dX1_init_113 h134 ?_
                        refine g_iinc (v := (q110 + 1)) B 1 dX1_init_114 rfl (by first | rfl | (congr 1; decide)) (Nat.le_of_ble_eq_true rfl) (s1_c (f1_1 rfl (rf_cat _) (f1_x f1_n))) ?_
                        refine g_goto B 95 dX1_init_117 (by decide) ?_
                        obtain ⟨w1, w2, w3, w4⟩ := inA h
                        clear h
                        subst w1
                        subst w2
                        subst w3
                        subst w4
                        refine g_cost (by omega) (by omega) ?_
                        exact g_sub [1, 0] rfl (hI115 _ rfl)
                  clear h
                  refine g_sub [1, 0] rfl ?_
                  have hla9 := Nat.le_trans (bj hka la) hla
                  have hlb9 := Nat.le_trans (bj hkb lb) hlb
                  refine lpA_w (I := fun q79 s88 ka89 kb90 => GW Δ Γ (ka89) (kb90) 68 [(0, va_rf v0), (1, .int q79)] [] s88) (r := z142) (σr := s105) (A := 0 + a4 + a14 + a24 + a31 + a41 + a48 + a58 + a70 + a106) (B := 0 + b5 + b15 + b25 + b32 + b42 + b49 + b59 + b71 + b107) ?_ FUEL 0 s78 _ _ _ _ h81 rfl rfl
                  intro q79 s88 ka89 kb90 x86 s9 i9 j9 h hI84 hle9 hR85 er87i
                  unfold fX1_init_l1 at h
                  have hka : ka89 + i9 = _ := rfl
                  have hkb : kb90 + j9 = _ := rfl
                  have hlab : ka89 + i9 ≤ 0 + a4 + a14 + a24 + a31 + a41 + a48 + a58 + a70 + a106 ∧ kb90 + j9 ≤ 0 + b5 + b15 + b25 + b32 + b42 + b49 + b59 + b71 + b107 := by
                    rcases x86 with e | (x | x)
                    · obtain ⟨-, -, e1, e2⟩ := er87i e rfl; exact ⟨Nat.le_of_eq e1, Nat.le_of_eq e2⟩
                    · exact hle9 x rfl
                    · obtain ⟨-, -, e1, e2⟩ := hR85 x rfl; exact ⟨Nat.le_of_eq e1, Nat.le_of_eq e2⟩
                  have hla := Nat.le_trans hlab.1 hla9
                  have hlb := Nat.le_trans hlab.2 hlb9
                  have er87n : ∀ e, x86 = .error e → z142 = .error e ∧ s9 = s105 ∧ ka89 + i9 = 0 + a4 + a14 + a24 + a31 + a41 + a48 + a58 + a70 + a106 ∧ kb90 + j9 = 0 + b5 + b15 + b25 + b32 + b42 + b49 + b59 + b71 + b107 := fun e q => (fun r9 => ⟨r9.1, r9.2.1.symm, r9.2.2.1, r9.2.2.2⟩) (er87i e q)
                  refine g_iload_n B 1 dX1_init_68 rfl rfl ?_
                  refine g_bipush (v := 10) B dX1_init_69 (by decide) ?_
                  refine g_icmp_ge B 93 dX1_init_71 (by decide) (fun hc => ?_) (fun hc => ?_)
                  · replace h := ifp hc h
                    obtain ⟨w1, w2, w3, w4⟩ := inA h
                    clear h
                    subst w1
                    subst w2
                    subst w3
                    subst w4
                    obtain ⟨e8, e7, e6, e5⟩ := hR85 _ rfl
                    subst e8
                    subst e7
                    refine g_cost (by omega) (by omega) ?_
                    exact g_sub [0] rfl (kE82 _ rfl)
                  · replace h := ifn hc h
                    refine g_aload_n B 0 dX1_init_74 rfl rfl ?_
                    replace h := bnP_s h
                    obtain ⟨x91, h92, h⟩ := h
                    refine g_getR B fl_RX1_11 (by decide) dX1_init_75 h92 ?_
                    refine g_iload_n B 1 dX1_init_78 rfl rfl ?_
                    replace h := bnA_s h
                    rcases h with ⟨e9, h94, e8⟩ | ⟨x93, s95, a96, b97, a98, b99, h94, h, ea, eb⟩
                    · exact absurd h94 (by simp [nwA, nwR]; try (split <;> simp))
                    · subst ea; subst eb
                      have hka := bk hka
                      have hkb := bk hkb
                      refine g_new B nw_RX1_9 dX1_init_79 h94 (Nat.le_trans (bm hka) hla) (Nat.le_trans (bm hkb) hlb) ?_
                      refine g_dup B dX1_init_82 (rf_cat _) ?_
                      replace h := bnP_s h
                      obtain ⟨x100, h101, h⟩ := h
                      refine g_callNIv0 (st := [va_rf x93, .int q79, va_rf x91]) B (cX0_initc h101) mi_X0_init lk_RX1_47 ⟨Nat.le_of_ble_eq_true rfl, Nat.le_of_ble_eq_true rfl⟩ rfl rfl (Nat.le_of_ble_eq_true rfl) dX1_init_83 (Nat.le_trans (bm hka) hla) (Nat.le_trans (bm hkb) hlb) ?_
                      replace h := bnP_s h
                      obtain ⟨s104, h103, h⟩ := h
                      refine g_rast B (κ := 25) (κ2 := 0) (by decide) (by decide) rfl (fun _ => rfl) dX1_init_86 h103 ?_
                      refine g_iinc (v := (q79 + 1)) B 1 dX1_init_87 rfl (by first | rfl | (congr 1; decide)) (Nat.le_of_ble_eq_true rfl) (s1_c (f1_1 rfl (rf_cat _) (f1_x f1_n))) ?_
                      refine g_goto B 68 dX1_init_90 (by decide) ?_
                      obtain ⟨w1, w2, w3, w4⟩ := inA h
                      clear h
                      subst w1
                      subst w2
                      subst w3
                      subst w4
                      refine g_cost (by omega) (by omega) ?_
                      exact g_sub [1, 0] rfl (hI84 _ rfl)
set_option maxRecDepth 100000 in
set_option maxHeartbeats 4000000 in
theorem cX3_takec {l : Launch} {v0 : Option Nat} {v1 : Option Nat} {σ : HpT} {σ' : HpT} (h : fX3_take v0 v1 σ = some σ') : IsK σ v0 3 ∧ Ct l yX3_take cX3_take 2 none 0 0 [va_rf v0, va_rf v1] σ (.ok none) σ' 0 0 := by
  unfold fX3_take at h
  replace h := bnP_s h
  obtain ⟨u, hk, h⟩ := h
  replace hk := isK_s hk
  refine ⟨hk, ?_⟩
  refine ct_start mi_X3_take.1 rfl (al_le (al_1 (rf_cat _) (al_1 (rf_cat _) al_n)) (Nat.le_of_ble_eq_true rfl)) (ag_1 (rf_cat _) (ag_1 (rf_cat _) ag_n)) (fun Δ Γ B hE hnm => ?_)
  refine g_aload_n B 0 dX3_take_0 rfl rfl ?_
  refine g_aload_n B 1 dX3_take_1 rfl rfl ?_
  replace h := bnP_s h
  obtain ⟨x1, h2, h⟩ := h
  refine g_getI B fl_RX3_9 (by decide) dX3_take_2 h2 ?_
  replace h := bnP_s h
  obtain ⟨s5, h4, h⟩ := h
  refine g_putI B fl_RX3_9 (by decide) dX3_take_5 h4 ?_
  refine g_aload_n B 0 dX3_take_8 rfl rfl ?_
  refine g_aload_n B 1 dX3_take_9 rfl rfl ?_
  replace h := bnP_s h
  obtain ⟨x6, h7, h⟩ := h
  refine g_getI B fl_RX3_15 (by decide) dX3_take_10 h7 ?_
  replace h := bnP_s h
  obtain ⟨s10, h9, h⟩ := h
  refine g_putI B fl_RX3_15 (by decide) dX3_take_13 h9 ?_
  refine g_aload_n B 0 dX3_take_16 rfl rfl ?_
  refine g_aload_n B 1 dX3_take_17 rfl rfl ?_
  replace h := bnP_s h
  obtain ⟨x11, h12, h⟩ := h
  refine g_getI B fl_RX3_18 (by decide) dX3_take_18 h12 ?_
  replace h := bnP_s h
  obtain ⟨s15, h14, h⟩ := h
  refine g_putI B fl_RX3_18 (by decide) dX3_take_21 h14 ?_
  refine g_aload_n B 0 dX3_take_24 rfl rfl ?_
  refine g_aload_n B 1 dX3_take_25 rfl rfl ?_
  replace h := bnP_s h
  obtain ⟨x16, h17, h⟩ := h
  refine g_getI B fl_RX3_21 (by decide) dX3_take_26 h17 ?_
  replace h := bnP_s h
  obtain ⟨s20, h19, h⟩ := h
  refine g_putI B fl_RX3_21 (by decide) dX3_take_29 h19 ?_
  refine g_aload_n B 0 dX3_take_32 rfl rfl ?_
  refine g_aload_n B 1 dX3_take_33 rfl rfl ?_
  replace h := bnP_s h
  obtain ⟨x21, h22, h⟩ := h
  refine g_getI B fl_RX3_24 (by decide) dX3_take_34 h22 ?_
  replace h := bnP_s h
  obtain ⟨s25, h24, h⟩ := h
  refine g_putI B fl_RX3_24 (by decide) dX3_take_37 h24 ?_
  replace h := Option.some.inj h
  subst h
  exact g_vret B hE (Nat.zero_le _) (Nat.zero_le _) dX3_take_40
set_option maxRecDepth 100000 in
set_option maxHeartbeats 4000000 in
theorem cX8_takec {l : Launch} {v0 : Option Nat} {v1 : Option Nat} {σ : HpT} {σ' : HpT} (h : fX8_take v0 v1 σ = some σ') : IsK σ v0 8 ∧ Ct l yX8_take cX8_take 3 none 1 60 [va_rf v0, va_rf v1] σ (.ok none) σ' 0 0 := by
  unfold fX8_take at h
  replace h := bnP_s h
  obtain ⟨u, hk, h⟩ := h
  replace hk := isK_s hk
  refine ⟨hk, ?_⟩
  refine ct_start mi_X8_take.1 rfl (al_le (al_1 (rf_cat _) (al_1 (rf_cat _) al_n)) (Nat.le_of_ble_eq_true rfl)) (ag_1 (rf_cat _) (ag_1 (rf_cat _) ag_n)) (fun Δ Γ B hE hnm => ?_)
  refine g_aload_n B 0 dX8_take_0 rfl rfl ?_
  refine g_aload_n B 1 dX8_take_1 rfl rfl ?_
  replace h := bnP_s h
  obtain ⟨x1, h2, h⟩ := h
  refine g_getI B fl_RX8_32 (by decide) dX8_take_2 h2 ?_
  replace h := bnP_s h
  obtain ⟨s5, h4, h⟩ := h
  refine g_putI B fl_RX8_32 (by decide) dX8_take_5 h4 ?_
  refine g_aload_n B 1 dX8_take_8 rfl rfl ?_
  replace h := bnP_s h
  obtain ⟨x6, h7, h⟩ := h
  refine g_getR B fl_RX8_11 (by decide) dX8_take_9 h7 ?_
  refine g_iconst (v := 0) B dX8_take_12 (by decide) ?_
  refine g_aload_n B 0 dX8_take_13 rfl rfl ?_
  replace h := bnP_s h
  obtain ⟨x8, h9, h⟩ := h
  refine g_getR B fl_RX8_11 (by decide) dX8_take_14 h9 ?_
  refine g_iconst (v := 0) B dX8_take_17 (by decide) ?_
  refine g_aload_n B 0 dX8_take_18 rfl rfl ?_
  replace h := bnP_s h
  obtain ⟨x10, h11, h⟩ := h
  refine g_getI B fl_RX8_32 (by decide) dX8_take_19 h11 ?_
  replace h := bnP_s h
  obtain ⟨s14, h13, h⟩ := h
  refine g_cpJ B cp_RX8_36 (by decide) (Nat.le_of_ble_eq_true rfl) dX8_take_22 h13 ?_
  refine g_aload_n B 1 dX8_take_25 rfl rfl ?_
  replace h := bnP_s h
  obtain ⟨x15, h16, h⟩ := h
  refine g_getR B fl_RX8_15 (by decide) dX8_take_26 h16 ?_
  refine g_iconst (v := 0) B dX8_take_29 (by decide) ?_
  refine g_aload_n B 0 dX8_take_30 rfl rfl ?_
  replace h := bnP_s h
  obtain ⟨x17, h18, h⟩ := h
  refine g_getR B fl_RX8_15 (by decide) dX8_take_31 h18 ?_
  refine g_iconst (v := 0) B dX8_take_34 (by decide) ?_
  refine g_aload_n B 0 dX8_take_35 rfl rfl ?_
  replace h := bnP_s h
  obtain ⟨x19, h20, h⟩ := h
  refine g_getI B fl_RX8_32 (by decide) dX8_take_36 h20 ?_
  replace h := bnP_s h
  obtain ⟨s23, h22, h⟩ := h
  refine g_cpI B (κ := 20) (by decide) cp_RX8_36 (by decide) (Nat.le_of_ble_eq_true rfl) dX8_take_39 h22 ?_
  refine g_aload_n B 1 dX8_take_42 rfl rfl ?_
  replace h := bnP_s h
  obtain ⟨x24, h25, h⟩ := h
  refine g_getR B fl_RX8_19 (by decide) dX8_take_43 h25 ?_
  refine g_iconst (v := 0) B dX8_take_46 (by decide) ?_
  refine g_aload_n B 0 dX8_take_47 rfl rfl ?_
  replace h := bnP_s h
  obtain ⟨x26, h27, h⟩ := h
  refine g_getR B fl_RX8_19 (by decide) dX8_take_48 h27 ?_
  refine g_iconst (v := 0) B dX8_take_51 (by decide) ?_
  refine g_aload_n B 0 dX8_take_52 rfl rfl ?_
  replace h := bnP_s h
  obtain ⟨x28, h29, h⟩ := h
  refine g_getI B fl_RX8_32 (by decide) dX8_take_53 h29 ?_
  replace h := bnP_s h
  obtain ⟨s32, h31, h⟩ := h
  refine g_cpI B (κ := 20) (by decide) cp_RX8_36 (by decide) (Nat.le_of_ble_eq_true rfl) dX8_take_56 h31 ?_
  refine g_aload_n B 1 dX8_take_59 rfl rfl ?_
  replace h := bnP_s h
  obtain ⟨x33, h34, h⟩ := h
  refine g_getR B fl_RX8_26 (by decide) dX8_take_60 h34 ?_
  refine g_iconst (v := 0) B dX8_take_63 (by decide) ?_
  refine g_aload_n B 0 dX8_take_64 rfl rfl ?_
  replace h := bnP_s h
  obtain ⟨x35, h36, h⟩ := h
  refine g_getR B fl_RX8_26 (by decide) dX8_take_65 h36 ?_
  refine g_iconst (v := 0) B dX8_take_68 (by decide) ?_
  refine g_aload_n B 0 dX8_take_69 rfl rfl ?_
  replace h := bnP_s h
  obtain ⟨x37, h38, h⟩ := h
  refine g_getI B fl_RX8_32 (by decide) dX8_take_70 h38 ?_
  replace h := bnP_s h
  obtain ⟨s41, h40, h⟩ := h
  refine g_cpI B (κ := 20) (by decide) cp_RX8_36 (by decide) (Nat.le_of_ble_eq_true rfl) dX8_take_73 h40 ?_
  refine g_aload_n B 1 dX8_take_76 rfl rfl ?_
  replace h := bnP_s h
  obtain ⟨x42, h43, h⟩ := h
  refine g_getR B fl_RX8_29 (by decide) dX8_take_77 h43 ?_
  refine g_iconst (v := 0) B dX8_take_80 (by decide) ?_
  refine g_aload_n B 0 dX8_take_81 rfl rfl ?_
  replace h := bnP_s h
  obtain ⟨x44, h45, h⟩ := h
  refine g_getR B fl_RX8_29 (by decide) dX8_take_82 h45 ?_
  refine g_iconst (v := 0) B dX8_take_85 (by decide) ?_
  refine g_aload_n B 0 dX8_take_86 rfl rfl ?_
  replace h := bnP_s h
  obtain ⟨x46, h47, h⟩ := h
  refine g_getI B fl_RX8_32 (by decide) dX8_take_87 h47 ?_
  refine g_iconst (v := 4) B dX8_take_90 (by decide) ?_
  refine g_imul B dX8_take_91 ?_
  replace h := bnP_s h
  obtain ⟨s50, h49, h⟩ := h
  refine g_cpJ B cp_RX8_36 (by decide) (Nat.le_of_ble_eq_true rfl) dX8_take_92 h49 ?_
  refine g_iconst (v := 0) B dX8_take_95 (by decide) ?_
  refine g_istore_n B dX8_take_96 rfl (Nat.le_of_ble_eq_true rfl) (s1_c (f1_k rfl (f1_1 rfl (rf_cat _) f1_n))) ?_
  replace h := bnS_s h
  obtain ⟨r52, s72, h53, h⟩ := h
  have kE54 : GW Δ Γ (0) (0) 123 [] [] s72 := by
    replace h := Option.some.inj h
    subst h
    exact g_vret B hE (Nat.zero_le _) (Nat.zero_le _) dX8_take_123
  clear h
  refine g_sub [1, 2, 0] rfl ?_
  refine lpS_w (I := fun q51 s60 => GW Δ Γ (0) (0) 97 [(0, va_rf v0), (1, va_rf v1), (2, .int q51)] [] s60) (r := r52) (σr := s72) ?_ FUEL 0 s50 h53
  intro q51 s60 x58 s9 h hI56 hR57
  unfold fX8_take_l1 at h
  refine g_iload_n B 2 dX8_take_97 rfl rfl ?_
  refine g_aload_n B 0 dX8_take_98 rfl rfl ?_
  replace h := bnP_s h
  obtain ⟨x61, h62, h⟩ := h
  refine g_getI B fl_RX8_32 (by decide) dX8_take_99 h62 ?_
  refine g_icmp_ge B 123 dX8_take_102 (by decide) (fun hc => ?_) (fun hc => ?_)
  · replace h := ifp hc h
    obtain ⟨w1, w2⟩ := inS h
    clear h
    subst w1
    subst w2
    obtain ⟨e8, e7⟩ := hR57 _ rfl
    subst e8
    subst e7
    exact g_sub [] rfl kE54
  · replace h := ifn hc h
    refine g_aload_n B 0 dX8_take_105 rfl rfl ?_
    replace h := bnP_s h
    obtain ⟨x63, h64, h⟩ := h
    refine g_getR B fl_RX8_22 (by decide) dX8_take_106 h64 ?_
    refine g_iload_n B 2 dX8_take_109 rfl rfl ?_
    refine g_aload_n B 1 dX8_take_110 rfl rfl ?_
    replace h := bnP_s h
    obtain ⟨x65, h66, h⟩ := h
    refine g_getR B fl_RX8_22 (by decide) dX8_take_111 h66 ?_
    refine g_iload_n B 2 dX8_take_114 rfl rfl ?_
    replace h := bnP_s h
    obtain ⟨x67, h68, h⟩ := h
    refine g_zald B dX8_take_115 h68 ?_
    replace h := bnP_s h
    obtain ⟨s71, h70, h⟩ := h
    refine g_zast B dX8_take_116 h70 ?_
    refine g_iinc (v := (q51 + 1)) B 2 dX8_take_117 rfl (by first | rfl | (congr 1; decide)) (Nat.le_of_ble_eq_true rfl) (s1_c (f1_k rfl (f1_1 rfl (rf_cat _) (f1_x f1_n)))) ?_
    refine g_goto B 97 dX8_take_120 (by decide) ?_
    obtain ⟨w1, w2⟩ := inS h
    clear h
    subst w1
    subst w2
    exact g_sub [1, 2, 0] rfl (hI56 _ rfl)
set_option maxRecDepth 100000 in
set_option maxHeartbeats 4000000 in
theorem cX4_takec {l : Launch} {v0 : Option Nat} {v1 : Option Nat} {σ : HpT} {σ' : HpT} (h : fX4_take v0 v1 σ = some σ') : IsK σ v0 4 ∧ Ct l yX4_take cX4_take 2 none 1 60 [va_rf v0, va_rf v1] σ (.ok none) σ' 0 0 := by
  unfold fX4_take at h
  replace h := bnP_s h
  obtain ⟨u, hk, h⟩ := h
  replace hk := isK_s hk
  refine ⟨hk, ?_⟩
  refine ct_start mi_X4_take.1 rfl (al_le (al_1 (rf_cat _) (al_1 (rf_cat _) al_n)) (Nat.le_of_ble_eq_true rfl)) (ag_1 (rf_cat _) (ag_1 (rf_cat _) ag_n)) (fun Δ Γ B hE hnm => ?_)
  refine g_aload_n B 0 dX4_take_0 rfl rfl ?_
  refine g_aload_n B 1 dX4_take_1 rfl rfl ?_
  replace h := bnP_s h
  obtain ⟨x1, h2, h⟩ := h
  refine g_getI B fl_RX4_19 (by decide) dX4_take_2 h2 ?_
  replace h := bnP_s h
  obtain ⟨s5, h4, h⟩ := h
  refine g_putI B fl_RX4_19 (by decide) dX4_take_5 h4 ?_
  refine g_aload_n B 0 dX4_take_8 rfl rfl ?_
  refine g_aload_n B 1 dX4_take_9 rfl rfl ?_
  replace h := bnP_s h
  obtain ⟨x6, h7, h⟩ := h
  refine g_getI B fl_RX4_23 (by decide) dX4_take_10 h7 ?_
  replace h := bnP_s h
  obtain ⟨s10, h9, h⟩ := h
  refine g_putI B fl_RX4_23 (by decide) dX4_take_13 h9 ?_
  refine g_aload_n B 1 dX4_take_16 rfl rfl ?_
  replace h := bnP_s h
  obtain ⟨x11, h12, h⟩ := h
  refine g_getR B fl_RX4_11 (by decide) dX4_take_17 h12 ?_
  refine g_iconst (v := 0) B dX4_take_20 (by decide) ?_
  refine g_aload_n B 0 dX4_take_21 rfl rfl ?_
  replace h := bnP_s h
  obtain ⟨x13, h14, h⟩ := h
  refine g_getR B fl_RX4_11 (by decide) dX4_take_22 h14 ?_
  refine g_iconst (v := 0) B dX4_take_25 (by decide) ?_
  refine g_bipush (v := 12) B dX4_take_26 (by decide) ?_
  replace h := bnP_s h
  obtain ⟨s17, h16, h⟩ := h
  refine g_cpI B (κ := 20) (by decide) cp_RX4_26 (by decide) (Nat.le_of_ble_eq_true rfl) dX4_take_28 h16 ?_
  replace h := Option.some.inj h
  subst h
  exact g_vret B hE (Nat.zero_le _) (Nat.zero_le _) dX4_take_31
set_option maxRecDepth 100000 in
set_option maxHeartbeats 4000000 in
theorem cX1_takec {l : Launch} {v0 : Option Nat} {v1 : Option Nat} {σ : HpT} {σ' : HpT} (h : fX1_take v0 v1 σ = some σ') : IsK σ v0 1 ∧ Ct l yX1_take cX1_take 3 none 2 82 [va_rf v0, va_rf v1] σ (.ok none) σ' 0 0 := by
  unfold fX1_take at h
  replace h := bnP_s h
  obtain ⟨u, hk, h⟩ := h
  replace hk := isK_s hk
  refine ⟨hk, ?_⟩
  refine ct_start mi_X1_take.1 rfl (al_le (al_1 (rf_cat _) (al_1 (rf_cat _) al_n)) (Nat.le_of_ble_eq_true rfl)) (ag_1 (rf_cat _) (ag_1 (rf_cat _) ag_n)) (fun Δ Γ B hE hnm => ?_)
  refine g_aload_n B 0 dX1_take_0 rfl rfl ?_
  refine g_aload_n B 1 dX1_take_1 rfl rfl ?_
  replace h := bnP_s h
  obtain ⟨x1, h2, h⟩ := h
  refine g_getI B fl_RX1_48 (by decide) dX1_take_2 h2 ?_
  replace h := bnP_s h
  obtain ⟨s5, h4, h⟩ := h
  refine g_putI B fl_RX1_48 (by decide) dX1_take_5 h4 ?_
  refine g_aload_n B 0 dX1_take_8 rfl rfl ?_
  refine g_aload_n B 1 dX1_take_9 rfl rfl ?_
  replace h := bnP_s h
  obtain ⟨x6, h7, h⟩ := h
  refine g_getI B fl_RX1_52 (by decide) dX1_take_10 h7 ?_
  replace h := bnP_s h
  obtain ⟨s10, h9, h⟩ := h
  refine g_putI B fl_RX1_52 (by decide) dX1_take_13 h9 ?_
  refine g_aload_n B 0 dX1_take_16 rfl rfl ?_
  refine g_aload_n B 1 dX1_take_17 rfl rfl ?_
  replace h := bnP_s h
  obtain ⟨x11, h12, h⟩ := h
  refine g_getI B fl_RX1_55 (by decide) dX1_take_18 h12 ?_
  replace h := bnP_s h
  obtain ⟨s15, h14, h⟩ := h
  refine g_putI B fl_RX1_55 (by decide) dX1_take_21 h14 ?_
  refine g_aload_n B 0 dX1_take_24 rfl rfl ?_
  refine g_aload_n B 1 dX1_take_25 rfl rfl ?_
  replace h := bnP_s h
  obtain ⟨x16, h17, h⟩ := h
  refine g_getI B fl_RX1_58 (by decide) dX1_take_26 h17 ?_
  replace h := bnP_s h
  obtain ⟨s20, h19, h⟩ := h
  refine g_putI B fl_RX1_58 (by decide) dX1_take_29 h19 ?_
  refine g_aload_n B 0 dX1_take_32 rfl rfl ?_
  refine g_aload_n B 1 dX1_take_33 rfl rfl ?_
  replace h := bnP_s h
  obtain ⟨x21, h22, h⟩ := h
  refine g_getI B fl_RX1_61 (by decide) dX1_take_34 h22 ?_
  replace h := bnP_s h
  obtain ⟨s25, h24, h⟩ := h
  refine g_putI B fl_RX1_61 (by decide) dX1_take_37 h24 ?_
  refine g_aload_n B 0 dX1_take_40 rfl rfl ?_
  refine g_aload_n B 1 dX1_take_41 rfl rfl ?_
  replace h := bnP_s h
  obtain ⟨x26, h27, h⟩ := h
  refine g_getI B fl_RX1_64 (by decide) dX1_take_42 h27 ?_
  replace h := bnP_s h
  obtain ⟨s30, h29, h⟩ := h
  refine g_putI B fl_RX1_64 (by decide) dX1_take_45 h29 ?_
  refine g_iconst (v := 0) B dX1_take_48 (by decide) ?_
  refine g_istore_n B dX1_take_49 rfl (Nat.le_of_ble_eq_true rfl) (s1_c (f1_k rfl (f1_1 rfl (rf_cat _) f1_n))) ?_
  replace h := bnS_s h
  obtain ⟨r32, s54, h33, h⟩ := h
  have kE34 : GW Δ Γ (0) (0) 79 [(0, va_rf v0), (1, va_rf v1)] [] s54 := by
    refine g_iconst (v := 0) B dX1_take_79 (by decide) ?_
    refine g_istore_n B dX1_take_80 rfl (Nat.le_of_ble_eq_true rfl) (s1_c (f1_k rfl (f1_1 rfl (rf_cat _) f1_n))) ?_
    replace h := bnS_s h
    obtain ⟨r56, s78, h57, h⟩ := h
    have kE58 : GW Δ Γ (0) (0) 110 [(0, va_rf v0), (1, va_rf v1)] [] s78 := by
      refine g_aload_n B 0 dX1_take_110 rfl rfl ?_
      replace h := bnP_s h
      obtain ⟨x79, h80, h⟩ := h
      refine g_getR B fl_RX1_24 (by decide) dX1_take_111 h80 ?_
      refine g_aload_n B 1 dX1_take_114 rfl rfl ?_
      replace h := bnP_s h
      obtain ⟨x81, h82, h⟩ := h
      refine g_getR B fl_RX1_24 (by decide) dX1_take_115 h82 ?_
      replace h := bnP_s h
      obtain ⟨s85, h84, h⟩ := h
      refine g_callVv0 (st := []) B (cX8_takec h84) (Nat.le_of_ble_eq_true rfl) rfl rfl mi_X8_take lk_RX1_74 ⟨Nat.le_of_ble_eq_true rfl, Nat.le_of_ble_eq_true rfl⟩ rfl rfl (Nat.le_of_ble_eq_true rfl) dX1_take_118 (Nat.zero_le _) (Nat.zero_le _) ?_
      refine g_aload_n B 0 dX1_take_121 rfl rfl ?_
      replace h := bnP_s h
      obtain ⟨x86, h87, h⟩ := h
      refine g_getR B fl_RX1_31 (by decide) dX1_take_122 h87 ?_
      refine g_aload_n B 1 dX1_take_125 rfl rfl ?_
      replace h := bnP_s h
      obtain ⟨x88, h89, h⟩ := h
      refine g_getR B fl_RX1_31 (by decide) dX1_take_126 h89 ?_
      replace h := bnP_s h
      obtain ⟨s92, h91, h⟩ := h
      refine g_callVv0 (st := []) B (cX4_takec h91) (Nat.le_of_ble_eq_true rfl) rfl rfl mi_X4_take lk_RX1_77 ⟨Nat.le_of_ble_eq_true rfl, Nat.le_of_ble_eq_true rfl⟩ rfl rfl (Nat.le_of_ble_eq_true rfl) dX1_take_129 (Nat.zero_le _) (Nat.zero_le _) ?_
      replace h := Option.some.inj h
      subst h
      exact g_vret B hE (Nat.zero_le _) (Nat.zero_le _) dX1_take_132
    clear h
    refine g_sub [1, 2, 0] rfl ?_
    refine lpS_w (I := fun q55 s64 => GW Δ Γ (0) (0) 81 [(0, va_rf v0), (1, va_rf v1), (2, .int q55)] [] s64) (r := r56) (σr := s78) ?_ FUEL 0 s54 h57
    intro q55 s64 x62 s9 h hI60 hR61
    unfold fX1_take_l2 at h
    refine g_iload_n B 2 dX1_take_81 rfl rfl ?_
    refine g_aload_n B 0 dX1_take_82 rfl rfl ?_
    replace h := bnP_s h
    obtain ⟨x65, h66, h⟩ := h
    refine g_getI B fl_RX1_58 (by decide) dX1_take_83 h66 ?_
    refine g_icmp_ge B 110 dX1_take_86 (by decide) (fun hc => ?_) (fun hc => ?_)
    · replace h := ifp hc h
      obtain ⟨w1, w2⟩ := inS h
      clear h
      subst w1
      subst w2
      obtain ⟨e8, e7⟩ := hR61 _ rfl
      subst e8
      subst e7
      exact g_sub [0, 1] rfl kE58
    · replace h := ifn hc h
      refine g_aload_n B 0 dX1_take_89 rfl rfl ?_
      replace h := bnP_s h
      obtain ⟨x67, h68, h⟩ := h
      refine g_getR B fl_RX1_17 (by decide) dX1_take_90 h68 ?_
      refine g_iload_n B 2 dX1_take_93 rfl rfl ?_
      replace h := bnP_s h
      obtain ⟨x69, h70, h⟩ := h
      refine g_ralds B (κ := 26) (by decide) rfl dX1_take_94 h70 ?_
      refine g_aload_n B 1 dX1_take_95 rfl rfl ?_
      replace h := bnP_s h
      obtain ⟨x71, h72, h⟩ := h
      refine g_getR B fl_RX1_17 (by decide) dX1_take_96 h72 ?_
      refine g_iload_n B 2 dX1_take_99 rfl rfl ?_
      replace h := bnP_s h
      obtain ⟨x73, h74, h⟩ := h
      refine g_ralds B (κ := 26) (by decide) rfl dX1_take_100 h74 ?_
      replace h := bnP_s h
      obtain ⟨s77, h76, h⟩ := h
      refine g_callVv0 (st := []) B (cX3_takec h76) (Nat.le_of_ble_eq_true rfl) rfl rfl mi_X3_take lk_RX1_71 ⟨Nat.le_of_ble_eq_true rfl, Nat.le_of_ble_eq_true rfl⟩ rfl rfl (Nat.le_of_ble_eq_true rfl) dX1_take_101 (Nat.zero_le _) (Nat.zero_le _) ?_
      refine g_iinc (v := (q55 + 1)) B 2 dX1_take_104 rfl (by first | rfl | (congr 1; decide)) (Nat.le_of_ble_eq_true rfl) (s1_c (f1_k rfl (f1_1 rfl (rf_cat _) (f1_x f1_n)))) ?_
      refine g_goto B 81 dX1_take_107 (by decide) ?_
      obtain ⟨w1, w2⟩ := inS h
      clear h
      subst w1
      subst w2
      exact g_sub [1, 2, 0] rfl (hI60 _ rfl)
  clear h
  refine g_sub [1, 2, 0] rfl ?_
  refine lpS_w (I := fun q31 s40 => GW Δ Γ (0) (0) 50 [(0, va_rf v0), (1, va_rf v1), (2, .int q31)] [] s40) (r := r32) (σr := s54) ?_ FUEL 0 s30 h33
  intro q31 s40 x38 s9 h hI36 hR37
  unfold fX1_take_l1 at h
  refine g_iload_n B 2 dX1_take_50 rfl rfl ?_
  refine g_aload_n B 0 dX1_take_51 rfl rfl ?_
  replace h := bnP_s h
  obtain ⟨x41, h42, h⟩ := h
  refine g_getI B fl_RX1_55 (by decide) dX1_take_52 h42 ?_
  refine g_icmp_ge B 79 dX1_take_55 (by decide) (fun hc => ?_) (fun hc => ?_)
  · replace h := ifp hc h
    obtain ⟨w1, w2⟩ := inS h
    clear h
    subst w1
    subst w2
    obtain ⟨e8, e7⟩ := hR37 _ rfl
    subst e8
    subst e7
    exact g_sub [0, 1] rfl kE34
  · replace h := ifn hc h
    refine g_aload_n B 0 dX1_take_58 rfl rfl ?_
    replace h := bnP_s h
    obtain ⟨x43, h44, h⟩ := h
    refine g_getR B fl_RX1_11 (by decide) dX1_take_59 h44 ?_
    refine g_iload_n B 2 dX1_take_62 rfl rfl ?_
    replace h := bnP_s h
    obtain ⟨x45, h46, h⟩ := h
    refine g_ralds B (κ := 25) (by decide) rfl dX1_take_63 h46 ?_
    refine g_aload_n B 1 dX1_take_64 rfl rfl ?_
    replace h := bnP_s h
    obtain ⟨x47, h48, h⟩ := h
    refine g_getR B fl_RX1_11 (by decide) dX1_take_65 h48 ?_
    refine g_iload_n B 2 dX1_take_68 rfl rfl ?_
    replace h := bnP_s h
    obtain ⟨x49, h50, h⟩ := h
    refine g_ralds B (κ := 25) (by decide) rfl dX1_take_69 h50 ?_
    replace h := bnP_s h
    obtain ⟨s53, h52, h⟩ := h
    refine g_callVv0 (st := []) B (cX0_takec h52) (Nat.le_of_ble_eq_true rfl) rfl rfl mi_X0_take lk_RX1_67 ⟨Nat.le_of_ble_eq_true rfl, Nat.le_of_ble_eq_true rfl⟩ rfl rfl (Nat.le_of_ble_eq_true rfl) dX1_take_70 (Nat.zero_le _) (Nat.zero_le _) ?_
    refine g_iinc (v := (q31 + 1)) B 2 dX1_take_73 rfl (by first | rfl | (congr 1; decide)) (Nat.le_of_ble_eq_true rfl) (s1_c (f1_k rfl (f1_1 rfl (rf_cat _) (f1_x f1_n)))) ?_
    refine g_goto B 50 dX1_take_76 (by decide) ?_
    obtain ⟨w1, w2⟩ := inS h
    clear h
    subst w1
    subst w2
    exact g_sub [1, 2, 0] rfl (hI36 _ rfl)
set_option maxRecDepth 100000 in
set_option maxHeartbeats 4000000 in
theorem cX1_clearc {l : Launch} {v0 : Option Nat} {σ : HpT} {σ' : HpT} (h : fX1_clear v0 σ = some σ') : IsK σ v0 1 ∧ Ct l yX1_clear cX1_clear 1 none 0 0 [va_rf v0] σ (.ok none) σ' 0 0 := by
  unfold fX1_clear at h
  replace h := bnP_s h
  obtain ⟨u, hk, h⟩ := h
  replace hk := isK_s hk
  refine ⟨hk, ?_⟩
  refine ct_start mi_X1_clear.1 rfl (al_le (al_1 (rf_cat _) al_n) (Nat.le_of_ble_eq_true rfl)) (ag_1 (rf_cat _) ag_n) (fun Δ Γ B hE hnm => ?_)
  refine g_aload_n B 0 dX1_clear_0 rfl rfl ?_
  refine g_iconst (v := 0) B dX1_clear_1 (by decide) ?_
  replace h := bnP_s h
  obtain ⟨s3, h2, h⟩ := h
  refine g_putI B fl_RX1_55 (by decide) dX1_clear_2 h2 ?_
  refine g_aload_n B 0 dX1_clear_5 rfl rfl ?_
  refine g_iconst (v := 0) B dX1_clear_6 (by decide) ?_
  replace h := bnP_s h
  obtain ⟨s6, h5, h⟩ := h
  refine g_putI B fl_RX1_58 (by decide) dX1_clear_7 h5 ?_
  refine g_aload_n B 0 dX1_clear_10 rfl rfl ?_
  refine g_iconst (v := 0) B dX1_clear_11 (by decide) ?_
  replace h := bnP_s h
  obtain ⟨s9, h8, h⟩ := h
  refine g_putI B fl_RX1_61 (by decide) dX1_clear_12 h8 ?_
  refine g_aload_n B 0 dX1_clear_15 rfl rfl ?_
  refine g_iconst (v := 0) B dX1_clear_16 (by decide) ?_
  replace h := bnP_s h
  obtain ⟨s12, h11, h⟩ := h
  refine g_putI B fl_RX1_64 (by decide) dX1_clear_17 h11 ?_
  refine g_aload_n B 0 dX1_clear_20 rfl rfl ?_
  replace h := bnP_s h
  obtain ⟨x13, h14, h⟩ := h
  refine g_getR B fl_RX1_24 (by decide) dX1_clear_21 h14 ?_
  refine g_iconst (v := 0) B dX1_clear_24 (by decide) ?_
  replace h := bnP_s h
  obtain ⟨s17, h16, h⟩ := h
  refine g_putI B fl_RX1_80 (by decide) dX1_clear_25 h16 ?_
  refine g_aload_n B 0 dX1_clear_28 rfl rfl ?_
  replace h := bnP_s h
  obtain ⟨x18, h19, h⟩ := h
  refine g_getR B fl_RX1_31 (by decide) dX1_clear_29 h19 ?_
  refine g_iconst (v := 0) B dX1_clear_32 (by decide) ?_
  replace h := bnP_s h
  obtain ⟨s22, h21, h⟩ := h
  refine g_putI B fl_RX1_83 (by decide) dX1_clear_33 h21 ?_
  replace h := Option.some.inj h
  subst h
  exact g_vret B hE (Nat.zero_le _) (Nat.zero_le _) dX1_clear_36
set_option maxRecDepth 100000 in
set_option maxHeartbeats 4000000 in
theorem cX1_openActc {l : Launch} {v0 : Option Nat} {σ : HpT} {r : Option Nat} (h : fX1_openAct v0 σ = some r) : IsK σ v0 1 ∧ Ct l yX1_openAct cX1_openAct 1 (some (.object "NotaryBook$Act")) 0 0 [va_rf v0] σ (.ok (some (va_rf r))) σ 0 0 := by
  unfold fX1_openAct at h
  replace h := bnP_s h
  obtain ⟨u, hk, h⟩ := h
  replace hk := isK_s hk
  refine ⟨hk, ?_⟩
  refine ct_start mi_X1_openAct.1 rfl (al_le (al_1 (rf_cat _) al_n) (Nat.le_of_ble_eq_true rfl)) (ag_1 (rf_cat _) ag_n) (fun Δ Γ B hE hnm => ?_)
  refine g_aload_n B 0 dX1_openAct_0 rfl rfl ?_
  replace h := bnP_s h
  obtain ⟨x1, h2, h⟩ := h
  refine g_getI B fl_RX1_55 (by decide) dX1_openAct_1 h2 ?_
  refine g_if_eq B 24 dX1_openAct_4 (by decide) (fun hc => ?_) (fun hc => ?_)
  · replace h := ifp hc h
    refine g_null B dX1_openAct_24 ?_
    replace h := Option.some.inj h
    subst h
    exact g_aret B hE (Or.inl ⟨_, rfl⟩) (Nat.zero_le _) (Nat.zero_le _) dX1_openAct_25
  · replace h := ifn hc h
    refine g_aload_n B 0 dX1_openAct_7 rfl rfl ?_
    replace h := bnP_s h
    obtain ⟨x3, h4, h⟩ := h
    refine g_getR B fl_RX1_11 (by decide) dX1_openAct_8 h4 ?_
    refine g_aload_n B 0 dX1_openAct_11 rfl rfl ?_
    replace h := bnP_s h
    obtain ⟨x5, h6, h⟩ := h
    refine g_getI B fl_RX1_55 (by decide) dX1_openAct_12 h6 ?_
    refine g_iconst (v := 1) B dX1_openAct_15 (by decide) ?_
    refine g_isub B dX1_openAct_16 ?_
    replace h := bnP_s h
    obtain ⟨x7, h8, h⟩ := h
    refine g_ralds B (κ := 25) (by decide) rfl dX1_openAct_17 h8 ?_
    replace h := bnP_s h
    obtain ⟨x9, h10, h⟩ := h
    refine g_getI B fl_RX1_84 (by decide) dX1_openAct_18 h10 ?_
    refine g_if_eq B 26 dX1_openAct_21 (by decide) (fun hc => ?_) (fun hc => ?_)
    · replace h := ifp hc h
      refine g_aload_n B 0 dX1_openAct_26 rfl rfl ?_
      replace h := bnP_s h
      obtain ⟨x11, h12, h⟩ := h
      refine g_getR B fl_RX1_11 (by decide) dX1_openAct_27 h12 ?_
      refine g_aload_n B 0 dX1_openAct_30 rfl rfl ?_
      replace h := bnP_s h
      obtain ⟨x13, h14, h⟩ := h
      refine g_getI B fl_RX1_55 (by decide) dX1_openAct_31 h14 ?_
      refine g_iconst (v := 1) B dX1_openAct_34 (by decide) ?_
      refine g_isub B dX1_openAct_35 ?_
      replace h := bnP_s h
      obtain ⟨x15, h16, h⟩ := h
      refine g_ralds B (κ := 25) (by decide) rfl dX1_openAct_36 h16 ?_
      replace h := Option.some.inj h
      subst h
      exact g_aret B hE (Or.inl ⟨_, rfl⟩) (Nat.zero_le _) (Nat.zero_le _) dX1_openAct_37
    · replace h := ifn hc h
      refine g_null B dX1_openAct_24 ?_
      replace h := Option.some.inj h
      subst h
      exact g_aret B hE (Or.inl ⟨_, rfl⟩) (Nat.zero_le _) (Nat.zero_le _) dX1_openAct_25
set_option maxRecDepth 100000 in
set_option maxHeartbeats 4000000 in
theorem cX1_openNumberc {l : Launch} {v0 : Option Nat} {σ : HpT} {r : Int32} (h : fX1_openNumber v0 σ = some r) : IsK σ v0 1 ∧ Ct l yX1_openNumber cX1_openNumber 1 (some .int) 1 20 [va_rf v0] σ (.ok (some (.int r))) σ 0 0 := by
  unfold fX1_openNumber at h
  replace h := bnP_s h
  obtain ⟨u, hk, h⟩ := h
  replace hk := isK_s hk
  refine ⟨hk, ?_⟩
  refine ct_start mi_X1_openNumber.1 rfl (al_le (al_1 (rf_cat _) al_n) (Nat.le_of_ble_eq_true rfl)) (ag_1 (rf_cat _) ag_n) (fun Δ Γ B hE hnm => ?_)
  refine g_aload_n B 0 dX1_openNumber_0 rfl rfl ?_
  replace h := bnP_s h
  obtain ⟨x1, h2, h⟩ := h
  refine g_callVs0 (st := []) B (cX1_openActc h2) (Nat.le_of_ble_eq_true rfl) rfl rfl mi_X1_openAct lk_RX1_87 ⟨Nat.le_of_ble_eq_true rfl, Nat.le_of_ble_eq_true rfl⟩ rfl rfl (Nat.le_of_ble_eq_true rfl) dX1_openNumber_1 (Nat.zero_le _) (Nat.zero_le _) ?_
  refine g_ifnonnull B 11 dX1_openNumber_4 (by decide) (fun hc => ?_) (fun hc => ?_)
  · replace h := ifn hc h
    refine g_aload_n B 0 dX1_openNumber_11 rfl rfl ?_
    replace h := bnP_s h
    obtain ⟨x3, h4, h⟩ := h
    refine g_getI B fl_RX1_55 (by decide) dX1_openNumber_12 h4 ?_
    replace h := Option.some.inj h
    subst h
    exact g_iret B hE (Nat.zero_le _) (Nat.zero_le _) dX1_openNumber_15
  · replace h := ifp hc h
    refine g_iconst (v := 0) B dX1_openNumber_7 (by decide) ?_
    refine g_goto B 15 dX1_openNumber_8 (by decide) ?_
    replace h := Option.some.inj h
    subst h
    exact g_iret B hE (Nat.zero_le _) (Nat.zero_le _) dX1_openNumber_15
set_option maxRecDepth 100000 in
set_option maxHeartbeats 4000000 in
theorem cX1_openSizec {l : Launch} {v0 : Option Nat} {σ : HpT} {r : Int32} (h : fX1_openSize v0 σ = some r) : IsK σ v0 1 ∧ Ct l yX1_openSize cX1_openSize 2 (some .int) 1 20 [va_rf v0] σ (.ok (some (.int r))) σ 0 0 := by
  unfold fX1_openSize at h
  replace h := bnP_s h
  obtain ⟨u, hk, h⟩ := h
  replace hk := isK_s hk
  refine ⟨hk, ?_⟩
  refine ct_start mi_X1_openSize.1 rfl (al_le (al_1 (rf_cat _) al_n) (Nat.le_of_ble_eq_true rfl)) (ag_1 (rf_cat _) ag_n) (fun Δ Γ B hE hnm => ?_)
  refine g_aload_n B 0 dX1_openSize_0 rfl rfl ?_
  replace h := bnP_s h
  obtain ⟨x1, h2, h⟩ := h
  refine g_callVs0 (st := []) B (cX1_openActc h2) (Nat.le_of_ble_eq_true rfl) rfl rfl mi_X1_openAct lk_RX1_87 ⟨Nat.le_of_ble_eq_true rfl, Nat.le_of_ble_eq_true rfl⟩ rfl rfl (Nat.le_of_ble_eq_true rfl) dX1_openSize_1 (Nat.zero_le _) (Nat.zero_le _) ?_
  refine g_astore_n B dX1_openSize_4 rfl (Nat.le_of_ble_eq_true rfl) (s1_c (f1_1 rfl (rf_cat _) f1_n)) ?_
  refine g_aload_n B 0 dX1_openSize_5 rfl rfl ?_
  refine g_ifnonnull B 13 dX1_openSize_6 (by decide) (fun hc => ?_) (fun hc => ?_)
  · replace h := ifn hc h
    refine g_aload_n B 0 dX1_openSize_13 rfl rfl ?_
    replace h := bnP_s h
    obtain ⟨x3, h4, h⟩ := h
    refine g_getI B fl_RX1_91 (by decide) dX1_openSize_14 h4 ?_
    replace h := Option.some.inj h
    subst h
    exact g_iret B hE (Nat.zero_le _) (Nat.zero_le _) dX1_openSize_17
  · replace h := ifp hc h
    refine g_iconst (v := 0) B dX1_openSize_9 (by decide) ?_
    refine g_goto B 17 dX1_openSize_10 (by decide) ?_
    replace h := Option.some.inj h
    subst h
    exact g_iret B hE (Nat.zero_le _) (Nat.zero_le _) dX1_openSize_17
set_option maxRecDepth 100000 in
set_option maxHeartbeats 4000000 in
theorem cX8_unstruckFromc {l : Launch} {v0 : Option Nat} {v1 : Int32} {v2 : Int32} {σ : HpT} {r : Int32} (h : fX8_unstruckFrom v0 v1 v2 σ = some r) : IsK σ v0 8 ∧ Ct l yX8_unstruckFrom cX8_unstruckFrom 5 (some .int) 0 0 [va_rf v0, .int v1, .int v2] σ (.ok (some (.int r))) σ 0 0 := by
  unfold fX8_unstruckFrom at h
  replace h := bnP_s h
  obtain ⟨u, hk, h⟩ := h
  replace hk := isK_s hk
  refine ⟨hk, ?_⟩
  refine ct_start mi_X8_unstruckFrom.1 rfl (al_le (al_1 (rf_cat _) (al_1 rfl (al_1 rfl al_n))) (Nat.le_of_ble_eq_true rfl)) (ag_1 (rf_cat _) (ag_1 rfl (ag_1 rfl ag_n))) (fun Δ Γ B hE hnm => ?_)
  refine g_iconst (v := 0) B dX8_unstruckFrom_0 (by decide) ?_
  refine g_istore_n B dX8_unstruckFrom_1 rfl (Nat.le_of_ble_eq_true rfl) (s1_c (f1_k rfl (f1_k rfl (f1_1 rfl rfl f1_n)))) ?_
  refine g_iload_n B 2 dX8_unstruckFrom_2 rfl rfl ?_
  refine g_istore B dX8_unstruckFrom_3 (Nat.le_of_ble_eq_true rfl) (s1_c (f1_1 rfl rfl (f1_k rfl (f1_k rfl (f1_k rfl f1_n))))) ?_
  replace h := bnP_s h
  obtain ⟨r2, h3, h⟩ := h
  have kE4 : GW Δ Γ (0) (0) 32 [(3, .int r2)] [] σ := by
    refine g_iload_n B 0 dX8_unstruckFrom_32 rfl rfl ?_
    replace h := Option.some.inj h
    subst h
    exact g_iret B hE (Nat.zero_le _) (Nat.zero_le _) dX8_unstruckFrom_33
  clear h
  refine g_sub [2, 3, 4, 1, 0] rfl ?_
  refine lpP_w (I := fun q1 => GW Δ Γ (0) (0) 5 [(0, va_rf v0), (1, .int v1), (2, .int v2), (3, .int q1.1), (4, .int q1.2)] [] σ) (r := r2) ?_ FUEL (0, v1) h3
  intro q1 x8 h hI6 hR7
  unfold fX8_unstruckFrom_l1 at h
  obtain ⟨qv10, qv11⟩ := q1
  show GW Δ Γ (0) (0) 5 [(0, va_rf v0), (1, .int v1), (2, .int v2), (3, .int qv10), (4, .int qv11)] [] σ
  dsimp only at h
  refine g_iload B 4 dX8_unstruckFrom_5 rfl ?_
  refine g_iload_n B 1 dX8_unstruckFrom_7 rfl rfl ?_
  refine g_iload_n B 2 dX8_unstruckFrom_8 rfl rfl ?_
  refine g_iadd B dX8_unstruckFrom_9 ?_
  refine g_icmp_ge B 32 dX8_unstruckFrom_10 (by decide) (fun hc => ?_) (fun hc => ?_)
  · replace h := ifp hc h
    replace h := Option.some.inj h
    subst h
    have e8 := hR7 _ rfl
    subst e8
    exact g_sub [3] rfl kE4
  · replace h := ifn hc h
    refine g_aload_n B 0 dX8_unstruckFrom_13 rfl rfl ?_
    replace h := bnP_s h
    obtain ⟨x12, h13, h⟩ := h
    refine g_getR B fl_RX8_22 (by decide) dX8_unstruckFrom_14 h13 ?_
    refine g_iload B 4 dX8_unstruckFrom_17 rfl ?_
    replace h := bnP_s h
    obtain ⟨x14, h15, h⟩ := h
    refine g_zald B dX8_unstruckFrom_19 h15 ?_
    refine g_if_ne B 26 dX8_unstruckFrom_20 (by decide) (fun hc => ?_) (fun hc => ?_)
    · replace h := ifn hc h
      refine g_iinc (v := (qv11 + 1)) B 4 dX8_unstruckFrom_26 rfl (by first | rfl | (congr 1; decide)) (Nat.le_of_ble_eq_true rfl) (s1_c (f1_k rfl (f1_k rfl (f1_k rfl (f1_1 rfl rfl (f1_x f1_n)))))) ?_
      refine g_goto B 5 dX8_unstruckFrom_29 (by decide) ?_
      replace h := Option.some.inj h
      subst h
      exact g_sub [1, 2, 3, 4, 0] rfl (hI6 (qv10, (qv11 + 1)) rfl)
    · replace h := ifp hc h
      refine g_iinc (v := (qv10 + 1)) B 3 dX8_unstruckFrom_23 rfl (by first | rfl | (congr 1; decide)) (Nat.le_of_ble_eq_true rfl) (s1_c (f1_k rfl (f1_k rfl (f1_1 rfl rfl (f1_x (f1_k rfl f1_n)))))) ?_
      refine g_iinc (v := (qv11 + 1)) B 4 dX8_unstruckFrom_26 rfl (by first | rfl | (congr 1; decide)) (Nat.le_of_ble_eq_true rfl) (s1_c (f1_1 rfl rfl (f1_k rfl (f1_k rfl (f1_k rfl (f1_x f1_n)))))) ?_
      refine g_goto B 5 dX8_unstruckFrom_29 (by decide) ?_
      replace h := Option.some.inj h
      subst h
      exact g_sub [2, 3, 4, 1, 0] rfl (hI6 ((qv10 + 1), (qv11 + 1)) rfl)
set_option maxRecDepth 100000 in
set_option maxHeartbeats 4000000 in
theorem cX8_standingFromc {l : Launch} {v0 : Option Nat} {v1 : Int32} {v2 : Int32} {σ : HpT} {r : Int32} (h : fX8_standingFrom v0 v1 v2 σ = some r) : IsK σ v0 8 ∧ Ct l yX8_standingFrom cX8_standingFrom 5 (some .int) 1 24 [va_rf v0, .int v1, .int v2] σ (.ok (some (.int r))) σ 0 0 := by
  unfold fX8_standingFrom at h
  replace h := bnP_s h
  obtain ⟨u, hk, h⟩ := h
  replace hk := isK_s hk
  refine ⟨hk, ?_⟩
  refine ct_start mi_X8_standingFrom.1 rfl (al_le (al_1 (rf_cat _) (al_1 rfl (al_1 rfl al_n))) (Nat.le_of_ble_eq_true rfl)) (ag_1 (rf_cat _) (ag_1 rfl (ag_1 rfl ag_n))) (fun Δ Γ B hE hnm => ?_)
  refine g_aload_n B 0 dX8_standingFrom_0 rfl rfl ?_
  refine g_iload_n B 1 dX8_standingFrom_1 rfl rfl ?_
  refine g_iload_n B 2 dX8_standingFrom_2 rfl rfl ?_
  replace h := bnP_s h
  obtain ⟨x1, h2, h⟩ := h
  refine g_callVs0 (st := []) B (cX8_unstruckFromc h2) (Nat.le_of_ble_eq_true rfl) rfl rfl mi_X8_unstruckFrom lk_RX8_42 ⟨Nat.le_of_ble_eq_true rfl, Nat.le_of_ble_eq_true rfl⟩ rfl rfl (Nat.le_of_ble_eq_true rfl) dX8_standingFrom_3 (Nat.zero_le _) (Nat.zero_le _) ?_
  refine g_istore_n B dX8_standingFrom_6 rfl (Nat.le_of_ble_eq_true rfl) (s1_c (f1_k rfl (f1_k rfl (f1_1 rfl rfl f1_n)))) ?_
  refine g_iload_n B 2 dX8_standingFrom_7 rfl rfl ?_
  refine g_istore B dX8_standingFrom_8 (Nat.le_of_ble_eq_true rfl) (s1_c (f1_1 rfl rfl (f1_k rfl (f1_k rfl (f1_k rfl f1_n))))) ?_
  replace h := bnP_s h
  obtain ⟨r4, h5, h⟩ := h
  have kE6 : GW Δ Γ (0) (0) 34 [(3, .int r4)] [] σ := by
    refine g_iload_n B 0 dX8_standingFrom_34 rfl rfl ?_
    replace h := Option.some.inj h
    subst h
    exact g_iret B hE (Nat.zero_le _) (Nat.zero_le _) dX8_standingFrom_35
  clear h
  refine g_sub [2, 3, 4, 1, 0] rfl ?_
  refine lpP_w (I := fun q3 => GW Δ Γ (0) (0) 10 [(0, va_rf v0), (1, .int v1), (2, .int v2), (3, .int q3.1), (4, .int q3.2)] [] σ) (r := r4) ?_ FUEL (x1, v1) h5
  intro q3 x10 h hI8 hR9
  unfold fX8_standingFrom_l1 at h
  refine g_iload B 4 dX8_standingFrom_10 rfl ?_
  refine g_iload_n B 1 dX8_standingFrom_12 rfl rfl ?_
  refine g_iload_n B 2 dX8_standingFrom_13 rfl rfl ?_
  refine g_iadd B dX8_standingFrom_14 ?_
  refine g_icmp_ge B 34 dX8_standingFrom_15 (by decide) (fun hc => ?_) (fun hc => ?_)
  · replace h := ifp hc h
    replace h := Option.some.inj h
    subst h
    have e8 := hR9 _ rfl
    subst e8
    exact g_sub [3] rfl kE6
  · replace h := ifn hc h
    refine g_iload_n B 3 dX8_standingFrom_18 rfl rfl ?_
    refine g_aload_n B 0 dX8_standingFrom_19 rfl rfl ?_
    replace h := bnP_s h
    obtain ⟨x12, h13, h⟩ := h
    refine g_getR B fl_RX8_26 (by decide) dX8_standingFrom_20 h13 ?_
    refine g_iload B 4 dX8_standingFrom_23 rfl ?_
    replace h := bnP_s h
    obtain ⟨x14, h15, h⟩ := h
    refine g_iald B dX8_standingFrom_25 h15 ?_
    refine g_iadd B dX8_standingFrom_26 ?_
    refine g_istore_n B dX8_standingFrom_27 rfl (Nat.le_of_ble_eq_true rfl) (s1_c (f1_k rfl (f1_k rfl (f1_1 rfl rfl (f1_x (f1_k rfl f1_n)))))) ?_
    refine g_iinc (v := (q3.2 + 1)) B 4 dX8_standingFrom_28 rfl (by first | rfl | (congr 1; decide)) (Nat.le_of_ble_eq_true rfl) (s1_c (f1_1 rfl rfl (f1_k rfl (f1_k rfl (f1_k rfl (f1_x f1_n)))))) ?_
    refine g_goto B 10 dX8_standingFrom_31 (by decide) ?_
    replace h := Option.some.inj h
    subst h
    exact g_sub [2, 3, 4, 1, 0] rfl (hI8 _ rfl)
set_option maxRecDepth 100000 in
set_option maxHeartbeats 4000000 in
theorem cX1_openStandingc {l : Launch} {v0 : Option Nat} {σ : HpT} {r : Int32} (h : fX1_openStanding v0 σ = some r) : IsK σ v0 1 ∧ Ct l yX1_openStanding cX1_openStanding 2 (some .int) 2 48 [va_rf v0] σ (.ok (some (.int r))) σ 0 0 := by
  unfold fX1_openStanding at h
  replace h := bnP_s h
  obtain ⟨u, hk, h⟩ := h
  replace hk := isK_s hk
  refine ⟨hk, ?_⟩
  refine ct_start mi_X1_openStanding.1 rfl (al_le (al_1 (rf_cat _) al_n) (Nat.le_of_ble_eq_true rfl)) (ag_1 (rf_cat _) ag_n) (fun Δ Γ B hE hnm => ?_)
  refine g_aload_n B 0 dX1_openStanding_0 rfl rfl ?_
  replace h := bnP_s h
  obtain ⟨x1, h2, h⟩ := h
  refine g_callVs0 (st := []) B (cX1_openActc h2) (Nat.le_of_ble_eq_true rfl) rfl rfl mi_X1_openAct lk_RX1_87 ⟨Nat.le_of_ble_eq_true rfl, Nat.le_of_ble_eq_true rfl⟩ rfl rfl (Nat.le_of_ble_eq_true rfl) dX1_openStanding_1 (Nat.zero_le _) (Nat.zero_le _) ?_
  refine g_astore_n B dX1_openStanding_4 rfl (Nat.le_of_ble_eq_true rfl) (s1_c (f1_1 rfl (rf_cat _) f1_n)) ?_
  refine g_aload_n B 0 dX1_openStanding_5 rfl rfl ?_
  refine g_ifnonnull B 13 dX1_openStanding_6 (by decide) (fun hc => ?_) (fun hc => ?_)
  · replace h := ifn hc h
    refine g_aload_n B 1 dX1_openStanding_13 rfl rfl ?_
    replace h := bnP_s h
    obtain ⟨x3, h4, h⟩ := h
    refine g_getR B fl_RX1_24 (by decide) dX1_openStanding_14 h4 ?_
    refine g_aload_n B 0 dX1_openStanding_17 rfl rfl ?_
    replace h := bnP_s h
    obtain ⟨x5, h6, h⟩ := h
    refine g_getI B fl_RX1_92 (by decide) dX1_openStanding_18 h6 ?_
    refine g_aload_n B 0 dX1_openStanding_21 rfl rfl ?_
    replace h := bnP_s h
    obtain ⟨x7, h8, h⟩ := h
    refine g_getI B fl_RX1_91 (by decide) dX1_openStanding_22 h8 ?_
    replace h := bnP_s h
    obtain ⟨x9, h10, h⟩ := h
    refine g_callVs0 (st := []) B (cX8_standingFromc h10) (Nat.le_of_ble_eq_true rfl) rfl rfl mi_X8_standingFrom lk_RX1_95 ⟨Nat.le_of_ble_eq_true rfl, Nat.le_of_ble_eq_true rfl⟩ rfl rfl (Nat.le_of_ble_eq_true rfl) dX1_openStanding_25 (Nat.zero_le _) (Nat.zero_le _) ?_
    replace h := Option.some.inj h
    subst h
    exact g_iret B hE (Nat.zero_le _) (Nat.zero_le _) dX1_openStanding_28
  · replace h := ifp hc h
    refine g_iconst (v := 0) B dX1_openStanding_9 (by decide) ?_
    refine g_goto B 28 dX1_openStanding_10 (by decide) ?_
    replace h := Option.some.inj h
    subst h
    exact g_iret B hE (Nat.zero_le _) (Nat.zero_le _) dX1_openStanding_28
set_option maxRecDepth 100000 in
set_option maxHeartbeats 4000000 in
theorem cX1_marksOfAllc {l : Launch} {v0 : Option Nat} {σ : HpT} {r : Int32} (h : fX1_marksOfAll v0 σ = some r) : IsK σ v0 1 ∧ Ct l yX1_marksOfAll cX1_marksOfAll 3 (some .int) 0 0 [va_rf v0] σ (.ok (some (.int r))) σ 0 0 := by
  unfold fX1_marksOfAll at h
  replace h := bnP_s h
  obtain ⟨u, hk, h⟩ := h
  replace hk := isK_s hk
  refine ⟨hk, ?_⟩
  refine ct_start mi_X1_marksOfAll.1 rfl (al_le (al_1 (rf_cat _) al_n) (Nat.le_of_ble_eq_true rfl)) (ag_1 (rf_cat _) ag_n) (fun Δ Γ B hE hnm => ?_)
  refine g_iconst (v := 0) B dX1_marksOfAll_0 (by decide) ?_
  refine g_istore_n B dX1_marksOfAll_1 rfl (Nat.le_of_ble_eq_true rfl) (s1_c (f1_1 rfl (rf_cat _) f1_n)) ?_
  refine g_iconst (v := 0) B dX1_marksOfAll_2 (by decide) ?_
  refine g_istore_n B dX1_marksOfAll_3 rfl (Nat.le_of_ble_eq_true rfl) (s1_c (f1_1 rfl rfl (f1_k rfl f1_n))) ?_
  replace h := bnP_s h
  obtain ⟨r2, h3, h⟩ := h
  have kE4 : GW Δ Γ (0) (0) 30 [(1, .int r2)] [] σ := by
    refine g_iload_n B 0 dX1_marksOfAll_30 rfl rfl ?_
    replace h := Option.some.inj h
    subst h
    exact g_iret B hE (Nat.zero_le _) (Nat.zero_le _) dX1_marksOfAll_31
  clear h
  refine g_sub [2, 1, 0] rfl ?_
  refine lpP_w (I := fun q1 => GW Δ Γ (0) (0) 4 [(0, va_rf v0), (1, .int q1.1), (2, .int q1.2)] [] σ) (r := r2) ?_ FUEL (0, 0) h3
  intro q1 x8 h hI6 hR7
  unfold fX1_marksOfAll_l1 at h
  refine g_iload_n B 2 dX1_marksOfAll_4 rfl rfl ?_
  refine g_aload_n B 0 dX1_marksOfAll_5 rfl rfl ?_
  replace h := bnP_s h
  obtain ⟨x10, h11, h⟩ := h
  refine g_getI B fl_RX1_55 (by decide) dX1_marksOfAll_6 h11 ?_
  refine g_icmp_ge B 30 dX1_marksOfAll_9 (by decide) (fun hc => ?_) (fun hc => ?_)
  · replace h := ifp hc h
    replace h := Option.some.inj h
    subst h
    have e8 := hR7 _ rfl
    subst e8
    exact g_sub [1] rfl kE4
  · replace h := ifn hc h
    refine g_iload_n B 1 dX1_marksOfAll_12 rfl rfl ?_
    refine g_aload_n B 0 dX1_marksOfAll_13 rfl rfl ?_
    replace h := bnP_s h
    obtain ⟨x12, h13, h⟩ := h
    refine g_getR B fl_RX1_11 (by decide) dX1_marksOfAll_14 h13 ?_
    refine g_iload_n B 2 dX1_marksOfAll_17 rfl rfl ?_
    replace h := bnP_s h
    obtain ⟨x14, h15, h⟩ := h
    refine g_ralds B (κ := 25) (by decide) rfl dX1_marksOfAll_18 h15 ?_
    replace h := bnP_s h
    obtain ⟨x16, h17, h⟩ := h
    refine g_getI B fl_RX1_99 (by decide) dX1_marksOfAll_19 h17 ?_
    refine g_iadd B dX1_marksOfAll_22 ?_
    refine g_istore_n B dX1_marksOfAll_23 rfl (Nat.le_of_ble_eq_true rfl) (s1_c (f1_1 rfl (rf_cat _) (f1_x (f1_k rfl f1_n)))) ?_
    refine g_iinc (v := (q1.2 + 1)) B 2 dX1_marksOfAll_24 rfl (by first | rfl | (congr 1; decide)) (Nat.le_of_ble_eq_true rfl) (s1_c (f1_1 rfl rfl (f1_k rfl (f1_x f1_n)))) ?_
    refine g_goto B 4 dX1_marksOfAll_27 (by decide) ?_
    replace h := Option.some.inj h
    subst h
    exact g_sub [2, 1, 0] rfl (hI6 _ rfl)
set_option maxRecDepth 100000 in
set_option maxHeartbeats 4000000 in
theorem cX1_actsAtc {l : Launch} {v0 : Option Nat} {v1 : Int32} {σ : HpT} {r : Int32} (h : fX1_actsAt v0 v1 σ = some r) : IsK σ v0 1 ∧ Ct l yX1_actsAt cX1_actsAt 4 (some .int) 0 0 [va_rf v0, .int v1] σ (.ok (some (.int r))) σ 0 0 := by
  unfold fX1_actsAt at h
  replace h := bnP_s h
  obtain ⟨u, hk, h⟩ := h
  replace hk := isK_s hk
  refine ⟨hk, ?_⟩
  refine ct_start mi_X1_actsAt.1 rfl (al_le (al_1 (rf_cat _) (al_1 rfl al_n)) (Nat.le_of_ble_eq_true rfl)) (ag_1 (rf_cat _) (ag_1 rfl ag_n)) (fun Δ Γ B hE hnm => ?_)
  refine g_iconst (v := 0) B dX1_actsAt_0 (by decide) ?_
  refine g_istore_n B dX1_actsAt_1 rfl (Nat.le_of_ble_eq_true rfl) (s1_c (f1_k rfl (f1_1 rfl rfl f1_n))) ?_
  refine g_iconst (v := 0) B dX1_actsAt_2 (by decide) ?_
  refine g_istore_n B dX1_actsAt_3 rfl (Nat.le_of_ble_eq_true rfl) (s1_c (f1_1 rfl rfl (f1_k rfl (f1_k rfl f1_n)))) ?_
  replace h := bnP_s h
  obtain ⟨r2, h3, h⟩ := h
  have kE4 : GW Δ Γ (0) (0) 34 [(2, .int r2)] [] σ := by
    refine g_iload_n B 0 dX1_actsAt_34 rfl rfl ?_
    replace h := Option.some.inj h
    subst h
    exact g_iret B hE (Nat.zero_le _) (Nat.zero_le _) dX1_actsAt_35
  clear h
  refine g_sub [2, 3, 1, 0] rfl ?_
  refine lpP_w (I := fun q1 => GW Δ Γ (0) (0) 4 [(0, va_rf v0), (1, .int v1), (2, .int q1.1), (3, .int q1.2)] [] σ) (r := r2) ?_ FUEL (0, 0) h3
  intro q1 x8 h hI6 hR7
  unfold fX1_actsAt_l1 at h
  obtain ⟨qv10, qv11⟩ := q1
  show GW Δ Γ (0) (0) 4 [(0, va_rf v0), (1, .int v1), (2, .int qv10), (3, .int qv11)] [] σ
  dsimp only at h
  refine g_iload_n B 3 dX1_actsAt_4 rfl rfl ?_
  refine g_aload_n B 0 dX1_actsAt_5 rfl rfl ?_
  replace h := bnP_s h
  obtain ⟨x12, h13, h⟩ := h
  refine g_getI B fl_RX1_55 (by decide) dX1_actsAt_6 h13 ?_
  refine g_icmp_ge B 34 dX1_actsAt_9 (by decide) (fun hc => ?_) (fun hc => ?_)
  · replace h := ifp hc h
    replace h := Option.some.inj h
    subst h
    have e8 := hR7 _ rfl
    subst e8
    exact g_sub [2] rfl kE4
  · replace h := ifn hc h
    refine g_aload_n B 0 dX1_actsAt_12 rfl rfl ?_
    replace h := bnP_s h
    obtain ⟨x14, h15, h⟩ := h
    refine g_getR B fl_RX1_11 (by decide) dX1_actsAt_13 h15 ?_
    refine g_iload_n B 3 dX1_actsAt_16 rfl rfl ?_
    replace h := bnP_s h
    obtain ⟨x16, h17, h⟩ := h
    refine g_ralds B (κ := 25) (by decide) rfl dX1_actsAt_17 h17 ?_
    replace h := bnP_s h
    obtain ⟨x18, h19, h⟩ := h
    refine g_getI B fl_RX1_84 (by decide) dX1_actsAt_18 h19 ?_
    refine g_iload_n B 1 dX1_actsAt_21 rfl rfl ?_
    refine g_icmp_ne B 28 dX1_actsAt_22 (by decide) (fun hc => ?_) (fun hc => ?_)
    · replace h := ifn hc h
      refine g_iinc (v := (qv11 + 1)) B 3 dX1_actsAt_28 rfl (by first | rfl | (congr 1; decide)) (Nat.le_of_ble_eq_true rfl) (s1_c (f1_k rfl (f1_k rfl (f1_1 rfl rfl (f1_x f1_n))))) ?_
      refine g_goto B 4 dX1_actsAt_31 (by decide) ?_
      replace h := Option.some.inj h
      subst h
      exact g_sub [1, 2, 3, 0] rfl (hI6 (qv10, (qv11 + 1)) rfl)
    · replace h := ifp hc h
      refine g_iinc (v := (qv10 + 1)) B 2 dX1_actsAt_25 rfl (by first | rfl | (congr 1; decide)) (Nat.le_of_ble_eq_true rfl) (s1_c (f1_k rfl (f1_1 rfl rfl (f1_x (f1_k rfl f1_n))))) ?_
      refine g_iinc (v := (qv11 + 1)) B 3 dX1_actsAt_28 rfl (by first | rfl | (congr 1; decide)) (Nat.le_of_ble_eq_true rfl) (s1_c (f1_1 rfl rfl (f1_k rfl (f1_k rfl (f1_x f1_n))))) ?_
      refine g_goto B 4 dX1_actsAt_31 (by decide) ?_
      replace h := Option.some.inj h
      subst h
      exact g_sub [2, 3, 1, 0] rfl (hI6 ((qv10 + 1), (qv11 + 1)) rfl)
set_option maxRecDepth 100000 in
set_option maxHeartbeats 4000000 in
theorem cX8_depthOfc {l : Launch} {v0 : Option Nat} {v1 : Int32} {v2 : Int32} {σ : HpT} {r : Int32} (h : fX8_depthOf v0 v1 v2 σ = some r) : IsK σ v0 8 ∧ Ct l yX8_depthOf cX8_depthOf 5 (some .int) 0 0 [va_rf v0, .int v1, .int v2] σ (.ok (some (.int r))) σ 0 0 := by
  unfold fX8_depthOf at h
  replace h := bnP_s h
  obtain ⟨u, hk, h⟩ := h
  replace hk := isK_s hk
  refine ⟨hk, ?_⟩
  refine ct_start mi_X8_depthOf.1 rfl (al_le (al_1 (rf_cat _) (al_1 rfl (al_1 rfl al_n))) (Nat.le_of_ble_eq_true rfl)) (ag_1 (rf_cat _) (ag_1 rfl (ag_1 rfl ag_n))) (fun Δ Γ B hE hnm => ?_)
  refine g_aload_n B 0 dX8_depthOf_0 rfl rfl ?_
  replace h := bnP_s h
  obtain ⟨x1, h2, h⟩ := h
  refine g_getR B fl_RX8_15 (by decide) dX8_depthOf_1 h2 ?_
  refine g_iload_n B 2 dX8_depthOf_4 rfl rfl ?_
  replace h := bnP_s h
  obtain ⟨x3, h4, h⟩ := h
  refine g_iald B dX8_depthOf_5 h4 ?_
  refine g_istore_n B dX8_depthOf_6 rfl (Nat.le_of_ble_eq_true rfl) (s1_c (f1_k rfl (f1_k rfl (f1_1 rfl rfl f1_n)))) ?_
  refine g_iload_n B 2 dX8_depthOf_7 rfl rfl ?_
  refine g_istore B dX8_depthOf_8 (Nat.le_of_ble_eq_true rfl) (s1_c (f1_1 rfl rfl (f1_k rfl (f1_k rfl (f1_k rfl f1_n))))) ?_
  replace h := bnP_s h
  obtain ⟨r6, h7, h⟩ := h
  have kE8 : GW Δ Γ (0) (0) 40 [(3, .int r6)] [] σ := by
    refine g_iload_n B 0 dX8_depthOf_40 rfl rfl ?_
    replace h := Option.some.inj h
    subst h
    exact g_iret B hE (Nat.zero_le _) (Nat.zero_le _) dX8_depthOf_41
  clear h
  refine g_sub [2, 4, 1, 0] rfl ?_
  refine lpP_w (I := fun q5 => GW Δ Γ (0) (0) 10 [(0, va_rf v0), (2, .int v2), (3, .int q5.1), (4, .int q5.2)] [] σ) (r := r6) ?_ FUEL (x3, v1) h7
  intro q5 x12 h hI10 hR11
  unfold fX8_depthOf_l1 at h
  refine g_iload B 3 dX8_depthOf_10 rfl ?_
  refine g_iload_n B 1 dX8_depthOf_12 rfl rfl ?_
  refine g_icmp_ge B 40 dX8_depthOf_13 (by decide) (fun hc => ?_) (fun hc => ?_)
  · replace h := ifp hc h
    replace h := Option.some.inj h
    subst h
    have e8 := hR11 _ rfl
    subst e8
    exact g_sub [2] rfl kE8
  · replace h := ifn hc h
    refine g_iload_n B 2 dX8_depthOf_16 rfl rfl ?_
    refine g_aload_n B 0 dX8_depthOf_17 rfl rfl ?_
    replace h := bnP_s h
    obtain ⟨x14, h15, h⟩ := h
    refine g_getR B fl_RX8_15 (by decide) dX8_depthOf_18 h15 ?_
    refine g_iload B 3 dX8_depthOf_21 rfl ?_
    replace h := bnP_s h
    obtain ⟨x16, h17, h⟩ := h
    refine g_iald B dX8_depthOf_23 h17 ?_
    refine g_aload_n B 0 dX8_depthOf_24 rfl rfl ?_
    replace h := bnP_s h
    obtain ⟨x18, h19, h⟩ := h
    refine g_getR B fl_RX8_19 (by decide) dX8_depthOf_25 h19 ?_
    refine g_iload B 3 dX8_depthOf_28 rfl ?_
    replace h := bnP_s h
    obtain ⟨x20, h21, h⟩ := h
    refine g_iald B dX8_depthOf_30 h21 ?_
    refine g_isub B dX8_depthOf_31 ?_
    refine g_iadd B dX8_depthOf_32 ?_
    refine g_istore_n B dX8_depthOf_33 rfl (Nat.le_of_ble_eq_true rfl) (s1_c (f1_k rfl (f1_1 rfl rfl (f1_x (f1_k rfl f1_n))))) ?_
    refine g_iinc (v := (q5.2 + 1)) B 3 dX8_depthOf_34 rfl (by first | rfl | (congr 1; decide)) (Nat.le_of_ble_eq_true rfl) (s1_c (f1_1 rfl rfl (f1_k rfl (f1_k rfl (f1_x f1_n))))) ?_
    refine g_goto B 10 dX8_depthOf_37 (by decide) ?_
    replace h := Option.some.inj h
    subst h
    exact g_sub [2, 3, 1, 0] rfl (hI10 _ rfl)
set_option maxRecDepth 100000 in
set_option maxHeartbeats 4000000 in
theorem cX8_innermostOfc {l : Launch} {v0 : Option Nat} {v1 : Int32} {v2 : Int32} {σ : HpT} {r : Int32} (h : fX8_innermostOf v0 v1 v2 σ = some r) : IsK σ v0 8 ∧ Ct l yX8_innermostOf cX8_innermostOf 8 (some .int) 1 24 [va_rf v0, .int v1, .int v2] σ (.ok (some (.int r))) σ 0 0 := by
  unfold fX8_innermostOf at h
  replace h := bnP_s h
  obtain ⟨u, hk, h⟩ := h
  replace hk := isK_s hk
  refine ⟨hk, ?_⟩
  refine ct_start mi_X8_innermostOf.1 rfl (al_le (al_1 (rf_cat _) (al_1 rfl (al_1 rfl al_n))) (Nat.le_of_ble_eq_true rfl)) (ag_1 (rf_cat _) (ag_1 rfl (ag_1 rfl ag_n))) (fun Δ Γ B hE hnm => ?_)
  refine g_aload_n B 0 dX8_innermostOf_0 rfl rfl ?_
  refine g_iload_n B 1 dX8_innermostOf_1 rfl rfl ?_
  refine g_iload_n B 2 dX8_innermostOf_2 rfl rfl ?_
  replace h := bnP_s h
  obtain ⟨x1, h2, h⟩ := h
  refine g_callVs0 (st := []) B (cX8_depthOfc h2) (Nat.le_of_ble_eq_true rfl) rfl rfl mi_X8_depthOf lk_RX8_64 ⟨Nat.le_of_ble_eq_true rfl, Nat.le_of_ble_eq_true rfl⟩ rfl rfl (Nat.le_of_ble_eq_true rfl) dX8_innermostOf_3 (Nat.zero_le _) (Nat.zero_le _) ?_
  refine g_istore_n B dX8_innermostOf_6 rfl (Nat.le_of_ble_eq_true rfl) (s1_c (f1_k rfl (f1_k rfl (f1_1 rfl rfl f1_n)))) ?_
  refine g_iconst (v := (-1)) B dX8_innermostOf_7 (by decide) ?_
  refine g_istore B dX8_innermostOf_8 (Nat.le_of_ble_eq_true rfl) (s1_c (f1_1 rfl rfl (f1_k rfl (f1_k rfl (f1_k rfl f1_n))))) ?_
  refine g_iconst (v := 0) B dX8_innermostOf_10 (by decide) ?_
  refine g_istore B dX8_innermostOf_11 (Nat.le_of_ble_eq_true rfl) (s1_c (f1_1 rfl rfl (f1_k rfl (f1_k rfl (f1_k rfl (f1_k rfl f1_n)))))) ?_
  refine g_iconst (v := 0) B dX8_innermostOf_13 (by decide) ?_
  refine g_istore B dX8_innermostOf_14 (Nat.le_of_ble_eq_true rfl) (s1_c (f1_1 rfl rfl (f1_k rfl (f1_k rfl (f1_k rfl (f1_k rfl (f1_k rfl f1_n))))))) ?_
  refine g_iload_n B 5 dX8_innermostOf_16 rfl rfl ?_
  refine g_istore B dX8_innermostOf_17 (Nat.le_of_ble_eq_true rfl) (s1_c (f1_1 rfl rfl (f1_k rfl (f1_k rfl (f1_k rfl (f1_k rfl (f1_k rfl (f1_k rfl f1_n)))))))) ?_
  replace h := bnP_s h
  obtain ⟨r4, h5, h⟩ := h
  have kE6 : GW Δ Γ (0) (0) 94 [(4, .int r4)] [] σ := by
    refine g_iload B 0 dX8_innermostOf_94 rfl ?_
    replace h := Option.some.inj h
    subst h
    exact g_iret B hE (Nat.zero_le _) (Nat.zero_le _) dX8_innermostOf_96
  clear h
  refine g_sub [5, 7, 4, 3, 2, 1, 0] rfl ?_
  refine lpP_w (I := fun q3 => GW Δ Γ (0) (0) 19 [(0, va_rf v0), (2, .int v2), (3, .int x1), (4, .int q3.1), (5, .int q3.2.1), (6, .int q3.2.2.1), (7, .int q3.2.2.2)] [] σ) (r := r4) ?_ FUEL ((-1), 0, 0, v1) h5
  intro q3 x10 h hI8 hR9
  unfold fX8_innermostOf_l1 at h
  refine g_iload B 6 dX8_innermostOf_19 rfl ?_
  refine g_iload_n B 1 dX8_innermostOf_21 rfl rfl ?_
  refine g_icmp_gt B 94 dX8_innermostOf_22 (by decide) (fun hc => ?_) (fun hc => ?_)
  · replace h := ifp hc h
    replace h := Option.some.inj h
    subst h
    have e8 := hR9 _ rfl
    subst e8
    exact g_sub [3] rfl kE6
  · replace h := ifn hc h
    refine g_iload B 5 dX8_innermostOf_25 rfl ?_
    refine g_iload_n B 2 dX8_innermostOf_27 rfl rfl ?_
    replace h := bnP_s h
    obtain ⟨j12, h13, h⟩ := h
    have k15 : GW Δ Γ (0) (0) 56 [(0, va_rf v0), (2, .int v2), (3, .int x1), (4, .int j12), (5, .int q3.2.1), (6, .int q3.2.2.1), (7, .int q3.2.2.2)] [] σ := by
      refine g_iload B 4 dX8_innermostOf_56 rfl ?_
      refine g_aload_n B 0 dX8_innermostOf_58 rfl rfl ?_
      replace h := bnP_s h
      obtain ⟨x21, h22, h⟩ := h
      refine g_getR B fl_RX8_15 (by decide) dX8_innermostOf_59 h22 ?_
      refine g_iload B 6 dX8_innermostOf_62 rfl ?_
      replace h := bnP_s h
      obtain ⟨x23, h24, h⟩ := h
      refine g_iald B dX8_innermostOf_64 h24 ?_
      refine g_iadd B dX8_innermostOf_65 ?_
      refine g_istore B dX8_innermostOf_66 (Nat.le_of_ble_eq_true rfl) (s1_c (f1_k rfl (f1_k rfl (f1_k rfl (f1_1 rfl rfl (f1_x (f1_k rfl (f1_k rfl f1_n)))))))) ?_
      refine g_iload B 5 dX8_innermostOf_68 rfl ?_
      refine g_aload_n B 1 dX8_innermostOf_70 rfl rfl ?_
      replace h := bnP_s h
      obtain ⟨x25, h26, h⟩ := h
      refine g_getR B fl_RX8_15 (by decide) dX8_innermostOf_71 h26 ?_
      refine g_iload B 6 dX8_innermostOf_74 rfl ?_
      replace h := bnP_s h
      obtain ⟨x27, h28, h⟩ := h
      refine g_iald B dX8_innermostOf_76 h28 ?_
      refine g_aload_n B 1 dX8_innermostOf_77 rfl rfl ?_
      replace h := bnP_s h
      obtain ⟨x29, h30, h⟩ := h
      refine g_getR B fl_RX8_19 (by decide) dX8_innermostOf_78 h30 ?_
      refine g_iload B 6 dX8_innermostOf_81 rfl ?_
      replace h := bnP_s h
      obtain ⟨x31, h32, h⟩ := h
      refine g_iald B dX8_innermostOf_83 h32 ?_
      refine g_isub B dX8_innermostOf_84 ?_
      refine g_iadd B dX8_innermostOf_85 ?_
      refine g_istore B dX8_innermostOf_86 (Nat.le_of_ble_eq_true rfl) (s1_c (f1_1 rfl rfl (f1_k rfl (f1_k rfl (f1_k rfl (f1_k rfl (f1_x (f1_k rfl f1_n)))))))) ?_
      refine g_iinc (v := (q3.2.2.2 + 1)) B 6 dX8_innermostOf_88 rfl (by first | rfl | (congr 1; decide)) (Nat.le_of_ble_eq_true rfl) (s1_c (f1_1 rfl rfl (f1_k rfl (f1_k rfl (f1_k rfl (f1_k rfl (f1_k rfl (f1_x f1_n)))))))) ?_
      refine g_goto B 19 dX8_innermostOf_91 (by decide) ?_
      replace h := Option.some.inj h
      subst h
      exact g_sub [3, 4, 5, 6, 2, 1, 0] rfl (hI8 _ rfl)
    clear h
    have h := h13
    clear h13
    refine g_icmp_ge B 56 dX8_innermostOf_28 (by decide) (fun hc => ?_) (fun hc => ?_)
    · replace h := ifp hc h
      replace h := Option.some.inj h
      subst h
      exact g_sub [0, 1, 2, 3, 4, 5, 6] rfl k15
    · replace h := ifn hc h
      refine g_iload B 5 dX8_innermostOf_31 rfl ?_
      refine g_aload_n B 0 dX8_innermostOf_33 rfl rfl ?_
      replace h := bnP_s h
      obtain ⟨x17, h18, h⟩ := h
      refine g_getR B fl_RX8_15 (by decide) dX8_innermostOf_34 h18 ?_
      refine g_iload B 6 dX8_innermostOf_37 rfl ?_
      replace h := bnP_s h
      obtain ⟨x19, h20, h⟩ := h
      refine g_iald B dX8_innermostOf_39 h20 ?_
      refine g_iadd B dX8_innermostOf_40 ?_
      refine g_iload_n B 2 dX8_innermostOf_41 rfl rfl ?_
      refine g_icmp_lt B 56 dX8_innermostOf_42 (by decide) (fun hc => ?_) (fun hc => ?_)
      · replace h := ifp hc h
        replace h := Option.some.inj h
        subst h
        exact g_sub [0, 1, 2, 3, 4, 5, 6] rfl k15
      · replace h := ifn hc h
        refine g_iload B 4 dX8_innermostOf_45 rfl ?_
        refine g_iload_n B 2 dX8_innermostOf_47 rfl rfl ?_
        refine g_iadd B dX8_innermostOf_48 ?_
        refine g_iload B 5 dX8_innermostOf_49 rfl ?_
        refine g_isub B dX8_innermostOf_51 ?_
        refine g_iconst (v := 1) B dX8_innermostOf_52 (by decide) ?_
        refine g_isub B dX8_innermostOf_53 ?_
        refine g_istore B dX8_innermostOf_54 (Nat.le_of_ble_eq_true rfl) (s1_c (f1_k rfl (f1_k rfl (f1_1 rfl rfl (f1_x (f1_k rfl (f1_k rfl (f1_k rfl f1_n)))))))) ?_
        replace h := Option.some.inj h
        subst h
        exact g_sub [1, 2, 3, 0, 4, 5, 6] rfl k15
set_option maxRecDepth 100000 in
set_option maxHeartbeats 4000000 in
theorem cX2_followFromc {l : Launch} {v0 : Option Nat} {v1 : Option Nat} {v2 : Option Nat} {v3 : Int32} {σ : HpT} {σ' : HpT} (h : fX2_followFrom v0 v1 v2 v3 σ = some σ') : IsK σ v0 2 ∧ Ct l yX2_followFrom cX2_followFrom 6 none 0 0 [va_rf v0, va_rf v1, va_rf v2, .int v3] σ (.ok none) σ' 0 0 := by
  unfold fX2_followFrom at h
  replace h := bnP_s h
  obtain ⟨u, hk, h⟩ := h
  replace hk := isK_s hk
  refine ⟨hk, ?_⟩
  refine ct_start mi_X2_followFrom.1 rfl (al_le (al_1 (rf_cat _) (al_1 (rf_cat _) (al_1 (rf_cat _) (al_1 rfl al_n)))) (Nat.le_of_ble_eq_true rfl)) (ag_1 (rf_cat _) (ag_1 (rf_cat _) (ag_1 (rf_cat _) (ag_1 rfl ag_n)))) (fun Δ Γ B hE hnm => ?_)
  refine g_aload_n B 0 dX2_followFrom_0 rfl rfl ?_
  refine g_iload_n B 3 dX2_followFrom_1 rfl rfl ?_
  refine g_aload_n B 0 dX2_followFrom_2 rfl rfl ?_
  replace h := bnP_s h
  obtain ⟨x1, h2, h⟩ := h
  refine g_getI B fl_RX2_25 (by decide) dX2_followFrom_3 h2 ?_
  replace h := bnP_s h
  obtain ⟨j3, h4, h⟩ := h
  have k6 : GW Δ Γ (0) (0) 14 [(0, va_rf v0), (1, va_rf v1), (2, va_rf v2), (3, .int v3)] [.int j3.2, va_rf j3.1] σ := by
    replace h := bnP_s h
    obtain ⟨s10, h9, h⟩ := h
    refine g_putI B fl_RX2_35 (by decide) dX2_followFrom_14 h9 ?_
    refine g_iload_n B 3 dX2_followFrom_17 rfl rfl ?_
    refine g_aload_n B 1 dX2_followFrom_18 rfl rfl ?_
    replace h := bnP_s h
    obtain ⟨x11, h12, h⟩ := h
    refine g_getRg B fl_RX2_32 (by decide) dX2_followFrom_19 h12 ?_
    refine g_aload_n B 0 dX2_followFrom_22 rfl rfl ?_
    replace h := bnP_s h
    obtain ⟨x13, h14, h⟩ := h
    refine g_getI B fl_RX2_22 (by decide) dX2_followFrom_23 h14 ?_
    replace h := bnP_s h
    obtain ⟨x15, h16, h⟩ := h
    refine g_iald B dX2_followFrom_26 h16 ?_
    refine g_isub B dX2_followFrom_27 ?_
    refine g_istore B dX2_followFrom_28 (Nat.le_of_ble_eq_true rfl) (s1_c (f1_k rfl (f1_k rfl (f1_k rfl (f1_1 rfl rfl f1_n))))) ?_
    refine g_aload_n B 1 dX2_followFrom_30 rfl rfl ?_
    replace h := bnP_s h
    obtain ⟨x17, h18, h⟩ := h
    refine g_getI B fl_RX2_22 (by decide) dX2_followFrom_31 h18 ?_
    refine g_istore B dX2_followFrom_34 (Nat.le_of_ble_eq_true rfl) (s1_c (f1_1 rfl rfl (f1_k rfl (f1_k rfl (f1_k rfl (f1_k rfl f1_n)))))) ?_
    replace h := bnS_s h
    obtain ⟨r20, s60, h21, h⟩ := h
    have kE22 : GW Δ Γ (0) (0) 116 [(0, va_rf v0), (5, .int r20)] [] s60 := by
      refine g_aload_n B 0 dX2_followFrom_116 rfl rfl ?_
      refine g_iload B 1 dX2_followFrom_117 rfl ?_
      refine g_aload_n B 0 dX2_followFrom_119 rfl rfl ?_
      replace h := bnP_s h
      obtain ⟨x61, h62, h⟩ := h
      refine g_getI B fl_RX2_22 (by decide) dX2_followFrom_120 h62 ?_
      refine g_isub B dX2_followFrom_123 ?_
      refine g_iconst (v := 1) B dX2_followFrom_124 (by decide) ?_
      refine g_iadd B dX2_followFrom_125 ?_
      replace h := bnP_s h
      obtain ⟨s65, h64, h⟩ := h
      refine g_putI B fl_RX2_38 (by decide) dX2_followFrom_126 h64 ?_
      replace h := Option.some.inj h
      subst h
      exact g_vret B hE (Nat.zero_le _) (Nat.zero_le _) dX2_followFrom_129
    clear h
    refine g_sub [2, 3, 4, 1, 0] rfl ?_
    refine lpS_w (I := fun q19 s28 => GW Δ Γ (0) (0) 36 [(0, va_rf v0), (1, va_rf v1), (2, va_rf v2), (4, .int q19.1), (5, .int q19.2)] [] s28) (r := r20) (σr := s60) ?_ FUEL ((v3 - x15), x17) s10 h21
    intro q19 s28 x26 s9 h hI24 hR25
    unfold fX2_followFrom_l1 at h
    refine g_iload B 3 dX2_followFrom_36 rfl ?_
    refine g_aload_n B 0 dX2_followFrom_38 rfl rfl ?_
    replace h := bnP_s h
    obtain ⟨x29, h30, h⟩ := h
    refine g_getI B fl_RX2_25 (by decide) dX2_followFrom_39 h30 ?_
    refine g_icmp_lt B 116 dX2_followFrom_42 (by decide) (fun hc => ?_) (fun hc => ?_)
    · replace h := ifp hc h
      obtain ⟨w1, w2⟩ := inS h
      clear h
      subst w1
      subst w2
      obtain ⟨e8, e7⟩ := hR25 _ rfl
      subst e8
      subst e7
      exact g_sub [0, 4] rfl kE22
    · replace h := ifn hc h
      refine g_iload B 4 dX2_followFrom_45 rfl ?_
      refine g_iconst (v := 1) B dX2_followFrom_47 (by decide) ?_
      refine g_iadd B dX2_followFrom_48 ?_
      refine g_aload_n B 2 dX2_followFrom_49 rfl rfl ?_
      replace h := bnP_s h
      obtain ⟨x31, h32, h⟩ := h
      refine g_getI B fl_RX2_7 (by decide) dX2_followFrom_50 h32 ?_
      refine g_aload_n B 2 dX2_followFrom_53 rfl rfl ?_
      replace h := bnP_s h
      obtain ⟨x33, h34, h⟩ := h
      refine g_getI B fl_RX2_13 (by decide) dX2_followFrom_54 h34 ?_
      refine g_iadd B dX2_followFrom_57 ?_
      refine g_icmp_ge B 116 dX2_followFrom_58 (by decide) (fun hc => ?_) (fun hc => ?_)
      · replace h := ifp hc h
        obtain ⟨w1, w2⟩ := inS h
        clear h
        subst w1
        subst w2
        obtain ⟨e8, e7⟩ := hR25 _ rfl
        subst e8
        subst e7
        exact g_sub [0, 4] rfl kE22
      · replace h := ifn hc h
        refine g_iinc (v := (q19.2 + 1)) B 4 dX2_followFrom_61 rfl (by first | rfl | (congr 1; decide)) (Nat.le_of_ble_eq_true rfl) (s1_c (f1_k rfl (f1_k rfl (f1_k rfl (f1_1 rfl rfl (f1_x f1_n)))))) ?_
        refine g_iload B 4 dX2_followFrom_64 rfl ?_
        refine g_aload_n B 1 dX2_followFrom_66 rfl rfl ?_
        replace h := bnP_s h
        obtain ⟨x35, h36, h⟩ := h
        refine g_getI B fl_RX2_25 (by decide) dX2_followFrom_67 h36 ?_
        replace h := bnS_s h
        obtain ⟨j37, s51, h38, h⟩ := h
        have k40 : GW Δ Γ (0) (0) 93 [(0, va_rf v0), (1, va_rf v1), (2, va_rf v2), (4, .int q19.1), (5, .int (q19.2 + 1))] [] s51 := by
          refine g_iload B 3 dX2_followFrom_93 rfl ?_
          refine g_aload_n B 1 dX2_followFrom_95 rfl rfl ?_
          replace h := bnP_s h
          obtain ⟨x52, h53, h⟩ := h
          refine g_getRg B fl_RX2_16 (by decide) dX2_followFrom_96 h53 ?_
          refine g_iload B 4 dX2_followFrom_99 rfl ?_
          replace h := bnP_s h
          obtain ⟨x54, h55, h⟩ := h
          refine g_iald B dX2_followFrom_101 h55 ?_
          refine g_aload_n B 1 dX2_followFrom_102 rfl rfl ?_
          replace h := bnP_s h
          obtain ⟨x56, h57, h⟩ := h
          refine g_getRg B fl_RX2_32 (by decide) dX2_followFrom_103 h57 ?_
          refine g_iload B 4 dX2_followFrom_106 rfl ?_
          replace h := bnP_s h
          obtain ⟨x58, h59, h⟩ := h
          refine g_iald B dX2_followFrom_108 h59 ?_
          refine g_isub B dX2_followFrom_109 ?_
          refine g_iadd B dX2_followFrom_110 ?_
          refine g_istore B dX2_followFrom_111 (Nat.le_of_ble_eq_true rfl) (s1_c (f1_k rfl (f1_k rfl (f1_k rfl (f1_x (f1_k rfl f1_n)))))) ?_
          refine g_goto B 36 dX2_followFrom_113 (by decide) ?_
          obtain ⟨w1, w2⟩ := inS h
          clear h
          subst w1
          subst w2
          exact g_sub [1, 2, 3, 0, 4] rfl (hI24 _ rfl)
        clear h
        have h := h38
        clear h38
        refine g_icmp_ne B 93 dX2_followFrom_70 (by decide) (fun hc => ?_) (fun hc => ?_)
        · replace h := ifn hc h
          obtain ⟨w1, w2⟩ := inS h
          clear h
          subst w1
          subst w2
          exact g_sub [1, 2, 3, 4, 0] rfl k40
        · replace h := ifp hc h
          refine g_aload_n B 2 dX2_followFrom_73 rfl rfl ?_
          replace h := bnP_s h
          obtain ⟨x42, h43, h⟩ := h
          refine g_getRg B fl_RX2_16 (by decide) dX2_followFrom_74 h43 ?_
          refine g_iload B 0 dX2_followFrom_77 rfl ?_
          replace h := bnP_s h
          obtain ⟨x44, h45, h⟩ := h
          refine g_iald B dX2_followFrom_79 h45 ?_
          refine g_if_le B 93 dX2_followFrom_80 (by decide) (fun hc => ?_) (fun hc => ?_)
          · replace h := ifp hc h
            obtain ⟨w1, w2⟩ := inS h
            clear h
            subst w1
            subst w2
            exact g_sub [1, 2, 3, 4, 0] rfl k40
          · replace h := ifn hc h
            refine g_aload_n B 1 dX2_followFrom_83 rfl rfl ?_
            refine g_dup B dX2_followFrom_84 (rf_cat _) ?_
            replace h := bnP_s h
            obtain ⟨x46, h47, h⟩ := h
            refine g_getI B fl_RX2_35 (by decide) dX2_followFrom_85 h47 ?_
            refine g_iconst (v := 1) B dX2_followFrom_88 (by decide) ?_
            refine g_iadd B dX2_followFrom_89 ?_
            replace h := bnP_s h
            obtain ⟨s50, h49, h⟩ := h
            refine g_putI B fl_RX2_35 (by decide) dX2_followFrom_90 h49 ?_
            obtain ⟨w1, w2⟩ := inS h
            clear h
            subst w1
            subst w2
            exact g_sub [1, 2, 3, 4, 0] rfl k40
  clear h
  have h := h4
  clear h4
  refine g_icmp_le B 13 dX2_followFrom_6 (by decide) (fun hc => ?_) (fun hc => ?_)
  · replace h := ifp hc h
    refine g_iconst (v := 0) B dX2_followFrom_13 (by decide) ?_
    replace h := Option.some.inj h
    subst h
    exact g_sub [0, 1, 2, 3] rfl k6
  · replace h := ifn hc h
    refine g_iconst (v := 1) B dX2_followFrom_9 (by decide) ?_
    refine g_goto B 14 dX2_followFrom_10 (by decide) ?_
    replace h := Option.some.inj h
    subst h
    exact g_sub [0, 1, 2, 3] rfl k6
set_option maxRecDepth 100000 in
set_option maxHeartbeats 4000000 in
theorem cX2_seekc {l : Launch} {v0 : Option Nat} {v1 : Option Nat} {v2 : Option Nat} {v3 : Int32} {σ : HpT} {r : Bool} {σ' : HpT} (h : fX2_seek v0 v1 v2 v3 σ = some (r, σ')) : IsK σ v0 2 ∧ Ct l yX2_seek cX2_seek 7 (some .boolean) 1 25 [va_rf v0, va_rf v1, va_rf v2, .int v3] σ (.ok (some (.int (bI r)))) σ' 0 0 := by
  unfold fX2_seek at h
  replace h := bnP_s h
  obtain ⟨u, hk, h⟩ := h
  replace hk := isK_s hk
  refine ⟨hk, ?_⟩
  refine ct_start mi_X2_seek.1 rfl (al_le (al_1 (rf_cat _) (al_1 (rf_cat _) (al_1 (rf_cat _) (al_1 rfl al_n)))) (Nat.le_of_ble_eq_true rfl)) (ag_1 (rf_cat _) (ag_1 (rf_cat _) (ag_1 (rf_cat _) (ag_1 rfl ag_n)))) (fun Δ Γ B hE hnm => ?_)
  refine g_iconst (v := 0) B dX2_seek_0 (by decide) ?_
  refine g_istore B dX2_seek_1 (Nat.le_of_ble_eq_true rfl) (s1_c (f1_k rfl (f1_k rfl (f1_k rfl (f1_1 rfl rfl f1_n))))) ?_
  refine g_iconst (v := 0) B dX2_seek_3 (by decide) ?_
  refine g_istore B dX2_seek_4 (Nat.le_of_ble_eq_true rfl) (s1_c (f1_1 rfl rfl (f1_k rfl (f1_k rfl (f1_k rfl (f1_k rfl f1_n)))))) ?_
  refine g_aload_n B 4 dX2_seek_6 rfl rfl ?_
  replace h := bnP_s h
  obtain ⟨x1, h2, h⟩ := h
  refine g_getI B fl_RX2_7 (by decide) dX2_seek_7 h2 ?_
  refine g_istore B dX2_seek_10 (Nat.le_of_ble_eq_true rfl) (s1_c (f1_1 rfl rfl (f1_k rfl (f1_k rfl (f1_k rfl (f1_k rfl (f1_k rfl f1_n))))))) ?_
  replace h := bnS_s h
  obtain ⟨r4, s59, h5, h⟩ := h
  have kE6 : ∀ y58, r4 = .inl y58 → GW Δ Γ (0) (0) 121 [] [] s59 := by
    intro y58 er
    subst er
    dsimp only at h
    refine g_iconst (v := 0) B dX2_seek_121 (by decide) ?_
    obtain ⟨w1, w2⟩ := inS h
    clear h
    subst w1
    subst w2
    exact g_zret B hE rfl (Nat.zero_le _) (Nat.zero_le _) dX2_seek_122
  have kR7 : ∀ vv, r4 = .inr vv → En Δ Γ (.ok (some (.int (bI vv)))) s59 0 0 (some .boolean) ∧ 0 ≤ 0 ∧ 0 ≤ 0 := by
    intro vv er
    subst er
    dsimp only at h
    obtain ⟨w1, w2⟩ := inS h
    clear h
    subst w1
    subst w2
    exact ⟨hE, Nat.zero_le _, Nat.zero_le _⟩
  clear h
  refine g_sub [3, 4, 5, 6, 2, 1, 0] rfl ?_
  refine lpS_w (I := fun q3 s12 => GW Δ Γ (0) (0) 12 [(0, va_rf v0), (1, va_rf v1), (2, va_rf v2), (3, .int v3), (4, .int q3.1), (5, .int q3.2.1), (6, .int q3.2.2)] [] s12) (r := r4) (σr := s59) ?_ FUEL (0, 0, x1) σ h5
  intro q3 s12 x10 s9 h hI8 hR9
  unfold fX2_seek_l1 at h
  refine g_iload B 6 dX2_seek_12 rfl ?_
  refine g_aload_n B 2 dX2_seek_14 rfl rfl ?_
  replace h := bnP_s h
  obtain ⟨x13, h14, h⟩ := h
  refine g_getI B fl_RX2_7 (by decide) dX2_seek_15 h14 ?_
  refine g_aload_n B 2 dX2_seek_18 rfl rfl ?_
  replace h := bnP_s h
  obtain ⟨x15, h16, h⟩ := h
  refine g_getI B fl_RX2_13 (by decide) dX2_seek_19 h16 ?_
  refine g_iadd B dX2_seek_22 ?_
  refine g_icmp_ge B 121 dX2_seek_23 (by decide) (fun hc => ?_) (fun hc => ?_)
  · replace h := ifp hc h
    obtain ⟨w1, w2⟩ := inS h
    clear h
    subst w1
    subst w2
    obtain ⟨e8, e7⟩ := hR9 _ rfl
    subst e8
    subst e7
    exact g_sub [] rfl (kE6 _ rfl)
  · replace h := ifn hc h
    refine g_iload_n B 3 dX2_seek_26 rfl rfl ?_
    refine g_iload B 4 dX2_seek_27 rfl ?_
    refine g_icmp_lt B 83 dX2_seek_29 (by decide) (fun hc => ?_) (fun hc => ?_)
    · replace h := ifp hc h
      refine g_iload B 4 dX2_seek_83 rfl ?_
      refine g_aload_n B 1 dX2_seek_85 rfl rfl ?_
      replace h := bnP_s h
      obtain ⟨x17, h18, h⟩ := h
      refine g_getRg B fl_RX2_16 (by decide) dX2_seek_86 h18 ?_
      refine g_iload B 6 dX2_seek_89 rfl ?_
      replace h := bnP_s h
      obtain ⟨x19, h20, h⟩ := h
      refine g_iald B dX2_seek_91 h20 ?_
      refine g_iadd B dX2_seek_92 ?_
      refine g_istore B dX2_seek_93 (Nat.le_of_ble_eq_true rfl) (s1_c (f1_k rfl (f1_k rfl (f1_k rfl (f1_1 rfl rfl (f1_x (f1_k rfl (f1_k rfl f1_n)))))))) ?_
      refine g_iload B 5 dX2_seek_95 rfl ?_
      refine g_aload_n B 2 dX2_seek_97 rfl rfl ?_
      replace h := bnP_s h
      obtain ⟨x21, h22, h⟩ := h
      refine g_getRg B fl_RX2_16 (by decide) dX2_seek_98 h22 ?_
      refine g_iload B 6 dX2_seek_101 rfl ?_
      replace h := bnP_s h
      obtain ⟨x23, h24, h⟩ := h
      refine g_iald B dX2_seek_103 h24 ?_
      refine g_aload_n B 2 dX2_seek_104 rfl rfl ?_
      replace h := bnP_s h
      obtain ⟨x25, h26, h⟩ := h
      refine g_getRg B fl_RX2_32 (by decide) dX2_seek_105 h26 ?_
      refine g_iload B 6 dX2_seek_108 rfl ?_
      replace h := bnP_s h
      obtain ⟨x27, h28, h⟩ := h
      refine g_iald B dX2_seek_110 h28 ?_
      refine g_isub B dX2_seek_111 ?_
      refine g_iadd B dX2_seek_112 ?_
      refine g_istore B dX2_seek_113 (Nat.le_of_ble_eq_true rfl) (s1_c (f1_1 rfl rfl (f1_k rfl (f1_k rfl (f1_k rfl (f1_k rfl (f1_x (f1_k rfl f1_n)))))))) ?_
      refine g_iinc (v := (q3.2.2 + 1)) B 6 dX2_seek_115 rfl (by first | rfl | (congr 1; decide)) (Nat.le_of_ble_eq_true rfl) (s1_c (f1_1 rfl rfl (f1_k rfl (f1_k rfl (f1_k rfl (f1_k rfl (f1_k rfl (f1_x f1_n)))))))) ?_
      refine g_goto B 12 dX2_seek_118 (by decide) ?_
      obtain ⟨w1, w2⟩ := inS h
      clear h
      subst w1
      subst w2
      exact g_sub [3, 4, 5, 6, 2, 1, 0] rfl (hI8 _ rfl)
    · replace h := ifn hc h
      refine g_iload_n B 3 dX2_seek_32 rfl rfl ?_
      refine g_iload B 4 dX2_seek_33 rfl ?_
      refine g_aload_n B 1 dX2_seek_35 rfl rfl ?_
      replace h := bnP_s h
      obtain ⟨x29, h30, h⟩ := h
      refine g_getRg B fl_RX2_16 (by decide) dX2_seek_36 h30 ?_
      refine g_iload B 6 dX2_seek_39 rfl ?_
      replace h := bnP_s h
      obtain ⟨x31, h32, h⟩ := h
      refine g_iald B dX2_seek_41 h32 ?_
      refine g_iadd B dX2_seek_42 ?_
      refine g_icmp_ge B 83 dX2_seek_43 (by decide) (fun hc => ?_) (fun hc => ?_)
      · replace h := ifp hc h
        refine g_iload B 4 dX2_seek_83 rfl ?_
        refine g_aload_n B 1 dX2_seek_85 rfl rfl ?_
        replace h := bnP_s h
        obtain ⟨x33, h34, h⟩ := h
        refine g_getRg B fl_RX2_16 (by decide) dX2_seek_86 h34 ?_
        refine g_iload B 6 dX2_seek_89 rfl ?_
        replace h := bnP_s h
        obtain ⟨x35, h36, h⟩ := h
        refine g_iald B dX2_seek_91 h36 ?_
        refine g_iadd B dX2_seek_92 ?_
        refine g_istore B dX2_seek_93 (Nat.le_of_ble_eq_true rfl) (s1_c (f1_k rfl (f1_k rfl (f1_k rfl (f1_1 rfl rfl (f1_x (f1_k rfl (f1_k rfl f1_n)))))))) ?_
        refine g_iload B 5 dX2_seek_95 rfl ?_
        refine g_aload_n B 2 dX2_seek_97 rfl rfl ?_
        replace h := bnP_s h
        obtain ⟨x37, h38, h⟩ := h
        refine g_getRg B fl_RX2_16 (by decide) dX2_seek_98 h38 ?_
        refine g_iload B 6 dX2_seek_101 rfl ?_
        replace h := bnP_s h
        obtain ⟨x39, h40, h⟩ := h
        refine g_iald B dX2_seek_103 h40 ?_
        refine g_aload_n B 2 dX2_seek_104 rfl rfl ?_
        replace h := bnP_s h
        obtain ⟨x41, h42, h⟩ := h
        refine g_getRg B fl_RX2_32 (by decide) dX2_seek_105 h42 ?_
        refine g_iload B 6 dX2_seek_108 rfl ?_
        replace h := bnP_s h
        obtain ⟨x43, h44, h⟩ := h
        refine g_iald B dX2_seek_110 h44 ?_
        refine g_isub B dX2_seek_111 ?_
        refine g_iadd B dX2_seek_112 ?_
        refine g_istore B dX2_seek_113 (Nat.le_of_ble_eq_true rfl) (s1_c (f1_1 rfl rfl (f1_k rfl (f1_k rfl (f1_k rfl (f1_k rfl (f1_x (f1_k rfl f1_n)))))))) ?_
        refine g_iinc (v := (q3.2.2 + 1)) B 6 dX2_seek_115 rfl (by first | rfl | (congr 1; decide)) (Nat.le_of_ble_eq_true rfl) (s1_c (f1_1 rfl rfl (f1_k rfl (f1_k rfl (f1_k rfl (f1_k rfl (f1_k rfl (f1_x f1_n)))))))) ?_
        refine g_goto B 12 dX2_seek_118 (by decide) ?_
        obtain ⟨w1, w2⟩ := inS h
        clear h
        subst w1
        subst w2
        exact g_sub [3, 4, 5, 6, 2, 1, 0] rfl (hI8 _ rfl)
      · replace h := ifn hc h
        refine g_aload_n B 0 dX2_seek_46 rfl rfl ?_
        refine g_iload B 6 dX2_seek_47 rfl ?_
        replace h := bnP_s h
        obtain ⟨s47, h46, h⟩ := h
        refine g_putI B fl_RX2_22 (by decide) dX2_seek_49 h46 ?_
        refine g_aload_n B 0 dX2_seek_52 rfl rfl ?_
        refine g_iload B 5 dX2_seek_53 rfl ?_
        refine g_iload_n B 3 dX2_seek_55 rfl rfl ?_
        refine g_iadd B dX2_seek_56 ?_
        refine g_iload B 4 dX2_seek_57 rfl ?_
        refine g_isub B dX2_seek_59 ?_
        refine g_iconst (v := 1) B dX2_seek_60 (by decide) ?_
        refine g_iadd B dX2_seek_61 ?_
        replace h := bnP_s h
        obtain ⟨s50, h49, h⟩ := h
        refine g_putI B fl_RX2_25 (by decide) dX2_seek_62 h49 ?_
        refine g_aload_n B 0 dX2_seek_65 rfl rfl ?_
        refine g_aload_n B 1 dX2_seek_66 rfl rfl ?_
        refine g_aload_n B 2 dX2_seek_67 rfl rfl ?_
        refine g_iload B 5 dX2_seek_68 rfl ?_
        refine g_aload_n B 1 dX2_seek_70 rfl rfl ?_
        replace h := bnP_s h
        obtain ⟨x51, h52, h⟩ := h
        refine g_getRg B fl_RX2_16 (by decide) dX2_seek_71 h52 ?_
        refine g_iload B 6 dX2_seek_74 rfl ?_
        replace h := bnP_s h
        obtain ⟨x53, h54, h⟩ := h
        refine g_iald B dX2_seek_76 h54 ?_
        refine g_iadd B dX2_seek_77 ?_
        replace h := bnP_s h
        obtain ⟨s57, h56, h⟩ := h
        refine g_callVv0 (st := []) B (cX2_followFromc h56) (Nat.le_of_ble_eq_true rfl) rfl rfl mi_X2_followFrom lk_RX2_28 ⟨Nat.le_of_ble_eq_true rfl, Nat.le_of_ble_eq_true rfl⟩ rfl rfl (Nat.le_of_ble_eq_true rfl) dX2_seek_78 (Nat.zero_le _) (Nat.zero_le _) ?_
        refine g_iconst (v := 1) B dX2_seek_81 (by decide) ?_
        obtain ⟨w1, w2⟩ := inS h
        clear h
        subst w1
        subst w2
        obtain ⟨e8, e7⟩ := hR9 _ rfl
        subst e7
        obtain ⟨hE, hc9, hs9⟩ := kR7 _ e8.symm
        exact g_zret B hE rfl hc9 hs9 dX2_seek_82
set_option maxRecDepth 100000 in
set_option maxHeartbeats 4000000 in
theorem cX1_seekClauseAroundc {l : Launch} {v0 : Option Nat} {v1 : Int32} {σ : HpT} {r : Bool} {σ' : HpT} (h : fX1_seekClauseAround v0 v1 σ = some (r, σ')) : IsK σ v0 1 ∧ Ct l yX1_seekClauseAround cX1_seekClauseAround 3 (some .boolean) 2 51 [va_rf v0, .int v1] σ (.ok (some (.int (bI r)))) σ' 0 0 := by
  unfold fX1_seekClauseAround at h
  replace h := bnP_s h
  obtain ⟨u, hk, h⟩ := h
  replace hk := isK_s hk
  refine ⟨hk, ?_⟩
  refine ct_start mi_X1_seekClauseAround.1 rfl (al_le (al_1 (rf_cat _) (al_1 rfl al_n)) (Nat.le_of_ble_eq_true rfl)) (ag_1 (rf_cat _) (ag_1 rfl ag_n)) (fun Δ Γ B hE hnm => ?_)
  refine g_aload_n B 0 dX1_seekClauseAround_0 rfl rfl ?_
  replace h := bnP_s h
  obtain ⟨x1, h2, h⟩ := h
  refine g_callVs0 (st := []) B (cX1_openActc h2) (Nat.le_of_ble_eq_true rfl) rfl rfl mi_X1_openAct lk_RX1_87 ⟨Nat.le_of_ble_eq_true rfl, Nat.le_of_ble_eq_true rfl⟩ rfl rfl (Nat.le_of_ble_eq_true rfl) dX1_seekClauseAround_1 (Nat.zero_le _) (Nat.zero_le _) ?_
  refine g_astore_n B dX1_seekClauseAround_4 rfl (Nat.le_of_ble_eq_true rfl) (s1_c (f1_k rfl (f1_1 rfl rfl f1_n))) ?_
  refine g_aload_n B 0 dX1_seekClauseAround_5 rfl rfl ?_
  refine g_ifnull B 21 dX1_seekClauseAround_6 (by decide) (fun hc => ?_) (fun hc => ?_)
  · replace h := ifp hc h
    refine g_iconst (v := 0) B dX1_seekClauseAround_21 (by decide) ?_
    obtain ⟨w1, w2⟩ := inS h
    clear h
    subst w1
    subst w2
    exact g_zret B hE rfl (Nat.zero_le _) (Nat.zero_le _) dX1_seekClauseAround_22
  · replace h := ifn hc h
    refine g_iload_n B 2 dX1_seekClauseAround_9 rfl rfl ?_
    refine g_if_lt B 21 dX1_seekClauseAround_10 (by decide) (fun hc => ?_) (fun hc => ?_)
    · replace h := ifp hc h
      refine g_iconst (v := 0) B dX1_seekClauseAround_21 (by decide) ?_
      obtain ⟨w1, w2⟩ := inS h
      clear h
      subst w1
      subst w2
      exact g_zret B hE rfl (Nat.zero_le _) (Nat.zero_le _) dX1_seekClauseAround_22
    · replace h := ifn hc h
      refine g_iload_n B 2 dX1_seekClauseAround_13 rfl rfl ?_
      refine g_aload_n B 0 dX1_seekClauseAround_14 rfl rfl ?_
      replace h := bnP_s h
      obtain ⟨x3, h4, h⟩ := h
      refine g_getI B fl_RX1_91 (by decide) dX1_seekClauseAround_15 h4 ?_
      refine g_icmp_lt B 23 dX1_seekClauseAround_18 (by decide) (fun hc => ?_) (fun hc => ?_)
      · replace h := ifp hc h
        refine g_aload_n B 1 dX1_seekClauseAround_23 rfl rfl ?_
        replace h := bnP_s h
        obtain ⟨x5, h6, h⟩ := h
        refine g_getR B fl_RX1_38 (by decide) dX1_seekClauseAround_24 h6 ?_
        refine g_aload_n B 1 dX1_seekClauseAround_27 rfl rfl ?_
        replace h := bnP_s h
        obtain ⟨x7, h8, h⟩ := h
        refine g_getR B fl_RX1_24 (by decide) dX1_seekClauseAround_28 h8 ?_
        refine g_aload_n B 0 dX1_seekClauseAround_31 rfl rfl ?_
        refine g_aload_n B 1 dX1_seekClauseAround_32 rfl rfl ?_
        replace h := bnP_s h
        obtain ⟨x9, h10, h⟩ := h
        refine g_getR B fl_RX1_24 (by decide) dX1_seekClauseAround_33 h10 ?_
        refine g_aload_n B 0 dX1_seekClauseAround_36 rfl rfl ?_
        replace h := bnP_s h
        obtain ⟨x11, h12, h⟩ := h
        refine g_getI B fl_RX1_92 (by decide) dX1_seekClauseAround_37 h12 ?_
        refine g_aload_n B 0 dX1_seekClauseAround_40 rfl rfl ?_
        replace h := bnP_s h
        obtain ⟨x13, h14, h⟩ := h
        refine g_getI B fl_RX1_92 (by decide) dX1_seekClauseAround_41 h14 ?_
        refine g_iload_n B 2 dX1_seekClauseAround_44 rfl rfl ?_
        refine g_iadd B dX1_seekClauseAround_45 ?_
        replace h := bnP_s h
        obtain ⟨x15, h16, h⟩ := h
        refine g_callVs0 (st := [va_rf x1, va_rf x7, va_rf x5]) B (cX8_innermostOfc h16) (Nat.le_of_ble_eq_true rfl) rfl rfl mi_X8_innermostOf lk_RX1_109 ⟨Nat.le_of_ble_eq_true rfl, Nat.le_of_ble_eq_true rfl⟩ rfl rfl (Nat.le_of_ble_eq_true rfl) dX1_seekClauseAround_46 (Nat.zero_le _) (Nat.zero_le _) ?_
        replace h := bnS_s h
        obtain ⟨x17, s19, h18, h⟩ := h
        refine g_callVs0 (st := []) B (cX2_seekc h18) (Nat.le_of_ble_eq_true rfl) rfl rfl mi_X2_seek lk_RX1_112 ⟨Nat.le_of_ble_eq_true rfl, Nat.le_of_ble_eq_true rfl⟩ rfl rfl (Nat.le_of_ble_eq_true rfl) dX1_seekClauseAround_49 (Nat.zero_le _) (Nat.zero_le _) ?_
        obtain ⟨w1, w2⟩ := inS h
        clear h
        subst w1
        subst w2
        exact g_zret B hE (nar_bI _) (Nat.zero_le _) (Nat.zero_le _) dX1_seekClauseAround_52
      · replace h := ifn hc h
        refine g_iconst (v := 0) B dX1_seekClauseAround_21 (by decide) ?_
        obtain ⟨w1, w2⟩ := inS h
        clear h
        subst w1
        subst w2
        exact g_zret B hE rfl (Nat.zero_le _) (Nat.zero_le _) dX1_seekClauseAround_22
set_option maxRecDepth 100000 in
set_option maxHeartbeats 4000000 in
theorem cX1_leavesOfc {l : Launch} {v0 : Option Nat} {v1 : Int32} {σ : HpT} {r : Int32} (h : fX1_leavesOf v0 v1 σ = some r) : IsK σ v0 1 ∧ Ct l yX1_leavesOf cX1_leavesOf 2 (some .int) 0 0 [va_rf v0, .int v1] σ (.ok (some (.int r))) σ 0 0 := by
  unfold fX1_leavesOf at h
  replace h := bnP_s h
  obtain ⟨u, hk, h⟩ := h
  replace hk := isK_s hk
  refine ⟨hk, ?_⟩
  refine ct_start mi_X1_leavesOf.1 rfl (al_le (al_1 (rf_cat _) (al_1 rfl al_n)) (Nat.le_of_ble_eq_true rfl)) (ag_1 (rf_cat _) (ag_1 rfl ag_n)) (fun Δ Γ B hE hnm => ?_)
  refine g_aload_n B 0 dX1_leavesOf_0 rfl rfl ?_
  replace h := bnP_s h
  obtain ⟨x1, h2, h⟩ := h
  refine g_getI B fl_RX1_48 (by decide) dX1_leavesOf_1 h2 ?_
  refine g_if_le B 23 dX1_leavesOf_4 (by decide) (fun hc => ?_) (fun hc => ?_)
  · replace h := ifp hc h
    refine g_iconst (v := 0) B dX1_leavesOf_23 (by decide) ?_
    replace h := Option.some.inj h
    subst h
    exact g_iret B hE (Nat.zero_le _) (Nat.zero_le _) dX1_leavesOf_24
  · replace h := ifn hc h
    refine g_iload_n B 1 dX1_leavesOf_7 rfl rfl ?_
    refine g_aload_n B 0 dX1_leavesOf_8 rfl rfl ?_
    replace h := bnP_s h
    obtain ⟨x3, h4, h⟩ := h
    refine g_getI B fl_RX1_48 (by decide) dX1_leavesOf_9 h4 ?_
    refine g_iadd B dX1_leavesOf_12 ?_
    refine g_iconst (v := 1) B dX1_leavesOf_13 (by decide) ?_
    refine g_isub B dX1_leavesOf_14 ?_
    refine g_aload_n B 0 dX1_leavesOf_15 rfl rfl ?_
    replace h := bnP_s h
    obtain ⟨x5, h6, h⟩ := h
    refine g_getI B fl_RX1_48 (by decide) dX1_leavesOf_16 h6 ?_
    replace h := bnP_s h
    obtain ⟨u7, h8, h⟩ := h
    refine g_idiv B dX1_leavesOf_19 (nz_s h8) ?_
    refine g_goto B 24 dX1_leavesOf_20 (by decide) ?_
    replace h := Option.some.inj h
    subst h
    exact g_iret B hE (Nat.zero_le _) (Nat.zero_le _) dX1_leavesOf_24
set_option maxRecDepth 100000 in
set_option maxHeartbeats 4000000 in
theorem cX1_leafOfc {l : Launch} {v0 : Option Nat} {v1 : Int32} {σ : HpT} {r : Int32} (h : fX1_leafOf v0 v1 σ = some r) : IsK σ v0 1 ∧ Ct l yX1_leafOf cX1_leafOf 2 (some .int) 0 0 [va_rf v0, .int v1] σ (.ok (some (.int r))) σ 0 0 := by
  unfold fX1_leafOf at h
  replace h := bnP_s h
  obtain ⟨u, hk, h⟩ := h
  replace hk := isK_s hk
  refine ⟨hk, ?_⟩
  refine ct_start mi_X1_leafOf.1 rfl (al_le (al_1 (rf_cat _) (al_1 rfl al_n)) (Nat.le_of_ble_eq_true rfl)) (ag_1 (rf_cat _) (ag_1 rfl ag_n)) (fun Δ Γ B hE hnm => ?_)
  refine g_aload_n B 0 dX1_leafOf_0 rfl rfl ?_
  replace h := bnP_s h
  obtain ⟨x1, h2, h⟩ := h
  refine g_getI B fl_RX1_48 (by decide) dX1_leafOf_1 h2 ?_
  refine g_if_le B 16 dX1_leafOf_4 (by decide) (fun hc => ?_) (fun hc => ?_)
  · replace h := ifp hc h
    refine g_iconst (v := 0) B dX1_leafOf_16 (by decide) ?_
    replace h := Option.some.inj h
    subst h
    exact g_iret B hE (Nat.zero_le _) (Nat.zero_le _) dX1_leafOf_17
  · replace h := ifn hc h
    refine g_iload_n B 1 dX1_leafOf_7 rfl rfl ?_
    refine g_aload_n B 0 dX1_leafOf_8 rfl rfl ?_
    replace h := bnP_s h
    obtain ⟨x3, h4, h⟩ := h
    refine g_getI B fl_RX1_48 (by decide) dX1_leafOf_9 h4 ?_
    replace h := bnP_s h
    obtain ⟨u5, h6, h⟩ := h
    refine g_idiv B dX1_leafOf_12 (nz_s h6) ?_
    refine g_goto B 17 dX1_leafOf_13 (by decide) ?_
    replace h := Option.some.inj h
    subst h
    exact g_iret B hE (Nat.zero_le _) (Nat.zero_le _) dX1_leafOf_17
set_option maxRecDepth 100000 in
set_option maxHeartbeats 4000000 in
theorem cX1_mostWordsc {l : Launch} {v0 : Option Nat} {σ : HpT} {r : Int32} (h : fX1_mostWords v0 σ = some r) : IsK σ v0 1 ∧ Ct l yX1_mostWords cX1_mostWords 1 (some .int) 1 21 [va_rf v0] σ (.ok (some (.int r))) σ 0 0 := by
  unfold fX1_mostWords at h
  replace h := bnP_s h
  obtain ⟨u, hk, h⟩ := h
  replace hk := isK_s hk
  refine ⟨hk, ?_⟩
  refine ct_start mi_X1_mostWords.1 rfl (al_le (al_1 (rf_cat _) al_n) (Nat.le_of_ble_eq_true rfl)) (ag_1 (rf_cat _) ag_n) (fun Δ Γ B hE hnm => ?_)
  refine g_bipush (v := 12) B dX1_mostWords_0 (by decide) ?_
  refine g_aload_n B 0 dX1_mostWords_2 rfl rfl ?_
  replace h := bnP_s h
  obtain ⟨x1, h2, h⟩ := h
  refine g_getI B fl_RX1_48 (by decide) dX1_mostWords_3 h2 ?_
  refine g_imul B dX1_mostWords_6 ?_
  refine g_sipush (v := 240) B dX1_mostWords_7 (by decide) ?_
  refine g_mmin B mt_RX1_116 (by decide) (Nat.le_of_ble_eq_true rfl) dX1_mostWords_10 (Nat.zero_le _) (Nat.zero_le _) ?_
  replace h := Option.some.inj h
  subst h
  exact g_iret B hE (Nat.zero_le _) (Nat.zero_le _) dX1_mostWords_13
