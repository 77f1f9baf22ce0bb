theorem mi_X1_cancelOpen : MI yX1_cancelOpen cX1_cancelOpen 2 none 0 := ⟨by decide +kernel, (mw (i := 841) (by decide +kernel) rfl), (mw (i := 38) (by decide +kernel) rfl), by decide +kernel, by decide +kernel⟩
theorem mi_X1_cashGap : MI yX1_cashGap cX1_cashGap 3 (some .int) 0 := ⟨by decide +kernel, (mw (i := 1085) (by decide +kernel) rfl), (mw (i := 38) (by decide +kernel) rfl), by decide +kernel, by decide +kernel⟩
theorem mi_X1_insertWord : MI yX1_insertWord cX1_insertWord 5 none 2 := ⟨by decide +kernel, (mw (i := 802) (by decide +kernel) rfl), (mw (i := 38) (by decide +kernel) rfl), by decide +kernel, by decide +kernel⟩
theorem mi_X1_numbersGap : MI yX1_numbersGap cX1_numbersGap 3 (some .int) 0 := ⟨by decide +kernel, (mw (i := 1089) (by decide +kernel) rfl), (mw (i := 38) (by decide +kernel) rfl), by decide +kernel, by decide +kernel⟩
theorem mi_X1_sealOpen : MI yX1_sealOpen cX1_sealOpen 3 (some .int) 1 := ⟨by decide +kernel, (mw (i := 828) (by decide +kernel) rfl), (mw (i := 38) (by decide +kernel) rfl), by decide +kernel, by decide +kernel⟩
theorem mi_X1_sealReason : MI yX1_sealReason cX1_sealReason 4 (some .int) 2 := ⟨by decide +kernel, (mw (i := 816) (by decide +kernel) rfl), (mw (i := 38) (by decide +kernel) rfl), by decide +kernel, by decide +kernel⟩
theorem mi_X1_standingGap : MI yX1_standingGap cX1_standingGap 4 (some .int) 0 := ⟨by decide +kernel, (mw (i := 1076) (by decide +kernel) rfl), (mw (i := 38) (by decide +kernel) rfl), by decide +kernel, by decide +kernel⟩
theorem mi_X1_wordsGap : MI yX1_wordsGap cX1_wordsGap 3 (some .int) 0 := ⟨by decide +kernel, (mw (i := 1069) (by decide +kernel) rfl), (mw (i := 38) (by decide +kernel) rfl), by decide +kernel, by decide +kernel⟩
theorem mi_X4_bringBack : MI yX4_bringBack cX4_bringBack 3 none 1 := ⟨by decide +kernel, (mw (i := 904) (by decide +kernel) rfl), (mw (i := 40) (by decide +kernel) rfl), by decide +kernel, by decide +kernel⟩
theorem mi_X4_countOf : MI yX4_countOf cX4_countOf 4 (some .int) 1 := ⟨by decide +kernel, (mw (i := 963) (by decide +kernel) rfl), (mw (i := 40) (by decide +kernel) rfl), by decide +kernel, by decide +kernel⟩
theorem mi_X4_drop : MI yX4_drop cX4_drop 2 none 1 := ⟨by decide +kernel, (mw (i := 900) (by decide +kernel) rfl), (mw (i := 40) (by decide +kernel) rfl), by decide +kernel, by decide +kernel⟩
theorem mi_X4_dropLoose : MI yX4_dropLoose cX4_dropLoose 3 (some .int) 0 := ⟨by decide +kernel, (mw (i := 884) (by decide +kernel) rfl), (mw (i := 40) (by decide +kernel) rfl), by decide +kernel, by decide +kernel⟩
theorem mi_X4_isLoose : MI yX4_isLoose cX4_isLoose 2 (some .boolean) 1 := ⟨by decide +kernel, (mw (i := 909) (by decide +kernel) rfl), (mw (i := 40) (by decide +kernel) rfl), by decide +kernel, by decide +kernel⟩
theorem mi_X4_loosenMateOf : MI yX4_loosenMateOf cX4_loosenMateOf 3 none 1 := ⟨by decide +kernel, (mw (i := 888) (by decide +kernel) rfl), (mw (i := 40) (by decide +kernel) rfl), by decide +kernel, by decide +kernel⟩
theorem mi_X4_stateOf : MI yX4_stateOf cX4_stateOf 2 (some .int) 1 := ⟨by decide +kernel, (mw (i := 1032) (by decide +kernel) rfl), (mw (i := 40) (by decide +kernel) rfl), by decide +kernel, by decide +kernel⟩
theorem mi_X5_checkNextNumber : MI yX5_checkNextNumber cX5_checkNextNumber 3 (some .boolean) 2 := ⟨by decide +kernel, (mw (i := 642) (by decide +kernel) rfl), (mw (i := 44) (by decide +kernel) rfl), by decide +kernel, by decide +kernel⟩
theorem mi_X5_checkNumber : MI yX5_checkNumber cX5_checkNumber 3 (some .boolean) 2 := ⟨by decide +kernel, (mw (i := 647) (by decide +kernel) rfl), (mw (i := 44) (by decide +kernel) rfl), by decide +kernel, by decide +kernel⟩
theorem mi_X5_fail : MI yX5_fail cX5_fail 2 (some .boolean) 1 := ⟨by decide +kernel, (mw (i := 638) (by decide +kernel) rfl), (mw (i := 44) (by decide +kernel) rfl), by decide +kernel, by decide +kernel⟩
theorem mi_X5_finishLine : MI yX5_finishLine cX5_finishLine 1 (some .boolean) 0 := ⟨by decide +kernel, (mw (i := 651) (by decide +kernel) rfl), (mw (i := 44) (by decide +kernel) rfl), by decide +kernel, by decide +kernel⟩
theorem mi_X5_init : MI yX5_init cX5_init 1 none 0 := ⟨by decide +kernel, (mw (i := 318) (by decide +kernel) rfl), (mw (i := 44) (by decide +kernel) rfl), by decide +kernel, by decide +kernel⟩
theorem mi_X5_isAtWord : MI yX5_isAtWord cX5_isAtWord 2 (some .boolean) 1 := ⟨by decide +kernel, (mw (i := 583) (by decide +kernel) rfl), (mw (i := 44) (by decide +kernel) rfl), by decide +kernel, by decide +kernel⟩
theorem mi_X5_readHead : MI yX5_readHead cX5_readHead 1 (some .boolean) 0 := ⟨by decide +kernel, (mw (i := 578) (by decide +kernel) rfl), (mw (i := 44) (by decide +kernel) rfl), by decide +kernel, by decide +kernel⟩
theorem mi_X7_init : MI yX7_init cX7_init 1 none 0 := ⟨by decide +kernel, (mw (i := 324) (by decide +kernel) rfl), (mw (i := 45) (by decide +kernel) rfl), by decide +kernel, by decide +kernel⟩
theorem mi_X7_isDigit : MI yX7_isDigit cX7_isDigit 1 (some .boolean) 1 := ⟨by decide +kernel, (mw (i := 567) (by decide +kernel) rfl), (mw (i := 45) (by decide +kernel) rfl), by decide +kernel, by decide +kernel⟩
theorem mi_X7_kindOfSign : MI yX7_kindOfSign cX7_kindOfSign 1 (some .int) 1 := ⟨by decide +kernel, (mw (i := 574) (by decide +kernel) rfl), (mw (i := 45) (by decide +kernel) rfl), by decide +kernel, by decide +kernel⟩
theorem mi_X7_readNumber : MI yX7_readNumber cX7_readNumber 1 none 0 := ⟨by decide +kernel, (mw (i := 571) (by decide +kernel) rfl), (mw (i := 45) (by decide +kernel) rfl), by decide +kernel, by decide +kernel⟩
theorem mi_X7_readWord : MI yX7_readWord cX7_readWord 1 none 0 := ⟨by decide +kernel, (mw (i := 561) (by decide +kernel) rfl), (mw (i := 45) (by decide +kernel) rfl), by decide +kernel, by decide +kernel⟩
theorem mi_X7_startAt : MI yX7_startAt cX7_startAt 3 none 2 := ⟨by decide +kernel, (mw (i := 547) (by decide +kernel) rfl), (mw (i := 45) (by decide +kernel) rfl), by decide +kernel, by decide +kernel⟩
theorem mi_X7_step : MI yX7_step cX7_step 1 none 0 := ⟨by decide +kernel, (mw (i := 554) (by decide +kernel) rfl), (mw (i := 45) (by decide +kernel) rfl), by decide +kernel, by decide +kernel⟩
theorem mi_X8_standingByClauses : MI yX8_standingByClauses cX8_standingByClauses 7 (some .int) 2 := ⟨by decide +kernel, (mw (i := 1080) (by decide +kernel) rfl), (mw (i := 39) (by decide +kernel) rfl), by decide +kernel, by decide +kernel⟩
theorem mi_X9_isLetter : MI yX9_isLetter cX9_isLetter 1 (some .boolean) 1 := ⟨by decide +kernel, (mw (i := 557) (by decide +kernel) rfl), (mw (i := 37) (by decide +kernel) rfl), by decide +kernel, by decide +kernel⟩
theorem mi_X9_joined : MI yX9_joined cX9_joined 3 (some .long) 2 := ⟨by decide +kernel, (mw (i := 564) (by decide +kernel) rfl), (mw (i := 37) (by decide +kernel) rfl), by decide +kernel, by decide +kernel⟩
theorem mi_X9_packed : MI yX9_packed cX9_packed 4 (some .long) 1 := ⟨by decide +kernel, (mw (i := 586) (by decide +kernel) rfl), (mw (i := 37) (by decide +kernel) rfl), by decide +kernel, by decide +kernel⟩
theorem fl_RX1_210 : Fl RX1 210 0 7 .int false := ⟨RX0, TX0, 8, tyX0, rfl, by decide, rfl, lay_0, (mw (i := 242) (by decide +kernel) rfl), tyX0_ok, nmX0, tyX0_ok 7 (by decide), rfl, by decide, by decide⟩
theorem fl_RX1_212 : Fl RX1 212 0 3 .int false := ⟨RX0, TX0, 8, tyX0, rfl, by decide, rfl, lay_0, (mw (i := 226) (by decide +kernel) rfl), tyX0_ok, nmX0, tyX0_ok 3 (by decide), rfl, by decide, by decide⟩
theorem fl_RX1_221 : Fl RX1 221 0 0 .int false := ⟨RX0, TX0, 8, tyX0, rfl, by decide, rfl, lay_0, (mw (i := 218) (by decide +kernel) rfl), tyX0_ok, nmX0, tyX0_ok 0 (by decide), rfl, by decide, by decide⟩
theorem fl_RX5_12 : Fl RX5 12 5 3 (.object "NotaryBook$Scanner") true := ⟨RX5, TX5, 5, tyX5, rfl, by decide, rfl, lay_5, (mw (i := 358) (by decide +kernel) rfl), tyX5_ok, nmX5, tyX5_ok 3 (by decide), rfl, by decide, fun _ => rfl⟩
theorem fl_RX5_18 : Fl RX5 18 5 0 .int false := ⟨RX5, TX5, 5, tyX5, rfl, by decide, rfl, lay_5, (mw (i := 353) (by decide +kernel) rfl), tyX5_ok, nmX5, tyX5_ok 0 (by decide), rfl, by decide, by decide⟩
theorem fl_RX5_22 : Fl RX5 22 7 4 .int false := ⟨RX7, TX7, 7, tyX7, rfl, by decide, rfl, lay_7, (mw (i := 332) (by decide +kernel) rfl), tyX7_ok, nmX7, tyX7_ok 4 (by decide), rfl, by decide, by decide⟩
theorem fl_RX5_25 : Fl RX5 25 5 1 .int false := ⟨RX5, TX5, 5, tyX5, rfl, by decide, rfl, lay_5, (mw (i := 355) (by decide +kernel) rfl), tyX5_ok, nmX5, tyX5_ok 1 (by decide), rfl, by decide, by decide⟩
theorem fl_RX5_28 : Fl RX5 28 5 4 (.object "NotaryBook$Book") false := ⟨RX5, TX5, 5, tyX5, rfl, by decide, rfl, lay_5, (mw (i := 359) (by decide +kernel) rfl), tyX5_ok, nmX5, tyX5_ok 4 (by decide), rfl, by decide, by decide⟩
theorem fl_RX5_48 : Fl RX5 48 7 3 .int false := ⟨RX7, TX7, 7, tyX7, rfl, by decide, rfl, lay_7, (mw (i := 330) (by decide +kernel) rfl), tyX7_ok, nmX7, tyX7_ok 3 (by decide), rfl, by decide, by decide⟩
theorem fl_RX5_64 : Fl RX5 64 7 6 .long false := ⟨RX7, TX7, 7, tyX7, rfl, by decide, rfl, lay_7, (mw (i := 336) (by decide +kernel) rfl), tyX7_ok, nmX7, tyX7_ok 6 (by decide), rfl, by decide, by decide⟩
theorem fl_RX5_72 : Fl RX5 72 7 5 .int false := ⟨RX7, TX7, 7, tyX7, rfl, by decide, rfl, lay_7, (mw (i := 334) (by decide +kernel) rfl), tyX7_ok, nmX7, tyX7_ok 5 (by decide), rfl, by decide, by decide⟩
theorem fl_RX5_87 : Fl RX5 87 1 0 .int false := ⟨RX1, TX1, 12, tyX1, rfl, by decide, rfl, lay_1, (mw (i := 262) (by decide +kernel) rfl), tyX1_ok, nmX1, tyX1_ok 0 (by decide), rfl, by decide, by decide⟩
theorem fl_RX5_90 : Fl RX5 90 1 1 .int false := ⟨RX1, TX1, 12, tyX1, rfl, by decide, rfl, lay_1, (mw (i := 265) (by decide +kernel) rfl), tyX1_ok, nmX1, tyX1_ok 1 (by decide), rfl, by decide, by decide⟩
theorem fl_RX5_93 : Fg RX5 93 1 9 := ⟨RX1, TX1, 12, rfl, by decide, rfl, lay_1, (mw (i := 284) (by decide +kernel) rfl)⟩
theorem fl_RX5_97 : Fl RX5 97 4 0 .int false := ⟨RX4, TX4, 4, tyX4, rfl, by decide, rfl, lay_4, (mw (i := 145) (by decide +kernel) rfl), tyX4_ok, nmX4, tyX4_ok 0 (by decide), rfl, by decide, by decide⟩
theorem fl_RX7_9 : Fl RX7 9 7 0 (.array .byte) false := ⟨RX7, TX7, 7, tyX7, rfl, by decide, rfl, lay_7, (mw (i := 326) (by decide +kernel) rfl), tyX7_ok, nmX7, tyX7_ok 0 (by decide), rfl, by decide, by decide⟩
theorem fl_RX7_21 : Fl RX7 21 7 2 .int false := ⟨RX7, TX7, 7, tyX7, rfl, by decide, rfl, lay_7, (mw (i := 328) (by decide +kernel) rfl), tyX7_ok, nmX7, tyX7_ok 2 (by decide), rfl, by decide, by decide⟩
theorem fl_RX7_25 : Fl RX7 25 7 1 .int false := ⟨RX7, TX7, 7, tyX7, rfl, by decide, rfl, lay_7, (mw (i := 327) (by decide +kernel) rfl), tyX7_ok, nmX7, tyX7_ok 1 (by decide), rfl, by decide, by decide⟩
theorem fl_RX7_31 : Fl RX7 31 7 4 .int false := ⟨RX7, TX7, 7, tyX7, rfl, by decide, rfl, lay_7, (mw (i := 333) (by decide +kernel) rfl), tyX7_ok, nmX7, tyX7_ok 4 (by decide), rfl, by decide, by decide⟩
theorem fl_RX7_34 : Fl RX7 34 7 3 .int false := ⟨RX7, TX7, 7, tyX7, rfl, by decide, rfl, lay_7, (mw (i := 331) (by decide +kernel) rfl), tyX7_ok, nmX7, tyX7_ok 3 (by decide), rfl, by decide, by decide⟩
theorem fl_RX7_54 : Fl RX7 54 7 6 .long false := ⟨RX7, TX7, 7, tyX7, rfl, by decide, rfl, lay_7, (mw (i := 337) (by decide +kernel) rfl), tyX7_ok, nmX7, tyX7_ok 6 (by decide), rfl, by decide, by decide⟩
theorem fl_RX7_62 : Fl RX7 62 7 5 .int false := ⟨RX7, TX7, 7, tyX7, rfl, by decide, rfl, lay_7, (mw (i := 335) (by decide +kernel) rfl), tyX7_ok, nmX7, tyX7_ok 5 (by decide), rfl, by decide, by decide⟩
theorem lk_RX1_197 : LV RX1 197 yX1_canInsert := ⟨(mw (i := 803) (by decide +kernel) rfl), (mw (i := 796) (by decide +kernel) rfl), (mw (i := 797) (by decide +kernel) rfl)⟩
theorem lk_RX1_200 : LV RX1 200 yX8_insert := ⟨(mw (i := 804) (by decide +kernel) rfl), (mw (i := 805) (by decide +kernel) rfl), (mw (i := 806) (by decide +kernel) rfl)⟩
theorem lk_RX1_204 : LV RX1 204 yX1_openStanding := ⟨(mw (i := 817) (by decide +kernel) rfl), (mw (i := 818) (by decide +kernel) rfl), (mw (i := 819) (by decide +kernel) rfl)⟩
theorem lk_RX1_207 : LV RX1 207 yX0_baseFee := ⟨(mw (i := 829) (by decide +kernel) rfl), (mw (i := 830) (by decide +kernel) rfl), (mw (i := 831) (by decide +kernel) rfl)⟩
theorem lk_RX1_218 : LV RX1 218 yX8_standingByClauses := ⟨(mw (i := 1077) (by decide +kernel) rfl), (mw (i := 1078) (by decide +kernel) rfl), (mw (i := 1079) (by decide +kernel) rfl)⟩
theorem lk_RX4_40 : LV RX4 40 yX4_loosenMateOf := ⟨(mw (i := 885) (by decide +kernel) rfl), (mw (i := 887) (by decide +kernel) rfl), (mw (i := 21) (by decide +kernel) rfl)⟩
theorem lk_RX4_47 : LV RX4 47 yX4_fasten := ⟨(mw (i := 905) (by decide +kernel) rfl), (mw (i := 710) (by decide +kernel) rfl), (mw (i := 711) (by decide +kernel) rfl)⟩
theorem lk_RX4_50 : LV RX4 50 yX4_isLoose := ⟨(mw (i := 906) (by decide +kernel) rfl), (mw (i := 907) (by decide +kernel) rfl), (mw (i := 908) (by decide +kernel) rfl)⟩
theorem lk_RX5_11 : LNI RX5 "NotaryBook" 11 yX7_init := ⟨(mn (i := 322) (by decide +kernel) rfl), (mw (i := 323) (by decide +kernel) rfl), rfl⟩
theorem lk_RX5_51 : LV RX5 51 yX5_fail := ⟨(mw (i := 635) (by decide +kernel) rfl), (mw (i := 637) (by decide +kernel) rfl), (mw (i := 6) (by decide +kernel) rfl)⟩
theorem lk_RX5_55 : LV RX5 55 yX7_step := ⟨(mw (i := 643) (by decide +kernel) rfl), (mw (i := 552) (by decide +kernel) rfl), (mw (i := 553) (by decide +kernel) rfl)⟩
theorem lk_RX5_68 : LNS RX5 "NotaryBook" 68 yX9_packed := ⟨(mn (i := 584) (by decide +kernel) rfl), (mw (i := 585) (by decide +kernel) rfl)⟩
theorem lk_RX5_75 : LV RX5 75 yX5_checkNumber := ⟨(mw (i := 644) (by decide +kernel) rfl), (mw (i := 646) (by decide +kernel) rfl), (mw (i := 8) (by decide +kernel) rfl)⟩
theorem lk_RX5_80 : LV RX5 80 yX5_isAtWord := ⟨(mw (i := 580) (by decide +kernel) rfl), (mw (i := 582) (by decide +kernel) rfl), (mw (i := 5) (by decide +kernel) rfl)⟩
theorem lk_RX5_84 : LV RX5 84 yX5_checkNextNumber := ⟨(mw (i := 639) (by decide +kernel) rfl), (mw (i := 641) (by decide +kernel) rfl), (mw (i := 7) (by decide +kernel) rfl)⟩
theorem lk_RX5_102 : LV RX5 102 yX5_finishLine := ⟨(mw (i := 648) (by decide +kernel) rfl), (mw (i := 650) (by decide +kernel) rfl), (mw (i := 9) (by decide +kernel) rfl)⟩
theorem lk_RX7_28 : LV RX7 28 yX7_step := ⟨(mw (i := 551) (by decide +kernel) rfl), (mw (i := 552) (by decide +kernel) rfl), (mw (i := 553) (by decide +kernel) rfl)⟩
theorem lk_RX7_37 : LNS RX7 "NotaryBook" 37 yX9_isLetter := ⟨(mn (i := 555) (by decide +kernel) rfl), (mw (i := 556) (by decide +kernel) rfl)⟩
theorem lk_RX7_41 : LV RX7 41 yX7_readWord := ⟨(mw (i := 558) (by decide +kernel) rfl), (mw (i := 560) (by decide +kernel) rfl), (mw (i := 2) (by decide +kernel) rfl)⟩
theorem lk_RX7_44 : LSt RX7 44 yX7_isDigit := ⟨(mw (i := 565) (by decide +kernel) rfl), (mw (i := 566) (by decide +kernel) rfl)⟩
theorem lk_RX7_47 : LV RX7 47 yX7_readNumber := ⟨(mw (i := 568) (by decide +kernel) rfl), (mw (i := 570) (by decide +kernel) rfl), (mw (i := 3) (by decide +kernel) rfl)⟩
theorem lk_RX7_50 : LSt RX7 50 yX7_kindOfSign := ⟨(mw (i := 572) (by decide +kernel) rfl), (mw (i := 573) (by decide +kernel) rfl)⟩
theorem lk_RX7_58 : LNS RX7 "NotaryBook" 58 yX9_joined := ⟨(mn (i := 562) (by decide +kernel) rfl), (mw (i := 563) (by decide +kernel) rfl)⟩
theorem lk_RX8_46 : LV RX8 46 yX8_standingFrom := ⟨(mw (i := 1081) (by decide +kernel) rfl), (mw (i := 822) (by decide +kernel) rfl), (mw (i := 823) (by decide +kernel) rfl)⟩
theorem lk_RX9_543 : LV RX9 543 yJ0_length_8abf5 := ⟨(mw (i := 587) (by decide +kernel) rfl), (mw (i := 588) (by decide +kernel) rfl), (mw (i := 589) (by decide +kernel) rfl)⟩
theorem lk_RX9_546 : LV RX9 546 yJ0_charAt_5068e := ⟨(mw (i := 596) (by decide +kernel) rfl), (mw (i := 597) (by decide +kernel) rfl), (mw (i := 598) (by decide +kernel) rfl)⟩
theorem lk_RX9_547 : LSt RX9 547 yX9_joined := ⟨(mw (i := 634) (by decide +kernel) rfl), (mw (i := 563) (by decide +kernel) rfl)⟩
theorem nw_RX5_9 : NW RX5 9 7 := ⟨RX7, TX7, 7, tyX7, rfl, rfl, lay_7, tyX7_ok, (mw (i := 320) (by decide +kernel) rfl), (mw (i := 321) (by decide +kernel) rfl), (mw (i := 45) (by decide +kernel) rfl), by decide, dv_7⟩
theorem mt_RX1_215 : MTW RX1 215 Lib.Math.abs.name Lib.Math.abs.code 1 := ⟨(mw (i := 1070) (by decide +kernel) rfl), (mw (i := 1071) (by decide +kernel) rfl), (mw (i := 56) (by decide +kernel) rfl), (mw (i := 1072) (by decide +kernel) rfl)⟩
theorem mt_RX7_15 : MTW RX7 15 Lib.Math.min.name Lib.Math.min.code 2 := ⟨(mw (i := 548) (by decide +kernel) rfl), (mw (i := 549) (by decide +kernel) rfl), (mw (i := 56) (by decide +kernel) rfl), (mw (i := 550) (by decide +kernel) rfl)⟩
theorem obj_RX5_3 : OBW RX5 3 := ⟨(mw (i := 319) (by decide +kernel) rfl), (mw (i := 81) (by decide +kernel) rfl), (mw (i := 82) (by decide +kernel) rfl)⟩
theorem obj_RX7_3 : OBW RX7 3 := ⟨(mw (i := 325) (by decide +kernel) rfl), (mw (i := 81) (by decide +kernel) rfl), (mw (i := 82) (by decide +kernel) rfl)⟩
theorem dX1_insertWord_0 : decode cX1_insertWord 0 = .ok (.aload_n 0, 1) := by decide +kernel
theorem dX1_insertWord_1 : decode cX1_insertWord 1 = .ok (.invokevirtual 87, 3) := by decide +kernel
theorem dX1_insertWord_4 : decode cX1_insertWord 4 = .ok (.astore 4, 2) := by decide +kernel
theorem dX1_insertWord_6 : decode cX1_insertWord 6 = .ok (.aload 4, 2) := by decide +kernel
theorem dX1_insertWord_8 : decode cX1_insertWord 8 = .ok (.ifnull 37, 3) := by decide +kernel
theorem dX1_insertWord_11 : decode cX1_insertWord 11 = .ok (.aload_n 0, 1) := by decide +kernel
theorem dX1_insertWord_12 : decode cX1_insertWord 12 = .ok (.iload_n 1, 1) := by decide +kernel
theorem dX1_insertWord_13 : decode cX1_insertWord 13 = .ok (.invokevirtual 197, 3) := by decide +kernel
theorem dX1_insertWord_16 : decode cX1_insertWord 16 = .ok (.ifCond .eq 29, 3) := by decide +kernel
theorem dX1_insertWord_19 : decode cX1_insertWord 19 = .ok (.aload_n 0, 1) := by decide +kernel
theorem dX1_insertWord_20 : decode cX1_insertWord 20 = .ok (.getfield 24, 3) := by decide +kernel
theorem dX1_insertWord_23 : decode cX1_insertWord 23 = .ok (.aload 4, 2) := by decide +kernel
theorem dX1_insertWord_25 : decode cX1_insertWord 25 = .ok (.getfield 92, 3) := by decide +kernel
theorem dX1_insertWord_28 : decode cX1_insertWord 28 = .ok (.iload_n 1, 1) := by decide +kernel
theorem dX1_insertWord_29 : decode cX1_insertWord 29 = .ok (.iadd, 1) := by decide +kernel
theorem dX1_insertWord_30 : decode cX1_insertWord 30 = .ok (.lload_n 2, 1) := by decide +kernel
theorem dX1_insertWord_31 : decode cX1_insertWord 31 = .ok (.invokevirtual 200, 3) := by decide +kernel
theorem dX1_insertWord_34 : decode cX1_insertWord 34 = .ok (.aload 4, 2) := by decide +kernel
theorem dX1_insertWord_36 : decode cX1_insertWord 36 = .ok (.dup, 1) := by decide +kernel
theorem dX1_insertWord_37 : decode cX1_insertWord 37 = .ok (.getfield 99, 3) := by decide +kernel
theorem dX1_insertWord_40 : decode cX1_insertWord 40 = .ok (.iconst 1, 1) := by decide +kernel
theorem dX1_insertWord_41 : decode cX1_insertWord 41 = .ok (.iadd, 1) := by decide +kernel
theorem dX1_insertWord_42 : decode cX1_insertWord 42 = .ok (.putfield 99, 3) := by decide +kernel
theorem dX1_insertWord_45 : decode cX1_insertWord 45 = .ok (.return_, 1) := by decide +kernel
theorem dX1_sealReason_0 : decode cX1_sealReason 0 = .ok (.aload_n 0, 1) := by decide +kernel
theorem dX1_sealReason_1 : decode cX1_sealReason 1 = .ok (.invokevirtual 87, 3) := by decide +kernel
theorem dX1_sealReason_4 : decode cX1_sealReason 4 = .ok (.astore_n 3, 1) := by decide +kernel
theorem dX1_sealReason_5 : decode cX1_sealReason 5 = .ok (.aload_n 3, 1) := by decide +kernel
theorem dX1_sealReason_6 : decode cX1_sealReason 6 = .ok (.ifnonnull 5, 3) := by decide +kernel
theorem dX1_sealReason_9 : decode cX1_sealReason 9 = .ok (.iconst 1, 1) := by decide +kernel
theorem dX1_sealReason_10 : decode cX1_sealReason 10 = .ok (.ireturn, 1) := by decide +kernel
theorem dX1_sealReason_11 : decode cX1_sealReason 11 = .ok (.iload_n 1, 1) := by decide +kernel
theorem dX1_sealReason_12 : decode cX1_sealReason 12 = .ok (.aload_n 0, 1) := by decide +kernel
theorem dX1_sealReason_13 : decode cX1_sealReason 13 = .ok (.getfield 52, 3) := by decide +kernel
theorem dX1_sealReason_16 : decode cX1_sealReason 16 = .ok (.if_icmp .ge 5, 3) := by decide +kernel
theorem dX1_sealReason_19 : decode cX1_sealReason 19 = .ok (.iconst 2, 1) := by decide +kernel
theorem dX1_sealReason_20 : decode cX1_sealReason 20 = .ok (.ireturn, 1) := by decide +kernel
theorem dX1_sealReason_21 : decode cX1_sealReason 21 = .ok (.iload_n 2, 1) := by decide +kernel
theorem dX1_sealReason_22 : decode cX1_sealReason 22 = .ok (.aload_n 3, 1) := by decide +kernel
theorem dX1_sealReason_23 : decode cX1_sealReason 23 = .ok (.getfield 99, 3) := by decide +kernel
theorem dX1_sealReason_26 : decode cX1_sealReason 26 = .ok (.if_icmp .eq 5, 3) := by decide +kernel
theorem dX1_sealReason_29 : decode cX1_sealReason 29 = .ok (.iconst 3, 1) := by decide +kernel
theorem dX1_sealReason_30 : decode cX1_sealReason 30 = .ok (.ireturn, 1) := by decide +kernel
theorem dX1_sealReason_31 : decode cX1_sealReason 31 = .ok (.aload_n 0, 1) := by decide +kernel
theorem dX1_sealReason_32 : decode cX1_sealReason 32 = .ok (.invokevirtual 204, 3) := by decide +kernel
theorem dX1_sealReason_35 : decode cX1_sealReason 35 = .ok (.ifCond .ne 7, 3) := by decide +kernel
theorem dX1_sealReason_38 : decode cX1_sealReason 38 = .ok (.iconst 4, 1) := by decide +kernel
theorem dX1_sealReason_39 : decode cX1_sealReason 39 = .ok (.goto 4, 3) := by decide +kernel
theorem dX1_sealReason_42 : decode cX1_sealReason 42 = .ok (.iconst 0, 1) := by decide +kernel
theorem dX1_sealReason_43 : decode cX1_sealReason 43 = .ok (.ireturn, 1) := by decide +kernel
theorem dX1_sealOpen_0 : decode cX1_sealOpen 0 = .ok (.aload_n 0, 1) := by decide +kernel
theorem dX1_sealOpen_1 : decode cX1_sealOpen 1 = .ok (.invokevirtual 87, 3) := by decide +kernel
theorem dX1_sealOpen_4 : decode cX1_sealOpen 4 = .ok (.astore_n 2, 1) := by decide +kernel
theorem dX1_sealOpen_5 : decode cX1_sealOpen 5 = .ok (.aload_n 2, 1) := by decide +kernel
theorem dX1_sealOpen_6 : decode cX1_sealOpen 6 = .ok (.ifnonnull 5, 3) := by decide +kernel
theorem dX1_sealOpen_9 : decode cX1_sealOpen 9 = .ok (.iconst 0, 1) := by decide +kernel
theorem dX1_sealOpen_10 : decode cX1_sealOpen 10 = .ok (.ireturn, 1) := by decide +kernel
theorem dX1_sealOpen_11 : decode cX1_sealOpen 11 = .ok (.aload_n 2, 1) := by decide +kernel
theorem dX1_sealOpen_12 : decode cX1_sealOpen 12 = .ok (.aload_n 2, 1) := by decide +kernel
theorem dX1_sealOpen_13 : decode cX1_sealOpen 13 = .ok (.invokevirtual 207, 3) := by decide +kernel
theorem dX1_sealOpen_16 : decode cX1_sealOpen 16 = .ok (.aload_n 0, 1) := by decide +kernel
theorem dX1_sealOpen_17 : decode cX1_sealOpen 17 = .ok (.invokevirtual 204, 3) := by decide +kernel
theorem dX1_sealOpen_20 : decode cX1_sealOpen 20 = .ok (.iadd, 1) := by decide +kernel
theorem dX1_sealOpen_21 : decode cX1_sealOpen 21 = .ok (.putfield 210, 3) := by decide +kernel
theorem dX1_sealOpen_24 : decode cX1_sealOpen 24 = .ok (.aload_n 2, 1) := by decide +kernel
theorem dX1_sealOpen_25 : decode cX1_sealOpen 25 = .ok (.iload_n 1, 1) := by decide +kernel
theorem dX1_sealOpen_26 : decode cX1_sealOpen 26 = .ok (.putfield 212, 3) := by decide +kernel
theorem dX1_sealOpen_29 : decode cX1_sealOpen 29 = .ok (.aload_n 2, 1) := by decide +kernel
theorem dX1_sealOpen_30 : decode cX1_sealOpen 30 = .ok (.iconst 1, 1) := by decide +kernel
theorem dX1_sealOpen_31 : decode cX1_sealOpen 31 = .ok (.putfield 84, 3) := by decide +kernel
theorem dX1_sealOpen_34 : decode cX1_sealOpen 34 = .ok (.aload_n 0, 1) := by decide +kernel
theorem dX1_sealOpen_35 : decode cX1_sealOpen 35 = .ok (.dup, 1) := by decide +kernel
theorem dX1_sealOpen_36 : decode cX1_sealOpen 36 = .ok (.getfield 61, 3) := by decide +kernel
theorem dX1_sealOpen_39 : decode cX1_sealOpen 39 = .ok (.aload_n 2, 1) := by decide +kernel
theorem dX1_sealOpen_40 : decode cX1_sealOpen 40 = .ok (.getfield 210, 3) := by decide +kernel
theorem dX1_sealOpen_43 : decode cX1_sealOpen 43 = .ok (.iadd, 1) := by decide +kernel
theorem dX1_sealOpen_44 : decode cX1_sealOpen 44 = .ok (.putfield 61, 3) := by decide +kernel
theorem dX1_sealOpen_47 : decode cX1_sealOpen 47 = .ok (.aload_n 2, 1) := by decide +kernel
theorem dX1_sealOpen_48 : decode cX1_sealOpen 48 = .ok (.getfield 210, 3) := by decide +kernel
theorem dX1_sealOpen_51 : decode cX1_sealOpen 51 = .ok (.ireturn, 1) := by decide +kernel
theorem dX1_cancelOpen_0 : decode cX1_cancelOpen 0 = .ok (.aload_n 0, 1) := by decide +kernel
theorem dX1_cancelOpen_1 : decode cX1_cancelOpen 1 = .ok (.invokevirtual 87, 3) := by decide +kernel
theorem dX1_cancelOpen_4 : decode cX1_cancelOpen 4 = .ok (.astore_n 1, 1) := by decide +kernel
theorem dX1_cancelOpen_5 : decode cX1_cancelOpen 5 = .ok (.aload_n 1, 1) := by decide +kernel
theorem dX1_cancelOpen_6 : decode cX1_cancelOpen 6 = .ok (.ifnull 8, 3) := by decide +kernel
theorem dX1_cancelOpen_9 : decode cX1_cancelOpen 9 = .ok (.aload_n 1, 1) := by decide +kernel
theorem dX1_cancelOpen_10 : decode cX1_cancelOpen 10 = .ok (.iconst 2, 1) := by decide +kernel
theorem dX1_cancelOpen_11 : decode cX1_cancelOpen 11 = .ok (.putfield 84, 3) := by decide +kernel
theorem dX1_cancelOpen_14 : decode cX1_cancelOpen 14 = .ok (.return_, 1) := by decide +kernel
theorem dX1_wordsGap_0 : decode cX1_wordsGap 0 = .ok (.iconst 0, 1) := by decide +kernel
theorem dX1_wordsGap_1 : decode cX1_wordsGap 1 = .ok (.istore_n 1, 1) := by decide +kernel
theorem dX1_wordsGap_2 : decode cX1_wordsGap 2 = .ok (.iconst 0, 1) := by decide +kernel
theorem dX1_wordsGap_3 : decode cX1_wordsGap 3 = .ok (.istore_n 2, 1) := by decide +kernel
theorem dX1_wordsGap_4 : decode cX1_wordsGap 4 = .ok (.iload_n 2, 1) := by decide +kernel
theorem dX1_wordsGap_5 : decode cX1_wordsGap 5 = .ok (.aload_n 0, 1) := by decide +kernel
theorem dX1_wordsGap_6 : decode cX1_wordsGap 6 = .ok (.getfield 31, 3) := by decide +kernel
theorem dX1_wordsGap_9 : decode cX1_wordsGap 9 = .ok (.getfield 83, 3) := by decide +kernel
theorem dX1_wordsGap_12 : decode cX1_wordsGap 12 = .ok (.if_icmp .ge 17, 3) := by decide +kernel
theorem dX1_wordsGap_15 : decode cX1_wordsGap 15 = .ok (.iload_n 1, 1) := by decide +kernel
theorem dX1_wordsGap_16 : decode cX1_wordsGap 16 = .ok (.aload_n 0, 1) := by decide +kernel
theorem dX1_wordsGap_17 : decode cX1_wordsGap 17 = .ok (.iload_n 2, 1) := by decide +kernel
theorem dX1_wordsGap_18 : decode cX1_wordsGap 18 = .ok (.invokevirtual 146, 3) := by decide +kernel
theorem dX1_wordsGap_21 : decode cX1_wordsGap 21 = .ok (.iadd, 1) := by decide +kernel
theorem dX1_wordsGap_22 : decode cX1_wordsGap 22 = .ok (.istore_n 1, 1) := by decide +kernel
theorem dX1_wordsGap_23 : decode cX1_wordsGap 23 = .ok (.iinc 2 1, 3) := by decide +kernel
theorem dX1_wordsGap_26 : decode cX1_wordsGap 26 = .ok (.goto (-22), 3) := by decide +kernel
theorem dX1_wordsGap_29 : decode cX1_wordsGap 29 = .ok (.iconst 0, 1) := by decide +kernel
theorem dX1_wordsGap_30 : decode cX1_wordsGap 30 = .ok (.istore_n 2, 1) := by decide +kernel
theorem dX1_wordsGap_31 : decode cX1_wordsGap 31 = .ok (.iload_n 2, 1) := by decide +kernel
theorem dX1_wordsGap_32 : decode cX1_wordsGap 32 = .ok (.aload_n 0, 1) := by decide +kernel
theorem dX1_wordsGap_33 : decode cX1_wordsGap 33 = .ok (.getfield 55, 3) := by decide +kernel
theorem dX1_wordsGap_36 : decode cX1_wordsGap 36 = .ok (.if_icmp .ge 21, 3) := by decide +kernel
theorem dX1_wordsGap_39 : decode cX1_wordsGap 39 = .ok (.iload_n 1, 1) := by decide +kernel
theorem dX1_wordsGap_40 : decode cX1_wordsGap 40 = .ok (.aload_n 0, 1) := by decide +kernel
theorem dX1_wordsGap_41 : decode cX1_wordsGap 41 = .ok (.getfield 11, 3) := by decide +kernel
theorem dX1_wordsGap_44 : decode cX1_wordsGap 44 = .ok (.iload_n 2, 1) := by decide +kernel
theorem dX1_wordsGap_45 : decode cX1_wordsGap 45 = .ok (.aaload, 1) := by decide +kernel
theorem dX1_wordsGap_46 : decode cX1_wordsGap 46 = .ok (.getfield 91, 3) := by decide +kernel
theorem dX1_wordsGap_49 : decode cX1_wordsGap 49 = .ok (.isub, 1) := by decide +kernel
theorem dX1_wordsGap_50 : decode cX1_wordsGap 50 = .ok (.istore_n 1, 1) := by decide +kernel
theorem dX1_wordsGap_51 : decode cX1_wordsGap 51 = .ok (.iinc 2 1, 3) := by decide +kernel
theorem dX1_wordsGap_54 : decode cX1_wordsGap 54 = .ok (.goto (-23), 3) := by decide +kernel
theorem dX1_wordsGap_57 : decode cX1_wordsGap 57 = .ok (.iload_n 1, 1) := by decide +kernel
theorem dX1_wordsGap_58 : decode cX1_wordsGap 58 = .ok (.invokestatic 215, 3) := by decide +kernel
theorem dX1_wordsGap_61 : decode cX1_wordsGap 61 = .ok (.ireturn, 1) := by decide +kernel
theorem dX8_standingByClauses_0 : decode cX8_standingByClauses 0 = .ok (.iconst 0, 1) := by decide +kernel
theorem dX8_standingByClauses_1 : decode cX8_standingByClauses 1 = .ok (.istore_n 3, 1) := by decide +kernel
theorem dX8_standingByClauses_2 : decode cX8_standingByClauses 2 = .ok (.iconst 0, 1) := by decide +kernel
theorem dX8_standingByClauses_3 : decode cX8_standingByClauses 3 = .ok (.istore 4, 2) := by decide +kernel
theorem dX8_standingByClauses_5 : decode cX8_standingByClauses 5 = .ok (.iconst 0, 1) := by decide +kernel
theorem dX8_standingByClauses_6 : decode cX8_standingByClauses 6 = .ok (.istore 5, 2) := by decide +kernel
theorem dX8_standingByClauses_8 : decode cX8_standingByClauses 8 = .ok (.iload_n 1, 1) := by decide +kernel
theorem dX8_standingByClauses_9 : decode cX8_standingByClauses 9 = .ok (.istore 6, 2) := by decide +kernel
theorem dX8_standingByClauses_11 : decode cX8_standingByClauses 11 = .ok (.iload 6, 2) := by decide +kernel
theorem dX8_standingByClauses_13 : decode cX8_standingByClauses 13 = .ok (.iload_n 1, 1) := by decide +kernel
theorem dX8_standingByClauses_14 : decode cX8_standingByClauses 14 = .ok (.iload_n 2, 1) := by decide +kernel
theorem dX8_standingByClauses_15 : decode cX8_standingByClauses 15 = .ok (.iadd, 1) := by decide +kernel
theorem dX8_standingByClauses_16 : decode cX8_standingByClauses 16 = .ok (.if_icmp .ge 58, 3) := by decide +kernel
theorem dX8_standingByClauses_19 : decode cX8_standingByClauses 19 = .ok (.iload 5, 2) := by decide +kernel
theorem dX8_standingByClauses_21 : decode cX8_standingByClauses 21 = .ok (.aload_n 0, 1) := by decide +kernel
theorem dX8_standingByClauses_22 : decode cX8_standingByClauses 22 = .ok (.getfield 15, 3) := by decide +kernel
theorem dX8_standingByClauses_25 : decode cX8_standingByClauses 25 = .ok (.iload 6, 2) := by decide +kernel
theorem dX8_standingByClauses_27 : decode cX8_standingByClauses 27 = .ok (.iaload, 1) := by decide +kernel
theorem dX8_standingByClauses_28 : decode cX8_standingByClauses 28 = .ok (.iadd, 1) := by decide +kernel
theorem dX8_standingByClauses_29 : decode cX8_standingByClauses 29 = .ok (.istore 5, 2) := by decide +kernel
theorem dX8_standingByClauses_31 : decode cX8_standingByClauses 31 = .ok (.iload 4, 2) := by decide +kernel
theorem dX8_standingByClauses_33 : decode cX8_standingByClauses 33 = .ok (.aload_n 0, 1) := by decide +kernel
theorem dX8_standingByClauses_34 : decode cX8_standingByClauses 34 = .ok (.iload 6, 2) := by decide +kernel
theorem dX8_standingByClauses_36 : decode cX8_standingByClauses 36 = .ok (.iconst 1, 1) := by decide +kernel
theorem dX8_standingByClauses_37 : decode cX8_standingByClauses 37 = .ok (.invokevirtual 46, 3) := by decide +kernel
theorem dX8_standingByClauses_40 : decode cX8_standingByClauses 40 = .ok (.iadd, 1) := by decide +kernel
theorem dX8_standingByClauses_41 : decode cX8_standingByClauses 41 = .ok (.istore 4, 2) := by decide +kernel
theorem dX8_standingByClauses_43 : decode cX8_standingByClauses 43 = .ok (.iload 5, 2) := by decide +kernel
theorem dX8_standingByClauses_45 : decode cX8_standingByClauses 45 = .ok (.aload_n 0, 1) := by decide +kernel
theorem dX8_standingByClauses_46 : decode cX8_standingByClauses 46 = .ok (.getfield 19, 3) := by decide +kernel
theorem dX8_standingByClauses_49 : decode cX8_standingByClauses 49 = .ok (.iload 6, 2) := by decide +kernel
theorem dX8_standingByClauses_51 : decode cX8_standingByClauses 51 = .ok (.iaload, 1) := by decide +kernel
theorem dX8_standingByClauses_52 : decode cX8_standingByClauses 52 = .ok (.isub, 1) := by decide +kernel
theorem dX8_standingByClauses_53 : decode cX8_standingByClauses 53 = .ok (.istore 5, 2) := by decide +kernel
theorem dX8_standingByClauses_55 : decode cX8_standingByClauses 55 = .ok (.iload 5, 2) := by decide +kernel
theorem dX8_standingByClauses_57 : decode cX8_standingByClauses 57 = .ok (.ifCond .ne 11, 3) := by decide +kernel
theorem dX8_standingByClauses_60 : decode cX8_standingByClauses 60 = .ok (.iload_n 3, 1) := by decide +kernel
theorem dX8_standingByClauses_61 : decode cX8_standingByClauses 61 = .ok (.iload 4, 2) := by decide +kernel
theorem dX8_standingByClauses_63 : decode cX8_standingByClauses 63 = .ok (.iadd, 1) := by decide +kernel
theorem dX8_standingByClauses_64 : decode cX8_standingByClauses 64 = .ok (.istore_n 3, 1) := by decide +kernel
theorem dX8_standingByClauses_65 : decode cX8_standingByClauses 65 = .ok (.iconst 0, 1) := by decide +kernel
theorem dX8_standingByClauses_66 : decode cX8_standingByClauses 66 = .ok (.istore 4, 2) := by decide +kernel
theorem dX8_standingByClauses_68 : decode cX8_standingByClauses 68 = .ok (.iinc 6 1, 3) := by decide +kernel
theorem dX8_standingByClauses_71 : decode cX8_standingByClauses 71 = .ok (.goto (-60), 3) := by decide +kernel
theorem dX8_standingByClauses_74 : decode cX8_standingByClauses 74 = .ok (.iload_n 3, 1) := by decide +kernel
theorem dX8_standingByClauses_75 : decode cX8_standingByClauses 75 = .ok (.ireturn, 1) := by decide +kernel
theorem dX1_standingGap_0 : decode cX1_standingGap 0 = .ok (.iconst 0, 1) := by decide +kernel
theorem dX1_standingGap_1 : decode cX1_standingGap 1 = .ok (.istore_n 1, 1) := by decide +kernel
theorem dX1_standingGap_2 : decode cX1_standingGap 2 = .ok (.iconst 0, 1) := by decide +kernel
theorem dX1_standingGap_3 : decode cX1_standingGap 3 = .ok (.istore_n 2, 1) := by decide +kernel
theorem dX1_standingGap_4 : decode cX1_standingGap 4 = .ok (.iload_n 2, 1) := by decide +kernel
theorem dX1_standingGap_5 : decode cX1_standingGap 5 = .ok (.aload_n 0, 1) := by decide +kernel
theorem dX1_standingGap_6 : decode cX1_standingGap 6 = .ok (.getfield 55, 3) := by decide +kernel
theorem dX1_standingGap_9 : decode cX1_standingGap 9 = .ok (.if_icmp .ge 67, 3) := by decide +kernel
theorem dX1_standingGap_12 : decode cX1_standingGap 12 = .ok (.aload_n 0, 1) := by decide +kernel
theorem dX1_standingGap_13 : decode cX1_standingGap 13 = .ok (.getfield 24, 3) := by decide +kernel
theorem dX1_standingGap_16 : decode cX1_standingGap 16 = .ok (.aload_n 0, 1) := by decide +kernel
theorem dX1_standingGap_17 : decode cX1_standingGap 17 = .ok (.getfield 11, 3) := by decide +kernel
theorem dX1_standingGap_20 : decode cX1_standingGap 20 = .ok (.iload_n 2, 1) := by decide +kernel
theorem dX1_standingGap_21 : decode cX1_standingGap 21 = .ok (.aaload, 1) := by decide +kernel
theorem dX1_standingGap_22 : decode cX1_standingGap 22 = .ok (.getfield 92, 3) := by decide +kernel
theorem dX1_standingGap_25 : decode cX1_standingGap 25 = .ok (.aload_n 0, 1) := by decide +kernel
theorem dX1_standingGap_26 : decode cX1_standingGap 26 = .ok (.getfield 11, 3) := by decide +kernel
theorem dX1_standingGap_29 : decode cX1_standingGap 29 = .ok (.iload_n 2, 1) := by decide +kernel
theorem dX1_standingGap_30 : decode cX1_standingGap 30 = .ok (.aaload, 1) := by decide +kernel
theorem dX1_standingGap_31 : decode cX1_standingGap 31 = .ok (.getfield 91, 3) := by decide +kernel
theorem dX1_standingGap_34 : decode cX1_standingGap 34 = .ok (.invokevirtual 218, 3) := by decide +kernel
theorem dX1_standingGap_37 : decode cX1_standingGap 37 = .ok (.istore_n 3, 1) := by decide +kernel
theorem dX1_standingGap_38 : decode cX1_standingGap 38 = .ok (.iload_n 3, 1) := by decide +kernel
theorem dX1_standingGap_39 : decode cX1_standingGap 39 = .ok (.aload_n 0, 1) := by decide +kernel
theorem dX1_standingGap_40 : decode cX1_standingGap 40 = .ok (.getfield 24, 3) := by decide +kernel
theorem dX1_standingGap_43 : decode cX1_standingGap 43 = .ok (.aload_n 0, 1) := by decide +kernel
theorem dX1_standingGap_44 : decode cX1_standingGap 44 = .ok (.getfield 11, 3) := by decide +kernel
theorem dX1_standingGap_47 : decode cX1_standingGap 47 = .ok (.iload_n 2, 1) := by decide +kernel
theorem dX1_standingGap_48 : decode cX1_standingGap 48 = .ok (.aaload, 1) := by decide +kernel
theorem dX1_standingGap_49 : decode cX1_standingGap 49 = .ok (.getfield 92, 3) := by decide +kernel
theorem dX1_standingGap_52 : decode cX1_standingGap 52 = .ok (.aload_n 0, 1) := by decide +kernel
theorem dX1_standingGap_53 : decode cX1_standingGap 53 = .ok (.getfield 11, 3) := by decide +kernel
theorem dX1_standingGap_56 : decode cX1_standingGap 56 = .ok (.iload_n 2, 1) := by decide +kernel
theorem dX1_standingGap_57 : decode cX1_standingGap 57 = .ok (.aaload, 1) := by decide +kernel
theorem dX1_standingGap_58 : decode cX1_standingGap 58 = .ok (.getfield 91, 3) := by decide +kernel
theorem dX1_standingGap_61 : decode cX1_standingGap 61 = .ok (.invokevirtual 95, 3) := by decide +kernel
theorem dX1_standingGap_64 : decode cX1_standingGap 64 = .ok (.if_icmp .eq 6, 3) := by decide +kernel
theorem dX1_standingGap_67 : decode cX1_standingGap 67 = .ok (.iinc 1 1, 3) := by decide +kernel
theorem dX1_standingGap_70 : decode cX1_standingGap 70 = .ok (.iinc 2 1, 3) := by decide +kernel
theorem dX1_standingGap_73 : decode cX1_standingGap 73 = .ok (.goto (-69), 3) := by decide +kernel
theorem dX1_standingGap_76 : decode cX1_standingGap 76 = .ok (.iload_n 1, 1) := by decide +kernel
theorem dX1_standingGap_77 : decode cX1_standingGap 77 = .ok (.ireturn, 1) := by decide +kernel
theorem dX1_cashGap_0 : decode cX1_cashGap 0 = .ok (.aload_n 0, 1) := by decide +kernel
theorem dX1_cashGap_1 : decode cX1_cashGap 1 = .ok (.getfield 61, 3) := by decide +kernel
theorem dX1_cashGap_4 : decode cX1_cashGap 4 = .ok (.aload_n 0, 1) := by decide +kernel
theorem dX1_cashGap_5 : decode cX1_cashGap 5 = .ok (.getfield 64, 3) := by decide +kernel
theorem dX1_cashGap_8 : decode cX1_cashGap 8 = .ok (.isub, 1) := by decide +kernel
theorem dX1_cashGap_9 : decode cX1_cashGap 9 = .ok (.istore_n 1, 1) := by decide +kernel
theorem dX1_cashGap_10 : decode cX1_cashGap 10 = .ok (.iconst 0, 1) := by decide +kernel
theorem dX1_cashGap_11 : decode cX1_cashGap 11 = .ok (.istore_n 2, 1) := by decide +kernel
theorem dX1_cashGap_12 : decode cX1_cashGap 12 = .ok (.iload_n 2, 1) := by decide +kernel
theorem dX1_cashGap_13 : decode cX1_cashGap 13 = .ok (.aload_n 0, 1) := by decide +kernel
theorem dX1_cashGap_14 : decode cX1_cashGap 14 = .ok (.getfield 55, 3) := by decide +kernel
theorem dX1_cashGap_17 : decode cX1_cashGap 17 = .ok (.if_icmp .ge 21, 3) := by decide +kernel
theorem dX1_cashGap_20 : decode cX1_cashGap 20 = .ok (.iload_n 1, 1) := by decide +kernel
theorem dX1_cashGap_21 : decode cX1_cashGap 21 = .ok (.aload_n 0, 1) := by decide +kernel
theorem dX1_cashGap_22 : decode cX1_cashGap 22 = .ok (.getfield 11, 3) := by decide +kernel
theorem dX1_cashGap_25 : decode cX1_cashGap 25 = .ok (.iload_n 2, 1) := by decide +kernel
theorem dX1_cashGap_26 : decode cX1_cashGap 26 = .ok (.aaload, 1) := by decide +kernel
theorem dX1_cashGap_27 : decode cX1_cashGap 27 = .ok (.getfield 210, 3) := by decide +kernel
theorem dX1_cashGap_30 : decode cX1_cashGap 30 = .ok (.isub, 1) := by decide +kernel
theorem dX1_cashGap_31 : decode cX1_cashGap 31 = .ok (.istore_n 1, 1) := by decide +kernel
theorem dX1_cashGap_32 : decode cX1_cashGap 32 = .ok (.iinc 2 1, 3) := by decide +kernel
theorem dX1_cashGap_35 : decode cX1_cashGap 35 = .ok (.goto (-23), 3) := by decide +kernel
theorem dX1_cashGap_38 : decode cX1_cashGap 38 = .ok (.iconst 0, 1) := by decide +kernel
theorem dX1_cashGap_39 : decode cX1_cashGap 39 = .ok (.istore_n 2, 1) := by decide +kernel
theorem dX1_cashGap_40 : decode cX1_cashGap 40 = .ok (.iload_n 2, 1) := by decide +kernel
theorem dX1_cashGap_41 : decode cX1_cashGap 41 = .ok (.aload_n 0, 1) := by decide +kernel
theorem dX1_cashGap_42 : decode cX1_cashGap 42 = .ok (.getfield 58, 3) := by decide +kernel
theorem dX1_cashGap_45 : decode cX1_cashGap 45 = .ok (.if_icmp .ge 21, 3) := by decide +kernel
theorem dX1_cashGap_48 : decode cX1_cashGap 48 = .ok (.iload_n 1, 1) := by decide +kernel
theorem dX1_cashGap_49 : decode cX1_cashGap 49 = .ok (.aload_n 0, 1) := by decide +kernel
theorem dX1_cashGap_50 : decode cX1_cashGap 50 = .ok (.getfield 17, 3) := by decide +kernel
theorem dX1_cashGap_53 : decode cX1_cashGap 53 = .ok (.iload_n 2, 1) := by decide +kernel
theorem dX1_cashGap_54 : decode cX1_cashGap 54 = .ok (.aaload, 1) := by decide +kernel
theorem dX1_cashGap_55 : decode cX1_cashGap 55 = .ok (.invokevirtual 160, 3) := by decide +kernel
theorem dX1_cashGap_58 : decode cX1_cashGap 58 = .ok (.isub, 1) := by decide +kernel
theorem dX1_cashGap_59 : decode cX1_cashGap 59 = .ok (.istore_n 1, 1) := by decide +kernel
theorem dX1_cashGap_60 : decode cX1_cashGap 60 = .ok (.iinc 2 1, 3) := by decide +kernel
theorem dX1_cashGap_63 : decode cX1_cashGap 63 = .ok (.goto (-23), 3) := by decide +kernel
theorem dX1_cashGap_66 : decode cX1_cashGap 66 = .ok (.iload_n 1, 1) := by decide +kernel
theorem dX1_cashGap_67 : decode cX1_cashGap 67 = .ok (.invokestatic 215, 3) := by decide +kernel
theorem dX1_cashGap_70 : decode cX1_cashGap 70 = .ok (.ireturn, 1) := by decide +kernel
theorem dX1_numbersGap_0 : decode cX1_numbersGap 0 = .ok (.iconst 0, 1) := by decide +kernel
theorem dX1_numbersGap_1 : decode cX1_numbersGap 1 = .ok (.istore_n 1, 1) := by decide +kernel
theorem dX1_numbersGap_2 : decode cX1_numbersGap 2 = .ok (.iconst 0, 1) := by decide +kernel
theorem dX1_numbersGap_3 : decode cX1_numbersGap 3 = .ok (.istore_n 2, 1) := by decide +kernel
theorem dX1_numbersGap_4 : decode cX1_numbersGap 4 = .ok (.iload_n 2, 1) := by decide +kernel
theorem dX1_numbersGap_5 : decode cX1_numbersGap 5 = .ok (.aload_n 0, 1) := by decide +kernel
theorem dX1_numbersGap_6 : decode cX1_numbersGap 6 = .ok (.getfield 55, 3) := by decide +kernel
theorem dX1_numbersGap_9 : decode cX1_numbersGap 9 = .ok (.if_icmp .ge 27, 3) := by decide +kernel
theorem dX1_numbersGap_12 : decode cX1_numbersGap 12 = .ok (.aload_n 0, 1) := by decide +kernel
theorem dX1_numbersGap_13 : decode cX1_numbersGap 13 = .ok (.getfield 11, 3) := by decide +kernel
theorem dX1_numbersGap_16 : decode cX1_numbersGap 16 = .ok (.iload_n 2, 1) := by decide +kernel
theorem dX1_numbersGap_17 : decode cX1_numbersGap 17 = .ok (.aaload, 1) := by decide +kernel
theorem dX1_numbersGap_18 : decode cX1_numbersGap 18 = .ok (.getfield 221, 3) := by decide +kernel
theorem dX1_numbersGap_21 : decode cX1_numbersGap 21 = .ok (.iload_n 2, 1) := by decide +kernel
theorem dX1_numbersGap_22 : decode cX1_numbersGap 22 = .ok (.iconst 1, 1) := by decide +kernel
theorem dX1_numbersGap_23 : decode cX1_numbersGap 23 = .ok (.iadd, 1) := by decide +kernel
theorem dX1_numbersGap_24 : decode cX1_numbersGap 24 = .ok (.if_icmp .eq 6, 3) := by decide +kernel
theorem dX1_numbersGap_27 : decode cX1_numbersGap 27 = .ok (.iinc 1 1, 3) := by decide +kernel
theorem dX1_numbersGap_30 : decode cX1_numbersGap 30 = .ok (.iinc 2 1, 3) := by decide +kernel
theorem dX1_numbersGap_33 : decode cX1_numbersGap 33 = .ok (.goto (-29), 3) := by decide +kernel
theorem dX1_numbersGap_36 : decode cX1_numbersGap 36 = .ok (.iload_n 1, 1) := by decide +kernel
theorem dX1_numbersGap_37 : decode cX1_numbersGap 37 = .ok (.ireturn, 1) := by decide +kernel
theorem dX4_stateOf_0 : decode cX4_stateOf 0 = .ok (.aload_n 0, 1) := by decide +kernel
theorem dX4_stateOf_1 : decode cX4_stateOf 1 = .ok (.iload_n 1, 1) := by decide +kernel
theorem dX4_stateOf_2 : decode cX4_stateOf 2 = .ok (.invokevirtual 32, 3) := by decide +kernel
theorem dX4_stateOf_5 : decode cX4_stateOf 5 = .ok (.ifCond .eq 12, 3) := by decide +kernel
theorem dX4_stateOf_8 : decode cX4_stateOf 8 = .ok (.aload_n 0, 1) := by decide +kernel
theorem dX4_stateOf_9 : decode cX4_stateOf 9 = .ok (.getfield 11, 3) := by decide +kernel
theorem dX4_stateOf_12 : decode cX4_stateOf 12 = .ok (.iload_n 1, 1) := by decide +kernel
theorem dX4_stateOf_13 : decode cX4_stateOf 13 = .ok (.iaload, 1) := by decide +kernel
theorem dX4_stateOf_14 : decode cX4_stateOf 14 = .ok (.goto 4, 3) := by decide +kernel
theorem dX4_stateOf_17 : decode cX4_stateOf 17 = .ok (.iconst 0, 1) := by decide +kernel
theorem dX4_stateOf_18 : decode cX4_stateOf 18 = .ok (.ireturn, 1) := by decide +kernel
theorem dX4_isLoose_0 : decode cX4_isLoose 0 = .ok (.aload_n 0, 1) := by decide +kernel
theorem dX4_isLoose_1 : decode cX4_isLoose 1 = .ok (.iload_n 1, 1) := by decide +kernel
theorem dX4_isLoose_2 : decode cX4_isLoose 2 = .ok (.invokevirtual 32, 3) := by decide +kernel
theorem dX4_isLoose_5 : decode cX4_isLoose 5 = .ok (.ifCond .eq 17, 3) := by decide +kernel
theorem dX4_isLoose_8 : decode cX4_isLoose 8 = .ok (.aload_n 0, 1) := by decide +kernel
theorem dX4_isLoose_9 : decode cX4_isLoose 9 = .ok (.getfield 11, 3) := by decide +kernel
theorem dX4_isLoose_12 : decode cX4_isLoose 12 = .ok (.iload_n 1, 1) := by decide +kernel
theorem dX4_isLoose_13 : decode cX4_isLoose 13 = .ok (.iaload, 1) := by decide +kernel
theorem dX4_isLoose_14 : decode cX4_isLoose 14 = .ok (.iconst 1, 1) := by decide +kernel
theorem dX4_isLoose_15 : decode cX4_isLoose 15 = .ok (.if_icmp .ne 7, 3) := by decide +kernel
theorem dX4_isLoose_18 : decode cX4_isLoose 18 = .ok (.iconst 1, 1) := by decide +kernel
theorem dX4_isLoose_19 : decode cX4_isLoose 19 = .ok (.goto 4, 3) := by decide +kernel
theorem dX4_isLoose_22 : decode cX4_isLoose 22 = .ok (.iconst 0, 1) := by decide +kernel
theorem dX4_isLoose_23 : decode cX4_isLoose 23 = .ok (.ireturn, 1) := by decide +kernel
theorem dX4_countOf_0 : decode cX4_countOf 0 = .ok (.iconst 0, 1) := by decide +kernel
theorem dX4_countOf_1 : decode cX4_countOf 1 = .ok (.istore_n 2, 1) := by decide +kernel
theorem dX4_countOf_2 : decode cX4_countOf 2 = .ok (.iconst 0, 1) := by decide +kernel
theorem dX4_countOf_3 : decode cX4_countOf 3 = .ok (.istore_n 3, 1) := by decide +kernel
theorem dX4_countOf_4 : decode cX4_countOf 4 = .ok (.iload_n 3, 1) := by decide +kernel
theorem dX4_countOf_5 : decode cX4_countOf 5 = .ok (.aload_n 0, 1) := by decide +kernel
theorem dX4_countOf_6 : decode cX4_countOf 6 = .ok (.getfield 23, 3) := by decide +kernel
theorem dX4_countOf_9 : decode cX4_countOf 9 = .ok (.if_icmp .ge 22, 3) := by decide +kernel
theorem dX4_countOf_12 : decode cX4_countOf 12 = .ok (.aload_n 0, 1) := by decide +kernel
theorem dX4_countOf_13 : decode cX4_countOf 13 = .ok (.getfield 11, 3) := by decide +kernel
theorem dX4_countOf_16 : decode cX4_countOf 16 = .ok (.iload_n 3, 1) := by decide +kernel
theorem dX4_countOf_17 : decode cX4_countOf 17 = .ok (.iaload, 1) := by decide +kernel
theorem dX4_countOf_18 : decode cX4_countOf 18 = .ok (.iload_n 1, 1) := by decide +kernel
theorem dX4_countOf_19 : decode cX4_countOf 19 = .ok (.if_icmp .ne 6, 3) := by decide +kernel
theorem dX4_countOf_22 : decode cX4_countOf 22 = .ok (.iinc 2 1, 3) := by decide +kernel
theorem dX4_countOf_25 : decode cX4_countOf 25 = .ok (.iinc 3 1, 3) := by decide +kernel
theorem dX4_countOf_28 : decode cX4_countOf 28 = .ok (.goto (-24), 3) := by decide +kernel
theorem dX4_countOf_31 : decode cX4_countOf 31 = .ok (.iload_n 2, 1) := by decide +kernel
theorem dX4_countOf_32 : decode cX4_countOf 32 = .ok (.ireturn, 1) := by decide +kernel
theorem dX4_loosenMateOf_0 : decode cX4_loosenMateOf 0 = .ok (.aload_n 0, 1) := by decide +kernel
theorem dX4_loosenMateOf_1 : decode cX4_loosenMateOf 1 = .ok (.iload_n 1, 1) := by decide +kernel
theorem dX4_loosenMateOf_2 : decode cX4_loosenMateOf 2 = .ok (.invokevirtual 44, 3) := by decide +kernel
theorem dX4_loosenMateOf_5 : decode cX4_loosenMateOf 5 = .ok (.istore_n 2, 1) := by decide +kernel
theorem dX4_loosenMateOf_6 : decode cX4_loosenMateOf 6 = .ok (.aload_n 0, 1) := by decide +kernel
theorem dX4_loosenMateOf_7 : decode cX4_loosenMateOf 7 = .ok (.iload_n 2, 1) := by decide +kernel
theorem dX4_loosenMateOf_8 : decode cX4_loosenMateOf 8 = .ok (.invokevirtual 32, 3) := by decide +kernel
theorem dX4_loosenMateOf_11 : decode cX4_loosenMateOf 11 = .ok (.ifCond .eq 19, 3) := by decide +kernel
theorem dX4_loosenMateOf_14 : decode cX4_loosenMateOf 14 = .ok (.aload_n 0, 1) := by decide +kernel
theorem dX4_loosenMateOf_15 : decode cX4_loosenMateOf 15 = .ok (.getfield 11, 3) := by decide +kernel
theorem dX4_loosenMateOf_18 : decode cX4_loosenMateOf 18 = .ok (.iload_n 2, 1) := by decide +kernel
theorem dX4_loosenMateOf_19 : decode cX4_loosenMateOf 19 = .ok (.iaload, 1) := by decide +kernel
theorem dX4_loosenMateOf_20 : decode cX4_loosenMateOf 20 = .ok (.ifCond .ne 10, 3) := by decide +kernel
theorem dX4_loosenMateOf_23 : decode cX4_loosenMateOf 23 = .ok (.aload_n 0, 1) := by decide +kernel
theorem dX4_loosenMateOf_24 : decode cX4_loosenMateOf 24 = .ok (.getfield 11, 3) := by decide +kernel
theorem dX4_loosenMateOf_27 : decode cX4_loosenMateOf 27 = .ok (.iload_n 2, 1) := by decide +kernel
theorem dX4_loosenMateOf_28 : decode cX4_loosenMateOf 28 = .ok (.iconst 1, 1) := by decide +kernel
theorem dX4_loosenMateOf_29 : decode cX4_loosenMateOf 29 = .ok (.iastore, 1) := by decide +kernel
theorem dX4_loosenMateOf_30 : decode cX4_loosenMateOf 30 = .ok (.return_, 1) := by decide +kernel
theorem dX4_drop_0 : decode cX4_drop 0 = .ok (.aload_n 0, 1) := by decide +kernel
theorem dX4_drop_1 : decode cX4_drop 1 = .ok (.iload_n 1, 1) := by decide +kernel
theorem dX4_drop_2 : decode cX4_drop 2 = .ok (.invokevirtual 32, 3) := by decide +kernel
theorem dX4_drop_5 : decode cX4_drop 5 = .ok (.ifCond .eq 15, 3) := by decide +kernel
theorem dX4_drop_8 : decode cX4_drop 8 = .ok (.aload_n 0, 1) := by decide +kernel
theorem dX4_drop_9 : decode cX4_drop 9 = .ok (.getfield 11, 3) := by decide +kernel
theorem dX4_drop_12 : decode cX4_drop 12 = .ok (.iload_n 1, 1) := by decide +kernel
theorem dX4_drop_13 : decode cX4_drop 13 = .ok (.iconst 2, 1) := by decide +kernel
theorem dX4_drop_14 : decode cX4_drop 14 = .ok (.iastore, 1) := by decide +kernel
theorem dX4_drop_15 : decode cX4_drop 15 = .ok (.aload_n 0, 1) := by decide +kernel
theorem dX4_drop_16 : decode cX4_drop 16 = .ok (.iload_n 1, 1) := by decide +kernel
theorem dX4_drop_17 : decode cX4_drop 17 = .ok (.invokevirtual 40, 3) := by decide +kernel
theorem dX4_drop_20 : decode cX4_drop 20 = .ok (.return_, 1) := by decide +kernel
theorem dX4_bringBack_0 : decode cX4_bringBack 0 = .ok (.aload_n 0, 1) := by decide +kernel
theorem dX4_bringBack_1 : decode cX4_bringBack 1 = .ok (.iload_n 1, 1) := by decide +kernel
theorem dX4_bringBack_2 : decode cX4_bringBack 2 = .ok (.invokevirtual 47, 3) := by decide +kernel
theorem dX4_bringBack_5 : decode cX4_bringBack 5 = .ok (.aload_n 0, 1) := by decide +kernel
theorem dX4_bringBack_6 : decode cX4_bringBack 6 = .ok (.iload_n 1, 1) := by decide +kernel
theorem dX4_bringBack_7 : decode cX4_bringBack 7 = .ok (.invokevirtual 44, 3) := by decide +kernel
theorem dX4_bringBack_10 : decode cX4_bringBack 10 = .ok (.istore_n 2, 1) := by decide +kernel
theorem dX4_bringBack_11 : decode cX4_bringBack 11 = .ok (.aload_n 0, 1) := by decide +kernel
theorem dX4_bringBack_12 : decode cX4_bringBack 12 = .ok (.iload_n 2, 1) := by decide +kernel
theorem dX4_bringBack_13 : decode cX4_bringBack 13 = .ok (.invokevirtual 50, 3) := by decide +kernel
theorem dX4_bringBack_16 : decode cX4_bringBack 16 = .ok (.ifCond .eq 8, 3) := by decide +kernel
theorem dX4_bringBack_19 : decode cX4_bringBack 19 = .ok (.aload_n 0, 1) := by decide +kernel
theorem dX4_bringBack_20 : decode cX4_bringBack 20 = .ok (.iload_n 2, 1) := by decide +kernel
theorem dX4_bringBack_21 : decode cX4_bringBack 21 = .ok (.invokevirtual 47, 3) := by decide +kernel
theorem dX4_bringBack_24 : decode cX4_bringBack 24 = .ok (.return_, 1) := by decide +kernel
theorem dX4_dropLoose_0 : decode cX4_dropLoose 0 = .ok (.iconst 0, 1) := by decide +kernel
theorem dX4_dropLoose_1 : decode cX4_dropLoose 1 = .ok (.istore_n 1, 1) := by decide +kernel
theorem dX4_dropLoose_2 : decode cX4_dropLoose 2 = .ok (.iconst 0, 1) := by decide +kernel
theorem dX4_dropLoose_3 : decode cX4_dropLoose 3 = .ok (.istore_n 2, 1) := by decide +kernel
theorem dX4_dropLoose_4 : decode cX4_dropLoose 4 = .ok (.iload_n 2, 1) := by decide +kernel
theorem dX4_dropLoose_5 : decode cX4_dropLoose 5 = .ok (.aload_n 0, 1) := by decide +kernel
theorem dX4_dropLoose_6 : decode cX4_dropLoose 6 = .ok (.getfield 23, 3) := by decide +kernel
theorem dX4_dropLoose_9 : decode cX4_dropLoose 9 = .ok (.if_icmp .ge 49, 3) := by decide +kernel
theorem dX4_dropLoose_12 : decode cX4_dropLoose 12 = .ok (.aload_n 0, 1) := by decide +kernel
theorem dX4_dropLoose_13 : decode cX4_dropLoose 13 = .ok (.getfield 15, 3) := by decide +kernel
theorem dX4_dropLoose_16 : decode cX4_dropLoose 16 = .ok (.iload_n 2, 1) := by decide +kernel
theorem dX4_dropLoose_17 : decode cX4_dropLoose 17 = .ok (.aload_n 0, 1) := by decide +kernel
theorem dX4_dropLoose_18 : decode cX4_dropLoose 18 = .ok (.getfield 11, 3) := by decide +kernel
theorem dX4_dropLoose_21 : decode cX4_dropLoose 21 = .ok (.iload_n 2, 1) := by decide +kernel
theorem dX4_dropLoose_22 : decode cX4_dropLoose 22 = .ok (.iaload, 1) := by decide +kernel
theorem dX4_dropLoose_23 : decode cX4_dropLoose 23 = .ok (.iconst 1, 1) := by decide +kernel
theorem dX4_dropLoose_24 : decode cX4_dropLoose 24 = .ok (.if_icmp .ne 7, 3) := by decide +kernel
theorem dX4_dropLoose_27 : decode cX4_dropLoose 27 = .ok (.iconst 1, 1) := by decide +kernel
theorem dX4_dropLoose_28 : decode cX4_dropLoose 28 = .ok (.goto 4, 3) := by decide +kernel
theorem dX4_dropLoose_31 : decode cX4_dropLoose 31 = .ok (.iconst 0, 1) := by decide +kernel
theorem dX4_dropLoose_32 : decode cX4_dropLoose 32 = .ok (.bastore, 1) := by decide +kernel
theorem dX4_dropLoose_33 : decode cX4_dropLoose 33 = .ok (.aload_n 0, 1) := by decide +kernel
theorem dX4_dropLoose_34 : decode cX4_dropLoose 34 = .ok (.getfield 15, 3) := by decide +kernel
theorem dX4_dropLoose_37 : decode cX4_dropLoose 37 = .ok (.iload_n 2, 1) := by decide +kernel
theorem dX4_dropLoose_38 : decode cX4_dropLoose 38 = .ok (.baload, 1) := by decide +kernel
theorem dX4_dropLoose_39 : decode cX4_dropLoose 39 = .ok (.ifCond .eq 13, 3) := by decide +kernel
theorem dX4_dropLoose_42 : decode cX4_dropLoose 42 = .ok (.aload_n 0, 1) := by decide +kernel
theorem dX4_dropLoose_43 : decode cX4_dropLoose 43 = .ok (.getfield 11, 3) := by decide +kernel
theorem dX4_dropLoose_46 : decode cX4_dropLoose 46 = .ok (.iload_n 2, 1) := by decide +kernel
theorem dX4_dropLoose_47 : decode cX4_dropLoose 47 = .ok (.iconst 2, 1) := by decide +kernel
theorem dX4_dropLoose_48 : decode cX4_dropLoose 48 = .ok (.iastore, 1) := by decide +kernel
theorem dX4_dropLoose_49 : decode cX4_dropLoose 49 = .ok (.iinc 1 1, 3) := by decide +kernel
theorem dX4_dropLoose_52 : decode cX4_dropLoose 52 = .ok (.iinc 2 1, 3) := by decide +kernel
theorem dX4_dropLoose_55 : decode cX4_dropLoose 55 = .ok (.goto (-51), 3) := by decide +kernel
theorem dX4_dropLoose_58 : decode cX4_dropLoose 58 = .ok (.iconst 0, 1) := by decide +kernel
theorem dX4_dropLoose_59 : decode cX4_dropLoose 59 = .ok (.istore_n 2, 1) := by decide +kernel
theorem dX4_dropLoose_60 : decode cX4_dropLoose 60 = .ok (.iload_n 2, 1) := by decide +kernel
theorem dX4_dropLoose_61 : decode cX4_dropLoose 61 = .ok (.aload_n 0, 1) := by decide +kernel
theorem dX4_dropLoose_62 : decode cX4_dropLoose 62 = .ok (.getfield 23, 3) := by decide +kernel
theorem dX4_dropLoose_65 : decode cX4_dropLoose 65 = .ok (.if_icmp .ge 23, 3) := by decide +kernel
theorem dX4_dropLoose_68 : decode cX4_dropLoose 68 = .ok (.aload_n 0, 1) := by decide +kernel
theorem dX4_dropLoose_69 : decode cX4_dropLoose 69 = .ok (.getfield 15, 3) := by decide +kernel
theorem dX4_dropLoose_72 : decode cX4_dropLoose 72 = .ok (.iload_n 2, 1) := by decide +kernel
theorem dX4_dropLoose_73 : decode cX4_dropLoose 73 = .ok (.baload, 1) := by decide +kernel
theorem dX4_dropLoose_74 : decode cX4_dropLoose 74 = .ok (.ifCond .eq 8, 3) := by decide +kernel
theorem dX4_dropLoose_77 : decode cX4_dropLoose 77 = .ok (.aload_n 0, 1) := by decide +kernel
theorem dX4_dropLoose_78 : decode cX4_dropLoose 78 = .ok (.iload_n 2, 1) := by decide +kernel
theorem dX4_dropLoose_79 : decode cX4_dropLoose 79 = .ok (.invokevirtual 40, 3) := by decide +kernel
theorem dX4_dropLoose_82 : decode cX4_dropLoose 82 = .ok (.iinc 2 1, 3) := by decide +kernel
theorem dX4_dropLoose_85 : decode cX4_dropLoose 85 = .ok (.goto (-25), 3) := by decide +kernel
theorem dX4_dropLoose_88 : decode cX4_dropLoose 88 = .ok (.iload_n 1, 1) := by decide +kernel
theorem dX4_dropLoose_89 : decode cX4_dropLoose 89 = .ok (.ireturn, 1) := by decide +kernel
theorem dX7_init_0 : decode cX7_init 0 = .ok (.aload_n 0, 1) := by decide +kernel
theorem dX7_init_1 : decode cX7_init 1 = .ok (.invokespecial 3, 3) := by decide +kernel
theorem dX7_init_4 : decode cX7_init 4 = .ok (.aload_n 0, 1) := by decide +kernel
theorem dX7_init_5 : decode cX7_init 5 = .ok (.iconst 0, 1) := by decide +kernel
theorem dX7_init_6 : decode cX7_init 6 = .ok (.newarray .byte, 2) := by decide +kernel
theorem dX7_init_8 : decode cX7_init 8 = .ok (.putfield 9, 3) := by decide +kernel
theorem dX7_init_11 : decode cX7_init 11 = .ok (.return_, 1) := by decide +kernel
theorem dX5_init_0 : decode cX5_init 0 = .ok (.aload_n 0, 1) := by decide +kernel
theorem dX5_init_1 : decode cX5_init 1 = .ok (.invokespecial 3, 3) := by decide +kernel
theorem dX5_init_4 : decode cX5_init 4 = .ok (.aload_n 0, 1) := by decide +kernel
theorem dX5_init_5 : decode cX5_init 5 = .ok (.new 9, 3) := by decide +kernel
theorem dX5_init_8 : decode cX5_init 8 = .ok (.dup, 1) := by decide +kernel
theorem dX5_init_9 : decode cX5_init 9 = .ok (.invokespecial 11, 3) := by decide +kernel
theorem dX5_init_12 : decode cX5_init 12 = .ok (.putfield 12, 3) := by decide +kernel
theorem dX5_init_15 : decode cX5_init 15 = .ok (.return_, 1) := by decide +kernel
theorem dX5_fail_0 : decode cX5_fail 0 = .ok (.aload_n 0, 1) := by decide +kernel
theorem dX5_fail_1 : decode cX5_fail 1 = .ok (.iload_n 1, 1) := by decide +kernel
theorem dX5_fail_2 : decode cX5_fail 2 = .ok (.putfield 18, 3) := by decide +kernel
theorem dX5_fail_5 : decode cX5_fail 5 = .ok (.aload_n 0, 1) := by decide +kernel
theorem dX5_fail_6 : decode cX5_fail 6 = .ok (.aload_n 0, 1) := by decide +kernel
theorem dX5_fail_7 : decode cX5_fail 7 = .ok (.getfield 12, 3) := by decide +kernel
theorem dX5_fail_10 : decode cX5_fail 10 = .ok (.getfield 22, 3) := by decide +kernel
theorem dX5_fail_13 : decode cX5_fail 13 = .ok (.putfield 25, 3) := by decide +kernel
theorem dX5_fail_16 : decode cX5_fail 16 = .ok (.iconst 0, 1) := by decide +kernel
theorem dX5_fail_17 : decode cX5_fail 17 = .ok (.ireturn, 1) := by decide +kernel
theorem dX9_isLetter_0 : decode cX9_isLetter 0 = .ok (.iload_n 0, 1) := by decide +kernel
theorem dX9_isLetter_1 : decode cX9_isLetter 1 = .ok (.bipush 97, 2) := by decide +kernel
theorem dX9_isLetter_3 : decode cX9_isLetter 3 = .ok (.if_icmp .lt 13, 3) := by decide +kernel
theorem dX9_isLetter_6 : decode cX9_isLetter 6 = .ok (.iload_n 0, 1) := by decide +kernel
theorem dX9_isLetter_7 : decode cX9_isLetter 7 = .ok (.bipush 122, 2) := by decide +kernel
theorem dX9_isLetter_9 : decode cX9_isLetter 9 = .ok (.if_icmp .gt 7, 3) := by decide +kernel
theorem dX9_isLetter_12 : decode cX9_isLetter 12 = .ok (.iconst 1, 1) := by decide +kernel
theorem dX9_isLetter_13 : decode cX9_isLetter 13 = .ok (.goto 4, 3) := by decide +kernel
theorem dX9_isLetter_16 : decode cX9_isLetter 16 = .ok (.iconst 0, 1) := by decide +kernel
theorem dX9_isLetter_17 : decode cX9_isLetter 17 = .ok (.ireturn, 1) := by decide +kernel
theorem dX9_joined_0 : decode cX9_joined 0 = .ok (.lload_n 0, 1) := by decide +kernel
theorem dX9_joined_1 : decode cX9_joined 1 = .ok (.bipush 8, 2) := by decide +kernel
theorem dX9_joined_3 : decode cX9_joined 3 = .ok (.lshl, 1) := by decide +kernel
theorem dX9_joined_4 : decode cX9_joined 4 = .ok (.iload_n 2, 1) := by decide +kernel
theorem dX9_joined_5 : decode cX9_joined 5 = .ok (.i2l, 1) := by decide +kernel
theorem dX9_joined_6 : decode cX9_joined 6 = .ok (.lor, 1) := by decide +kernel
theorem dX9_joined_7 : decode cX9_joined 7 = .ok (.lreturn, 1) := by decide +kernel
theorem dX7_readWord_0 : decode cX7_readWord 0 = .ok (.aload_n 0, 1) := by decide +kernel
theorem dX7_readWord_1 : decode cX7_readWord 1 = .ok (.lconst 0, 1) := by decide +kernel
theorem dX7_readWord_2 : decode cX7_readWord 2 = .ok (.putfield 54, 3) := by decide +kernel
theorem dX7_readWord_5 : decode cX7_readWord 5 = .ok (.aload_n 0, 1) := by decide +kernel
theorem dX7_readWord_6 : decode cX7_readWord 6 = .ok (.getfield 25, 3) := by decide +kernel
theorem dX7_readWord_9 : decode cX7_readWord 9 = .ok (.aload_n 0, 1) := by decide +kernel
theorem dX7_readWord_10 : decode cX7_readWord 10 = .ok (.getfield 21, 3) := by decide +kernel
theorem dX7_readWord_13 : decode cX7_readWord 13 = .ok (.if_icmp .ge 51, 3) := by decide +kernel
theorem dX7_readWord_16 : decode cX7_readWord 16 = .ok (.aload_n 0, 1) := by decide +kernel
theorem dX7_readWord_17 : decode cX7_readWord 17 = .ok (.getfield 9, 3) := by decide +kernel
theorem dX7_readWord_20 : decode cX7_readWord 20 = .ok (.aload_n 0, 1) := by decide +kernel
theorem dX7_readWord_21 : decode cX7_readWord 21 = .ok (.getfield 25, 3) := by decide +kernel
theorem dX7_readWord_24 : decode cX7_readWord 24 = .ok (.baload, 1) := by decide +kernel
theorem dX7_readWord_25 : decode cX7_readWord 25 = .ok (.invokestatic 37, 3) := by decide +kernel
theorem dX7_readWord_28 : decode cX7_readWord 28 = .ok (.ifCond .eq 36, 3) := by decide +kernel
theorem dX7_readWord_31 : decode cX7_readWord 31 = .ok (.aload_n 0, 1) := by decide +kernel
theorem dX7_readWord_32 : decode cX7_readWord 32 = .ok (.aload_n 0, 1) := by decide +kernel
theorem dX7_readWord_33 : decode cX7_readWord 33 = .ok (.getfield 54, 3) := by decide +kernel
theorem dX7_readWord_36 : decode cX7_readWord 36 = .ok (.aload_n 0, 1) := by decide +kernel
theorem dX7_readWord_37 : decode cX7_readWord 37 = .ok (.getfield 9, 3) := by decide +kernel
theorem dX7_readWord_40 : decode cX7_readWord 40 = .ok (.aload_n 0, 1) := by decide +kernel
theorem dX7_readWord_41 : decode cX7_readWord 41 = .ok (.getfield 25, 3) := by decide +kernel
theorem dX7_readWord_44 : decode cX7_readWord 44 = .ok (.baload, 1) := by decide +kernel
theorem dX7_readWord_45 : decode cX7_readWord 45 = .ok (.invokestatic 58, 3) := by decide +kernel
theorem dX7_readWord_48 : decode cX7_readWord 48 = .ok (.putfield 54, 3) := by decide +kernel
theorem dX7_readWord_51 : decode cX7_readWord 51 = .ok (.aload_n 0, 1) := by decide +kernel
theorem dX7_readWord_52 : decode cX7_readWord 52 = .ok (.dup, 1) := by decide +kernel
theorem dX7_readWord_53 : decode cX7_readWord 53 = .ok (.getfield 25, 3) := by decide +kernel
theorem dX7_readWord_56 : decode cX7_readWord 56 = .ok (.iconst 1, 1) := by decide +kernel
theorem dX7_readWord_57 : decode cX7_readWord 57 = .ok (.iadd, 1) := by decide +kernel
theorem dX7_readWord_58 : decode cX7_readWord 58 = .ok (.putfield 25, 3) := by decide +kernel
theorem dX7_readWord_61 : decode cX7_readWord 61 = .ok (.goto (-56), 3) := by decide +kernel
theorem dX7_readWord_64 : decode cX7_readWord 64 = .ok (.aload_n 0, 1) := by decide +kernel
theorem dX7_readWord_65 : decode cX7_readWord 65 = .ok (.aload_n 0, 1) := by decide +kernel
theorem dX7_readWord_66 : decode cX7_readWord 66 = .ok (.getfield 25, 3) := by decide +kernel
theorem dX7_readWord_69 : decode cX7_readWord 69 = .ok (.aload_n 0, 1) := by decide +kernel
theorem dX7_readWord_70 : decode cX7_readWord 70 = .ok (.getfield 31, 3) := by decide +kernel
theorem dX7_readWord_73 : decode cX7_readWord 73 = .ok (.isub, 1) := by decide +kernel
theorem dX7_readWord_74 : decode cX7_readWord 74 = .ok (.bipush 8, 2) := by decide +kernel
theorem dX7_readWord_76 : decode cX7_readWord 76 = .ok (.if_icmp .gt 7, 3) := by decide +kernel
theorem dX7_readWord_79 : decode cX7_readWord 79 = .ok (.iconst 1, 1) := by decide +kernel
theorem dX7_readWord_80 : decode cX7_readWord 80 = .ok (.goto 5, 3) := by decide +kernel
theorem dX7_readWord_83 : decode cX7_readWord 83 = .ok (.bipush 6, 2) := by decide +kernel
theorem dX7_readWord_85 : decode cX7_readWord 85 = .ok (.putfield 34, 3) := by decide +kernel
theorem dX7_readWord_88 : decode cX7_readWord 88 = .ok (.return_, 1) := by decide +kernel
theorem dX7_isDigit_0 : decode cX7_isDigit 0 = .ok (.iload_n 0, 1) := by decide +kernel
theorem dX7_isDigit_1 : decode cX7_isDigit 1 = .ok (.bipush 48, 2) := by decide +kernel
theorem dX7_isDigit_3 : decode cX7_isDigit 3 = .ok (.if_icmp .lt 13, 3) := by decide +kernel
theorem dX7_isDigit_6 : decode cX7_isDigit 6 = .ok (.iload_n 0, 1) := by decide +kernel
theorem dX7_isDigit_7 : decode cX7_isDigit 7 = .ok (.bipush 57, 2) := by decide +kernel
theorem dX7_isDigit_9 : decode cX7_isDigit 9 = .ok (.if_icmp .gt 7, 3) := by decide +kernel
theorem dX7_isDigit_12 : decode cX7_isDigit 12 = .ok (.iconst 1, 1) := by decide +kernel
theorem dX7_isDigit_13 : decode cX7_isDigit 13 = .ok (.goto 4, 3) := by decide +kernel
theorem dX7_isDigit_16 : decode cX7_isDigit 16 = .ok (.iconst 0, 1) := by decide +kernel
theorem dX7_isDigit_17 : decode cX7_isDigit 17 = .ok (.ireturn, 1) := by decide +kernel
theorem dX7_readNumber_0 : decode cX7_readNumber 0 = .ok (.aload_n 0, 1) := by decide +kernel
theorem dX7_readNumber_1 : decode cX7_readNumber 1 = .ok (.iconst 0, 1) := by decide +kernel
theorem dX7_readNumber_2 : decode cX7_readNumber 2 = .ok (.putfield 62, 3) := by decide +kernel
theorem dX7_readNumber_5 : decode cX7_readNumber 5 = .ok (.aload_n 0, 1) := by decide +kernel
theorem dX7_readNumber_6 : decode cX7_readNumber 6 = .ok (.getfield 25, 3) := by decide +kernel
theorem dX7_readNumber_9 : decode cX7_readNumber 9 = .ok (.aload_n 0, 1) := by decide +kernel
theorem dX7_readNumber_10 : decode cX7_readNumber 10 = .ok (.getfield 21, 3) := by decide +kernel
theorem dX7_readNumber_13 : decode cX7_readNumber 13 = .ok (.if_icmp .ge 55, 3) := by decide +kernel
theorem dX7_readNumber_16 : decode cX7_readNumber 16 = .ok (.aload_n 0, 1) := by decide +kernel
theorem dX7_readNumber_17 : decode cX7_readNumber 17 = .ok (.getfield 9, 3) := by decide +kernel
theorem dX7_readNumber_20 : decode cX7_readNumber 20 = .ok (.aload_n 0, 1) := by decide +kernel
theorem dX7_readNumber_21 : decode cX7_readNumber 21 = .ok (.getfield 25, 3) := by decide +kernel
theorem dX7_readNumber_24 : decode cX7_readNumber 24 = .ok (.baload, 1) := by decide +kernel
theorem dX7_readNumber_25 : decode cX7_readNumber 25 = .ok (.invokestatic 44, 3) := by decide +kernel
theorem dX7_readNumber_28 : decode cX7_readNumber 28 = .ok (.ifCond .eq 40, 3) := by decide +kernel
theorem dX7_readNumber_31 : decode cX7_readNumber 31 = .ok (.aload_n 0, 1) := by decide +kernel
theorem dX7_readNumber_32 : decode cX7_readNumber 32 = .ok (.aload_n 0, 1) := by decide +kernel
theorem dX7_readNumber_33 : decode cX7_readNumber 33 = .ok (.getfield 62, 3) := by decide +kernel
theorem dX7_readNumber_36 : decode cX7_readNumber 36 = .ok (.bipush 10, 2) := by decide +kernel
theorem dX7_readNumber_38 : decode cX7_readNumber 38 = .ok (.imul, 1) := by decide +kernel
theorem dX7_readNumber_39 : decode cX7_readNumber 39 = .ok (.aload_n 0, 1) := by decide +kernel
theorem dX7_readNumber_40 : decode cX7_readNumber 40 = .ok (.getfield 9, 3) := by decide +kernel
theorem dX7_readNumber_43 : decode cX7_readNumber 43 = .ok (.aload_n 0, 1) := by decide +kernel
theorem dX7_readNumber_44 : decode cX7_readNumber 44 = .ok (.getfield 25, 3) := by decide +kernel
theorem dX7_readNumber_47 : decode cX7_readNumber 47 = .ok (.baload, 1) := by decide +kernel
theorem dX7_readNumber_48 : decode cX7_readNumber 48 = .ok (.iadd, 1) := by decide +kernel
theorem dX7_readNumber_49 : decode cX7_readNumber 49 = .ok (.bipush 48, 2) := by decide +kernel
theorem dX7_readNumber_51 : decode cX7_readNumber 51 = .ok (.isub, 1) := by decide +kernel
theorem dX7_readNumber_52 : decode cX7_readNumber 52 = .ok (.putfield 62, 3) := by decide +kernel
theorem dX7_readNumber_55 : decode cX7_readNumber 55 = .ok (.aload_n 0, 1) := by decide +kernel
theorem dX7_readNumber_56 : decode cX7_readNumber 56 = .ok (.dup, 1) := by decide +kernel
theorem dX7_readNumber_57 : decode cX7_readNumber 57 = .ok (.getfield 25, 3) := by decide +kernel
theorem dX7_readNumber_60 : decode cX7_readNumber 60 = .ok (.iconst 1, 1) := by decide +kernel
theorem dX7_readNumber_61 : decode cX7_readNumber 61 = .ok (.iadd, 1) := by decide +kernel
theorem dX7_readNumber_62 : decode cX7_readNumber 62 = .ok (.putfield 25, 3) := by decide +kernel
theorem dX7_readNumber_65 : decode cX7_readNumber 65 = .ok (.goto (-60), 3) := by decide +kernel
theorem dX7_readNumber_68 : decode cX7_readNumber 68 = .ok (.aload_n 0, 1) := by decide +kernel
theorem dX7_readNumber_69 : decode cX7_readNumber 69 = .ok (.aload_n 0, 1) := by decide +kernel
theorem dX7_readNumber_70 : decode cX7_readNumber 70 = .ok (.getfield 25, 3) := by decide +kernel
theorem dX7_readNumber_73 : decode cX7_readNumber 73 = .ok (.aload_n 0, 1) := by decide +kernel
theorem dX7_readNumber_74 : decode cX7_readNumber 74 = .ok (.getfield 31, 3) := by decide +kernel
theorem dX7_readNumber_77 : decode cX7_readNumber 77 = .ok (.isub, 1) := by decide +kernel
theorem dX7_readNumber_78 : decode cX7_readNumber 78 = .ok (.iconst 2, 1) := by decide +kernel
theorem dX7_readNumber_79 : decode cX7_readNumber 79 = .ok (.if_icmp .gt 7, 3) := by decide +kernel
theorem dX7_readNumber_82 : decode cX7_readNumber 82 = .ok (.iconst 2, 1) := by decide +kernel
theorem dX7_readNumber_83 : decode cX7_readNumber 83 = .ok (.goto 5, 3) := by decide +kernel
theorem dX7_readNumber_86 : decode cX7_readNumber 86 = .ok (.bipush 6, 2) := by decide +kernel
theorem dX7_readNumber_88 : decode cX7_readNumber 88 = .ok (.putfield 34, 3) := by decide +kernel
theorem dX7_readNumber_91 : decode cX7_readNumber 91 = .ok (.return_, 1) := by decide +kernel
theorem dX7_kindOfSign_0 : decode cX7_kindOfSign 0 = .ok (.iload_n 0, 1) := by decide +kernel
theorem dX7_kindOfSign_1 : decode cX7_kindOfSign 1 = .ok (.lookupswitch 41 #[(40, 37), (41, 39), (59, 35)], 35) := by decide +kernel
theorem dX7_kindOfSign_36 : decode cX7_kindOfSign 36 = .ok (.iconst 3, 1) := by decide +kernel
theorem dX7_kindOfSign_37 : decode cX7_kindOfSign 37 = .ok (.ireturn, 1) := by decide +kernel
theorem dX7_kindOfSign_38 : decode cX7_kindOfSign 38 = .ok (.iconst 4, 1) := by decide +kernel
theorem dX7_kindOfSign_39 : decode cX7_kindOfSign 39 = .ok (.ireturn, 1) := by decide +kernel
theorem dX7_kindOfSign_40 : decode cX7_kindOfSign 40 = .ok (.iconst 5, 1) := by decide +kernel
theorem dX7_kindOfSign_41 : decode cX7_kindOfSign 41 = .ok (.ireturn, 1) := by decide +kernel
theorem dX7_kindOfSign_42 : decode cX7_kindOfSign 42 = .ok (.bipush 6, 2) := by decide +kernel
theorem dX7_kindOfSign_44 : decode cX7_kindOfSign 44 = .ok (.ireturn, 1) := by decide +kernel
theorem dX7_step_0 : decode cX7_step 0 = .ok (.aload_n 0, 1) := by decide +kernel
theorem dX7_step_1 : decode cX7_step 1 = .ok (.getfield 25, 3) := by decide +kernel
theorem dX7_step_4 : decode cX7_step 4 = .ok (.aload_n 0, 1) := by decide +kernel
theorem dX7_step_5 : decode cX7_step 5 = .ok (.getfield 21, 3) := by decide +kernel
theorem dX7_step_8 : decode cX7_step 8 = .ok (.if_icmp .ge 30, 3) := by decide +kernel
theorem dX7_step_11 : decode cX7_step 11 = .ok (.aload_n 0, 1) := by decide +kernel
theorem dX7_step_12 : decode cX7_step 12 = .ok (.getfield 9, 3) := by decide +kernel
theorem dX7_step_15 : decode cX7_step 15 = .ok (.aload_n 0, 1) := by decide +kernel
theorem dX7_step_16 : decode cX7_step 16 = .ok (.getfield 25, 3) := by decide +kernel
theorem dX7_step_19 : decode cX7_step 19 = .ok (.baload, 1) := by decide +kernel
theorem dX7_step_20 : decode cX7_step 20 = .ok (.bipush 32, 2) := by decide +kernel
theorem dX7_step_22 : decode cX7_step 22 = .ok (.if_icmp .ne 16, 3) := by decide +kernel
theorem dX7_step_25 : decode cX7_step 25 = .ok (.aload_n 0, 1) := by decide +kernel
theorem dX7_step_26 : decode cX7_step 26 = .ok (.dup, 1) := by decide +kernel
theorem dX7_step_27 : decode cX7_step 27 = .ok (.getfield 25, 3) := by decide +kernel
theorem dX7_step_30 : decode cX7_step 30 = .ok (.iconst 1, 1) := by decide +kernel
theorem dX7_step_31 : decode cX7_step 31 = .ok (.iadd, 1) := by decide +kernel
theorem dX7_step_32 : decode cX7_step 32 = .ok (.putfield 25, 3) := by decide +kernel
theorem dX7_step_35 : decode cX7_step 35 = .ok (.goto (-35), 3) := by decide +kernel
theorem dX7_step_38 : decode cX7_step 38 = .ok (.aload_n 0, 1) := by decide +kernel
theorem dX7_step_39 : decode cX7_step 39 = .ok (.aload_n 0, 1) := by decide +kernel
theorem dX7_step_40 : decode cX7_step 40 = .ok (.getfield 25, 3) := by decide +kernel
theorem dX7_step_43 : decode cX7_step 43 = .ok (.putfield 31, 3) := by decide +kernel
theorem dX7_step_46 : decode cX7_step 46 = .ok (.aload_n 0, 1) := by decide +kernel
theorem dX7_step_47 : decode cX7_step 47 = .ok (.getfield 25, 3) := by decide +kernel
theorem dX7_step_50 : decode cX7_step 50 = .ok (.aload_n 0, 1) := by decide +kernel
theorem dX7_step_51 : decode cX7_step 51 = .ok (.getfield 21, 3) := by decide +kernel
theorem dX7_step_54 : decode cX7_step 54 = .ok (.if_icmp .lt 11, 3) := by decide +kernel
theorem dX7_step_57 : decode cX7_step 57 = .ok (.aload_n 0, 1) := by decide +kernel
theorem dX7_step_58 : decode cX7_step 58 = .ok (.iconst 0, 1) := by decide +kernel
theorem dX7_step_59 : decode cX7_step 59 = .ok (.putfield 34, 3) := by decide +kernel
theorem dX7_step_62 : decode cX7_step 62 = .ok (.goto 73, 3) := by decide +kernel
theorem dX7_step_65 : decode cX7_step 65 = .ok (.aload_n 0, 1) := by decide +kernel
theorem dX7_step_66 : decode cX7_step 66 = .ok (.getfield 9, 3) := by decide +kernel
theorem dX7_step_69 : decode cX7_step 69 = .ok (.aload_n 0, 1) := by decide +kernel
theorem dX7_step_70 : decode cX7_step 70 = .ok (.getfield 25, 3) := by decide +kernel
theorem dX7_step_73 : decode cX7_step 73 = .ok (.baload, 1) := by decide +kernel
theorem dX7_step_74 : decode cX7_step 74 = .ok (.invokestatic 37, 3) := by decide +kernel
theorem dX7_step_77 : decode cX7_step 77 = .ok (.ifCond .eq 10, 3) := by decide +kernel
theorem dX7_step_80 : decode cX7_step 80 = .ok (.aload_n 0, 1) := by decide +kernel
theorem dX7_step_81 : decode cX7_step 81 = .ok (.invokevirtual 41, 3) := by decide +kernel
theorem dX7_step_84 : decode cX7_step 84 = .ok (.goto 51, 3) := by decide +kernel
theorem dX7_step_87 : decode cX7_step 87 = .ok (.aload_n 0, 1) := by decide +kernel
theorem dX7_step_88 : decode cX7_step 88 = .ok (.getfield 9, 3) := by decide +kernel
theorem dX7_step_91 : decode cX7_step 91 = .ok (.aload_n 0, 1) := by decide +kernel
theorem dX7_step_92 : decode cX7_step 92 = .ok (.getfield 25, 3) := by decide +kernel
theorem dX7_step_95 : decode cX7_step 95 = .ok (.baload, 1) := by decide +kernel
theorem dX7_step_96 : decode cX7_step 96 = .ok (.invokestatic 44, 3) := by decide +kernel
theorem dX7_step_99 : decode cX7_step 99 = .ok (.ifCond .eq 10, 3) := by decide +kernel
theorem dX7_step_102 : decode cX7_step 102 = .ok (.aload_n 0, 1) := by decide +kernel
theorem dX7_step_103 : decode cX7_step 103 = .ok (.invokevirtual 47, 3) := by decide +kernel
theorem dX7_step_106 : decode cX7_step 106 = .ok (.goto 29, 3) := by decide +kernel
theorem dX7_step_109 : decode cX7_step 109 = .ok (.aload_n 0, 1) := by decide +kernel
theorem dX7_step_110 : decode cX7_step 110 = .ok (.aload_n 0, 1) := by decide +kernel
theorem dX7_step_111 : decode cX7_step 111 = .ok (.getfield 9, 3) := by decide +kernel
theorem dX7_step_114 : decode cX7_step 114 = .ok (.aload_n 0, 1) := by decide +kernel
theorem dX7_step_115 : decode cX7_step 115 = .ok (.getfield 25, 3) := by decide +kernel
theorem dX7_step_118 : decode cX7_step 118 = .ok (.baload, 1) := by decide +kernel
theorem dX7_step_119 : decode cX7_step 119 = .ok (.invokestatic 50, 3) := by decide +kernel
theorem dX7_step_122 : decode cX7_step 122 = .ok (.putfield 34, 3) := by decide +kernel
theorem dX7_step_125 : decode cX7_step 125 = .ok (.aload_n 0, 1) := by decide +kernel
theorem dX7_step_126 : decode cX7_step 126 = .ok (.dup, 1) := by decide +kernel
theorem dX7_step_127 : decode cX7_step 127 = .ok (.getfield 25, 3) := by decide +kernel
theorem dX7_step_130 : decode cX7_step 130 = .ok (.iconst 1, 1) := by decide +kernel
theorem dX7_step_131 : decode cX7_step 131 = .ok (.iadd, 1) := by decide +kernel
theorem dX7_step_132 : decode cX7_step 132 = .ok (.putfield 25, 3) := by decide +kernel
theorem dX7_step_135 : decode cX7_step 135 = .ok (.return_, 1) := by decide +kernel
theorem dX7_startAt_0 : decode cX7_startAt 0 = .ok (.aload_n 0, 1) := by decide +kernel
theorem dX7_startAt_1 : decode cX7_startAt 1 = .ok (.aload_n 1, 1) := by decide +kernel
theorem dX7_startAt_2 : decode cX7_startAt 2 = .ok (.putfield 9, 3) := by decide +kernel
theorem dX7_startAt_5 : decode cX7_startAt 5 = .ok (.aload_n 0, 1) := by decide +kernel
theorem dX7_startAt_6 : decode cX7_startAt 6 = .ok (.iload_n 2, 1) := by decide +kernel
theorem dX7_startAt_7 : decode cX7_startAt 7 = .ok (.aload_n 1, 1) := by decide +kernel
theorem dX7_startAt_8 : decode cX7_startAt 8 = .ok (.arraylength, 1) := by decide +kernel
theorem dX7_startAt_9 : decode cX7_startAt 9 = .ok (.invokestatic 15, 3) := by decide +kernel
theorem dX7_startAt_12 : decode cX7_startAt 12 = .ok (.putfield 21, 3) := by decide +kernel
theorem dX7_startAt_15 : decode cX7_startAt 15 = .ok (.aload_n 0, 1) := by decide +kernel
theorem dX7_startAt_16 : decode cX7_startAt 16 = .ok (.iconst 0, 1) := by decide +kernel
theorem dX7_startAt_17 : decode cX7_startAt 17 = .ok (.putfield 25, 3) := by decide +kernel
theorem dX7_startAt_20 : decode cX7_startAt 20 = .ok (.aload_n 0, 1) := by decide +kernel
theorem dX7_startAt_21 : decode cX7_startAt 21 = .ok (.invokevirtual 28, 3) := by decide +kernel
theorem dX7_startAt_24 : decode cX7_startAt 24 = .ok (.return_, 1) := by decide +kernel
theorem dX9_packed_0 : decode cX9_packed 0 = .ok (.lconst 0, 1) := by decide +kernel
theorem dX9_packed_1 : decode cX9_packed 1 = .ok (.lstore_n 1, 1) := by decide +kernel
theorem dX9_packed_2 : decode cX9_packed 2 = .ok (.iconst 0, 1) := by decide +kernel
theorem dX9_packed_3 : decode cX9_packed 3 = .ok (.istore_n 3, 1) := by decide +kernel
theorem dX9_packed_4 : decode cX9_packed 4 = .ok (.iload_n 3, 1) := by decide +kernel
theorem dX9_packed_5 : decode cX9_packed 5 = .ok (.aload_n 0, 1) := by decide +kernel
theorem dX9_packed_6 : decode cX9_packed 6 = .ok (.invokevirtual 543, 3) := by decide +kernel
theorem dX9_packed_9 : decode cX9_packed 9 = .ok (.if_icmp .ge 19, 3) := by decide +kernel
theorem dX9_packed_12 : decode cX9_packed 12 = .ok (.lload_n 1, 1) := by decide +kernel
theorem dX9_packed_13 : decode cX9_packed 13 = .ok (.aload_n 0, 1) := by decide +kernel
theorem dX9_packed_14 : decode cX9_packed 14 = .ok (.iload_n 3, 1) := by decide +kernel
theorem dX9_packed_15 : decode cX9_packed 15 = .ok (.invokevirtual 546, 3) := by decide +kernel
theorem dX9_packed_18 : decode cX9_packed 18 = .ok (.invokestatic 547, 3) := by decide +kernel
theorem dX9_packed_21 : decode cX9_packed 21 = .ok (.lstore_n 1, 1) := by decide +kernel
theorem dX9_packed_22 : decode cX9_packed 22 = .ok (.iinc 3 1, 3) := by decide +kernel
theorem dX9_packed_25 : decode cX9_packed 25 = .ok (.goto (-21), 3) := by decide +kernel
theorem dX9_packed_28 : decode cX9_packed 28 = .ok (.lload_n 1, 1) := by decide +kernel
theorem dX9_packed_29 : decode cX9_packed 29 = .ok (.lreturn, 1) := by decide +kernel
theorem dX5_isAtWord_0 : decode cX5_isAtWord 0 = .ok (.aload_n 0, 1) := by decide +kernel
theorem dX5_isAtWord_1 : decode cX5_isAtWord 1 = .ok (.getfield 12, 3) := by decide +kernel
theorem dX5_isAtWord_4 : decode cX5_isAtWord 4 = .ok (.getfield 48, 3) := by decide +kernel
theorem dX5_isAtWord_7 : decode cX5_isAtWord 7 = .ok (.iconst 1, 1) := by decide +kernel
theorem dX5_isAtWord_8 : decode cX5_isAtWord 8 = .ok (.if_icmp .ne 22, 3) := by decide +kernel
theorem dX5_isAtWord_11 : decode cX5_isAtWord 11 = .ok (.aload_n 0, 1) := by decide +kernel
theorem dX5_isAtWord_12 : decode cX5_isAtWord 12 = .ok (.getfield 12, 3) := by decide +kernel
theorem dX5_isAtWord_15 : decode cX5_isAtWord 15 = .ok (.getfield 64, 3) := by decide +kernel
theorem dX5_isAtWord_18 : decode cX5_isAtWord 18 = .ok (.aload_n 1, 1) := by decide +kernel
theorem dX5_isAtWord_19 : decode cX5_isAtWord 19 = .ok (.invokestatic 68, 3) := by decide +kernel
theorem dX5_isAtWord_22 : decode cX5_isAtWord 22 = .ok (.lcmp, 1) := by decide +kernel
theorem dX5_isAtWord_23 : decode cX5_isAtWord 23 = .ok (.ifCond .ne 7, 3) := by decide +kernel
theorem dX5_isAtWord_26 : decode cX5_isAtWord 26 = .ok (.iconst 1, 1) := by decide +kernel
theorem dX5_isAtWord_27 : decode cX5_isAtWord 27 = .ok (.goto 4, 3) := by decide +kernel
theorem dX5_isAtWord_30 : decode cX5_isAtWord 30 = .ok (.iconst 0, 1) := by decide +kernel
theorem dX5_isAtWord_31 : decode cX5_isAtWord 31 = .ok (.ireturn, 1) := by decide +kernel
theorem dX5_checkNumber_0 : decode cX5_checkNumber 0 = .ok (.aload_n 0, 1) := by decide +kernel
theorem dX5_checkNumber_1 : decode cX5_checkNumber 1 = .ok (.getfield 12, 3) := by decide +kernel
theorem dX5_checkNumber_4 : decode cX5_checkNumber 4 = .ok (.getfield 48, 3) := by decide +kernel
theorem dX5_checkNumber_7 : decode cX5_checkNumber 7 = .ok (.iconst 2, 1) := by decide +kernel
theorem dX5_checkNumber_8 : decode cX5_checkNumber 8 = .ok (.if_icmp .eq 9, 3) := by decide +kernel
theorem dX5_checkNumber_11 : decode cX5_checkNumber 11 = .ok (.aload_n 0, 1) := by decide +kernel
theorem dX5_checkNumber_12 : decode cX5_checkNumber 12 = .ok (.iconst 1, 1) := by decide +kernel
theorem dX5_checkNumber_13 : decode cX5_checkNumber 13 = .ok (.invokevirtual 51, 3) := by decide +kernel
theorem dX5_checkNumber_16 : decode cX5_checkNumber 16 = .ok (.ireturn, 1) := by decide +kernel
theorem dX5_checkNumber_17 : decode cX5_checkNumber 17 = .ok (.aload_n 0, 1) := by decide +kernel
theorem dX5_checkNumber_18 : decode cX5_checkNumber 18 = .ok (.getfield 12, 3) := by decide +kernel
theorem dX5_checkNumber_21 : decode cX5_checkNumber 21 = .ok (.getfield 72, 3) := by decide +kernel
theorem dX5_checkNumber_24 : decode cX5_checkNumber 24 = .ok (.iload_n 1, 1) := by decide +kernel
theorem dX5_checkNumber_25 : decode cX5_checkNumber 25 = .ok (.if_icmp .lt 14, 3) := by decide +kernel
theorem dX5_checkNumber_28 : decode cX5_checkNumber 28 = .ok (.aload_n 0, 1) := by decide +kernel
theorem dX5_checkNumber_29 : decode cX5_checkNumber 29 = .ok (.getfield 12, 3) := by decide +kernel
theorem dX5_checkNumber_32 : decode cX5_checkNumber 32 = .ok (.getfield 72, 3) := by decide +kernel
theorem dX5_checkNumber_35 : decode cX5_checkNumber 35 = .ok (.iload_n 2, 1) := by decide +kernel
theorem dX5_checkNumber_36 : decode cX5_checkNumber 36 = .ok (.if_icmp .le 11, 3) := by decide +kernel
theorem dX5_checkNumber_39 : decode cX5_checkNumber 39 = .ok (.aload_n 0, 1) := by decide +kernel
theorem dX5_checkNumber_40 : decode cX5_checkNumber 40 = .ok (.iconst 2, 1) := by decide +kernel
theorem dX5_checkNumber_41 : decode cX5_checkNumber 41 = .ok (.invokevirtual 51, 3) := by decide +kernel
theorem dX5_checkNumber_44 : decode cX5_checkNumber 44 = .ok (.ifCond .eq 7, 3) := by decide +kernel
theorem dX5_checkNumber_47 : decode cX5_checkNumber 47 = .ok (.iconst 1, 1) := by decide +kernel
theorem dX5_checkNumber_48 : decode cX5_checkNumber 48 = .ok (.goto 4, 3) := by decide +kernel
theorem dX5_checkNumber_51 : decode cX5_checkNumber 51 = .ok (.iconst 0, 1) := by decide +kernel
theorem dX5_checkNumber_52 : decode cX5_checkNumber 52 = .ok (.ireturn, 1) := by decide +kernel
theorem dX5_checkNextNumber_0 : decode cX5_checkNextNumber 0 = .ok (.aload_n 0, 1) := by decide +kernel
theorem dX5_checkNextNumber_1 : decode cX5_checkNextNumber 1 = .ok (.getfield 12, 3) := by decide +kernel
theorem dX5_checkNextNumber_4 : decode cX5_checkNextNumber 4 = .ok (.invokevirtual 55, 3) := by decide +kernel
theorem dX5_checkNextNumber_7 : decode cX5_checkNextNumber 7 = .ok (.aload_n 0, 1) := by decide +kernel
theorem dX5_checkNextNumber_8 : decode cX5_checkNextNumber 8 = .ok (.iload_n 1, 1) := by decide +kernel
theorem dX5_checkNextNumber_9 : decode cX5_checkNextNumber 9 = .ok (.iload_n 2, 1) := by decide +kernel
theorem dX5_checkNextNumber_10 : decode cX5_checkNextNumber 10 = .ok (.invokevirtual 75, 3) := by decide +kernel
theorem dX5_checkNextNumber_13 : decode cX5_checkNextNumber 13 = .ok (.ireturn, 1) := by decide +kernel
theorem dX5_finishLine_0 : decode cX5_finishLine 0 = .ok (.aload_n 0, 1) := by decide +kernel
theorem dX5_finishLine_1 : decode cX5_finishLine 1 = .ok (.getfield 12, 3) := by decide +kernel
theorem dX5_finishLine_4 : decode cX5_finishLine 4 = .ok (.invokevirtual 55, 3) := by decide +kernel
theorem dX5_finishLine_7 : decode cX5_finishLine 7 = .ok (.iconst 1, 1) := by decide +kernel
theorem dX5_finishLine_8 : decode cX5_finishLine 8 = .ok (.ireturn, 1) := by decide +kernel
theorem dX5_readHead_0 : decode cX5_readHead 0 = .ok (.aload_n 0, 1) := by decide +kernel
theorem dX5_readHead_1 : decode cX5_readHead 1 = .ok (.ldc 79, 2) := by decide +kernel
theorem dX5_readHead_3 : decode cX5_readHead 3 = .ok (.invokevirtual 80, 3) := by decide +kernel
theorem dX5_readHead_6 : decode cX5_readHead 6 = .ok (.ifCond .ne 9, 3) := by decide +kernel
theorem dX5_readHead_9 : decode cX5_readHead 9 = .ok (.aload_n 0, 1) := by decide +kernel
theorem dX5_readHead_10 : decode cX5_readHead 10 = .ok (.iconst 1, 1) := by decide +kernel
theorem dX5_readHead_11 : decode cX5_readHead 11 = .ok (.invokevirtual 51, 3) := by decide +kernel
theorem dX5_readHead_14 : decode cX5_readHead 14 = .ok (.ireturn, 1) := by decide +kernel
theorem dX5_readHead_15 : decode cX5_readHead 15 = .ok (.aload_n 0, 1) := by decide +kernel
theorem dX5_readHead_16 : decode cX5_readHead 16 = .ok (.iconst 4, 1) := by decide +kernel
theorem dX5_readHead_17 : decode cX5_readHead 17 = .ok (.bipush 20, 2) := by decide +kernel
theorem dX5_readHead_19 : decode cX5_readHead 19 = .ok (.invokevirtual 84, 3) := by decide +kernel
theorem dX5_readHead_22 : decode cX5_readHead 22 = .ok (.ifCond .ne 5, 3) := by decide +kernel
theorem dX5_readHead_25 : decode cX5_readHead 25 = .ok (.iconst 0, 1) := by decide +kernel
theorem dX5_readHead_26 : decode cX5_readHead 26 = .ok (.ireturn, 1) := by decide +kernel
theorem dX5_readHead_27 : decode cX5_readHead 27 = .ok (.aload_n 0, 1) := by decide +kernel
theorem dX5_readHead_28 : decode cX5_readHead 28 = .ok (.getfield 28, 3) := by decide +kernel
theorem dX5_readHead_31 : decode cX5_readHead 31 = .ok (.aload_n 0, 1) := by decide +kernel
theorem dX5_readHead_32 : decode cX5_readHead 32 = .ok (.getfield 12, 3) := by decide +kernel
theorem dX5_readHead_35 : decode cX5_readHead 35 = .ok (.getfield 72, 3) := by decide +kernel
theorem dX5_readHead_38 : decode cX5_readHead 38 = .ok (.putfield 87, 3) := by decide +kernel
theorem dX5_readHead_41 : decode cX5_readHead 41 = .ok (.aload_n 0, 1) := by decide +kernel
theorem dX5_readHead_42 : decode cX5_readHead 42 = .ok (.iconst 0, 1) := by decide +kernel
theorem dX5_readHead_43 : decode cX5_readHead 43 = .ok (.iconst 4, 1) := by decide +kernel
theorem dX5_readHead_44 : decode cX5_readHead 44 = .ok (.invokevirtual 84, 3) := by decide +kernel
theorem dX5_readHead_47 : decode cX5_readHead 47 = .ok (.ifCond .ne 5, 3) := by decide +kernel
theorem dX5_readHead_50 : decode cX5_readHead 50 = .ok (.iconst 0, 1) := by decide +kernel
theorem dX5_readHead_51 : decode cX5_readHead 51 = .ok (.ireturn, 1) := by decide +kernel
theorem dX5_readHead_52 : decode cX5_readHead 52 = .ok (.aload_n 0, 1) := by decide +kernel
theorem dX5_readHead_53 : decode cX5_readHead 53 = .ok (.getfield 28, 3) := by decide +kernel
theorem dX5_readHead_56 : decode cX5_readHead 56 = .ok (.aload_n 0, 1) := by decide +kernel
theorem dX5_readHead_57 : decode cX5_readHead 57 = .ok (.getfield 12, 3) := by decide +kernel
theorem dX5_readHead_60 : decode cX5_readHead 60 = .ok (.getfield 72, 3) := by decide +kernel
theorem dX5_readHead_63 : decode cX5_readHead 63 = .ok (.putfield 90, 3) := by decide +kernel
theorem dX5_readHead_66 : decode cX5_readHead 66 = .ok (.aload_n 0, 1) := by decide +kernel
theorem dX5_readHead_67 : decode cX5_readHead 67 = .ok (.iconst 2, 1) := by decide +kernel
theorem dX5_readHead_68 : decode cX5_readHead 68 = .ok (.iconst 4, 1) := by decide +kernel
theorem dX5_readHead_69 : decode cX5_readHead 69 = .ok (.invokevirtual 84, 3) := by decide +kernel
theorem dX5_readHead_72 : decode cX5_readHead 72 = .ok (.ifCond .ne 5, 3) := by decide +kernel
theorem dX5_readHead_75 : decode cX5_readHead 75 = .ok (.iconst 0, 1) := by decide +kernel
theorem dX5_readHead_76 : decode cX5_readHead 76 = .ok (.ireturn, 1) := by decide +kernel
theorem dX5_readHead_77 : decode cX5_readHead 77 = .ok (.aload_n 0, 1) := by decide +kernel
theorem dX5_readHead_78 : decode cX5_readHead 78 = .ok (.getfield 28, 3) := by decide +kernel
theorem dX5_readHead_81 : decode cX5_readHead 81 = .ok (.getfield 93, 3) := by decide +kernel
theorem dX5_readHead_84 : decode cX5_readHead 84 = .ok (.aload_n 0, 1) := by decide +kernel
theorem dX5_readHead_85 : decode cX5_readHead 85 = .ok (.getfield 12, 3) := by decide +kernel
theorem dX5_readHead_88 : decode cX5_readHead 88 = .ok (.getfield 72, 3) := by decide +kernel
theorem dX5_readHead_91 : decode cX5_readHead 91 = .ok (.putfield 97, 3) := by decide +kernel
theorem dX5_readHead_94 : decode cX5_readHead 94 = .ok (.aload_n 0, 1) := by decide +kernel
theorem dX5_readHead_95 : decode cX5_readHead 95 = .ok (.invokevirtual 102, 3) := by decide +kernel
theorem dX5_readHead_98 : decode cX5_readHead 98 = .ok (.ireturn, 1) := by decide +kernel
set_option maxRecDepth 100000 in
set_option maxHeartbeats 4000000 in
theorem cX1_insertWordc {l : Launch} {v0 : Option Nat} {v1 : Int32} {v2 : Int64} {σ : HpT} {σ' : HpT} (h : fX1_insertWord v0 v1 v2 σ = some σ') : IsK σ v0 1 ∧ Ct l yX1_insertWord cX1_insertWord 5 none 2 42 [va_rf v0, .int v1, .long v2] σ (.ok none) σ' 0 0 := by
  unfold fX1_insertWord at h
  replace h := bnP_s h
  obtain ⟨u, hk, h⟩ := h
  replace hk := isK_s hk
  refine ⟨hk, ?_⟩
  refine ct_start mi_X1_insertWord.1 rfl (al_le (al_1 (rf_cat _) (al_1 rfl (al_2 rfl al_n))) (Nat.le_of_ble_eq_true rfl)) (ag_1 (rf_cat _) (ag_1 rfl (ag_2 rfl ag_n))) (fun Δ Γ B hE hnm => ?_)
  refine g_aload_n B 0 dX1_insertWord_0 rfl rfl ?_
  replace h := bnP_s h
  obtain ⟨x1, h2, h⟩ := h
  refine g_callVs0 (st := []) B (cX1_openActc h2) (Nat.le_of_ble_eq_true rfl) rfl rfl mi_X1_openAct lk_RX1_87 ⟨Nat.le_of_ble_eq_true rfl, Nat.le_of_ble_eq_true rfl⟩ rfl rfl (Nat.le_of_ble_eq_true rfl) dX1_insertWord_1 (Nat.zero_le _) (Nat.zero_le _) ?_
  refine g_astore B dX1_insertWord_4 (Nat.le_of_ble_eq_true rfl) (s1_c (f1_k rfl (f1_k rfl (f1_k rfl f1_n)))) ?_
  refine g_aload B 0 dX1_insertWord_6 rfl ?_
  refine g_ifnull B 45 dX1_insertWord_8 (by decide) (fun hc => ?_) (fun hc => ?_)
  · replace h := ifp hc h
    replace h := Option.some.inj h
    subst h
    exact g_vret B hE (Nat.zero_le _) (Nat.zero_le _) dX1_insertWord_45
  · replace h := ifn hc h
    refine g_aload_n B 1 dX1_insertWord_11 rfl rfl ?_
    refine g_iload_n B 2 dX1_insertWord_12 rfl rfl ?_
    replace h := bnP_s h
    obtain ⟨x3, h4, h⟩ := h
    refine g_callVs0 (st := []) B (cX1_canInsertc h4) (Nat.le_of_ble_eq_true rfl) rfl rfl mi_X1_canInsert lk_RX1_197 ⟨Nat.le_of_ble_eq_true rfl, Nat.le_of_ble_eq_true rfl⟩ rfl rfl (Nat.le_of_ble_eq_true rfl) dX1_insertWord_13 (Nat.zero_le _) (Nat.zero_le _) ?_
    refine g_if_eq B 45 dX1_insertWord_16 (by decide) (fun hc => ?_) (fun hc => ?_)
    · replace h := ifn (bI0 hc) h
      replace h := Option.some.inj h
      subst h
      exact g_vret B hE (Nat.zero_le _) (Nat.zero_le _) dX1_insertWord_45
    · replace h := ifp (bI1 hc) h
      refine g_aload_n B 1 dX1_insertWord_19 rfl rfl ?_
      replace h := bnP_s h
      obtain ⟨x5, h6, h⟩ := h
      refine g_getR B fl_RX1_24 (by decide) dX1_insertWord_20 h6 ?_
      refine g_aload B 0 dX1_insertWord_23 rfl ?_
      replace h := bnP_s h
      obtain ⟨x7, h8, h⟩ := h
      refine g_getI B fl_RX1_92 (by decide) dX1_insertWord_25 h8 ?_
      refine g_iload_n B 2 dX1_insertWord_28 rfl rfl ?_
      refine g_iadd B dX1_insertWord_29 ?_
      refine g_lload_n B 3 dX1_insertWord_30 rfl rfl ?_
      replace h := bnP_s h
      obtain ⟨s11, h10, h⟩ := h
      refine g_callVv0 (st := []) B (cX8_insertc h10) (Nat.le_of_ble_eq_true rfl) rfl rfl mi_X8_insert lk_RX1_200 ⟨Nat.le_of_ble_eq_true rfl, Nat.le_of_ble_eq_true rfl⟩ rfl rfl (Nat.le_of_ble_eq_true rfl) dX1_insertWord_31 (Nat.zero_le _) (Nat.zero_le _) ?_
      refine g_aload B 0 dX1_insertWord_34 rfl ?_
      refine g_dup B dX1_insertWord_36 (rf_cat _) ?_
      replace h := bnP_s h
      obtain ⟨x12, h13, h⟩ := h
      refine g_getI B fl_RX1_99 (by decide) dX1_insertWord_37 h13 ?_
      refine g_iconst (v := 1) B dX1_insertWord_40 (by decide) ?_
      refine g_iadd B dX1_insertWord_41 ?_
      replace h := bnP_s h
      obtain ⟨s16, h15, h⟩ := h
      refine g_putI B fl_RX1_99 (by decide) dX1_insertWord_42 h15 ?_
      replace h := Option.some.inj h
      subst h
      exact g_vret B hE (Nat.zero_le _) (Nat.zero_le _) dX1_insertWord_45
set_option maxRecDepth 100000 in
set_option maxHeartbeats 4000000 in
theorem cX1_sealReasonc {l : Launch} {v0 : Option Nat} {v1 : Int32} {v2 : Int32} {σ : HpT} {r : Int32} (h : fX1_sealReason v0 v1 v2 σ = some r) : IsK σ v0 1 ∧ Ct l yX1_sealReason cX1_sealReason 4 (some .int) 3 69 [va_rf v0, .int v1, .int v2] σ (.ok (some (.int r))) σ 0 0 := by
  unfold fX1_sealReason at h
  replace h := bnP_s h
  obtain ⟨u, hk, h⟩ := h
  replace hk := isK_s hk
  refine ⟨hk, ?_⟩
  refine ct_start mi_X1_sealReason.1 rfl (al_le (al_1 (rf_cat _) (al_1 rfl (al_1 rfl al_n))) (Nat.le_of_ble_eq_true rfl)) (ag_1 (rf_cat _) (ag_1 rfl (ag_1 rfl ag_n))) (fun Δ Γ B hE hnm => ?_)
  refine g_aload_n B 0 dX1_sealReason_0 rfl rfl ?_
  replace h := bnP_s h
  obtain ⟨x1, h2, h⟩ := h
  refine g_callVs0 (st := []) B (cX1_openActc h2) (Nat.le_of_ble_eq_true rfl) rfl rfl mi_X1_openAct lk_RX1_87 ⟨Nat.le_of_ble_eq_true rfl, Nat.le_of_ble_eq_true rfl⟩ rfl rfl (Nat.le_of_ble_eq_true rfl) dX1_sealReason_1 (Nat.zero_le _) (Nat.zero_le _) ?_
  refine g_astore_n B dX1_sealReason_4 rfl (Nat.le_of_ble_eq_true rfl) (s1_c (f1_k rfl (f1_k rfl (f1_1 rfl rfl f1_n)))) ?_
  refine g_aload_n B 0 dX1_sealReason_5 rfl rfl ?_
  refine g_ifnonnull B 11 dX1_sealReason_6 (by decide) (fun hc => ?_) (fun hc => ?_)
  · replace h := ifn hc h
    refine g_iload_n B 2 dX1_sealReason_11 rfl rfl ?_
    refine g_aload_n B 1 dX1_sealReason_12 rfl rfl ?_
    replace h := bnP_s h
    obtain ⟨x3, h4, h⟩ := h
    refine g_getI B fl_RX1_52 (by decide) dX1_sealReason_13 h4 ?_
    refine g_icmp_ge B 21 dX1_sealReason_16 (by decide) (fun hc => ?_) (fun hc => ?_)
    · replace h := ifp hc h
      refine g_iload_n B 3 dX1_sealReason_21 rfl rfl ?_
      refine g_aload_n B 0 dX1_sealReason_22 rfl rfl ?_
      replace h := bnP_s h
      obtain ⟨x5, h6, h⟩ := h
      refine g_getI B fl_RX1_99 (by decide) dX1_sealReason_23 h6 ?_
      refine g_icmp_eq B 31 dX1_sealReason_26 (by decide) (fun hc => ?_) (fun hc => ?_)
      · replace h := ifp hc h
        refine g_aload_n B 1 dX1_sealReason_31 rfl rfl ?_
        replace h := bnP_s h
        obtain ⟨x7, h8, h⟩ := h
        refine g_callVs0 (st := []) B (cX1_openStandingc h8) (Nat.le_of_ble_eq_true rfl) rfl rfl mi_X1_openStanding lk_RX1_204 ⟨Nat.le_of_ble_eq_true rfl, Nat.le_of_ble_eq_true rfl⟩ rfl rfl (Nat.le_of_ble_eq_true rfl) dX1_sealReason_32 (Nat.zero_le _) (Nat.zero_le _) ?_
        refine g_if_ne B 42 dX1_sealReason_35 (by decide) (fun hc => ?_) (fun hc => ?_)
        · replace h := ifn hc h
          refine g_iconst (v := 0) B dX1_sealReason_42 (by decide) ?_
          replace h := Option.some.inj h
          subst h
          exact g_iret B hE (Nat.zero_le _) (Nat.zero_le _) dX1_sealReason_43
        · replace h := ifp hc h
          refine g_iconst (v := 4) B dX1_sealReason_38 (by decide) ?_
          refine g_goto B 43 dX1_sealReason_39 (by decide) ?_
          replace h := Option.some.inj h
          subst h
          exact g_iret B hE (Nat.zero_le _) (Nat.zero_le _) dX1_sealReason_43
      · replace h := ifn hc h
        refine g_iconst (v := 3) B dX1_sealReason_29 (by decide) ?_
        replace h := Option.some.inj h
        subst h
        exact g_iret B hE (Nat.zero_le _) (Nat.zero_le _) dX1_sealReason_30
    · replace h := ifn hc h
      refine g_iconst (v := 2) B dX1_sealReason_19 (by decide) ?_
      replace h := Option.some.inj h
      subst h
      exact g_iret B hE (Nat.zero_le _) (Nat.zero_le _) dX1_sealReason_20
  · replace h := ifp hc h
    refine g_iconst (v := 1) B dX1_sealReason_9 (by decide) ?_
    replace h := Option.some.inj h
    subst h
    exact g_iret B hE (Nat.zero_le _) (Nat.zero_le _) dX1_sealReason_10
set_option maxRecDepth 100000 in
set_option maxHeartbeats 4000000 in
theorem cX1_sealOpenc {l : Launch} {v0 : Option Nat} {v1 : Int32} {σ : HpT} {r : Int32} {σ' : HpT} (h : fX1_sealOpen v0 v1 σ = some (r, σ')) : IsK σ v0 1 ∧ Ct l yX1_sealOpen cX1_sealOpen 3 (some .int) 3 69 [va_rf v0, .int v1] σ (.ok (some (.int r))) σ' 0 0 := by
  unfold fX1_sealOpen at h
  replace h := bnP_s h
  obtain ⟨u, hk, h⟩ := h
  replace hk := isK_s hk
  refine ⟨hk, ?_⟩
  refine ct_start mi_X1_sealOpen.1 rfl (al_le (al_1 (rf_cat _) (al_1 rfl al_n)) (Nat.le_of_ble_eq_true rfl)) (ag_1 (rf_cat _) (ag_1 rfl ag_n)) (fun Δ Γ B hE hnm => ?_)
  refine g_aload_n B 0 dX1_sealOpen_0 rfl rfl ?_
  replace h := bnP_s h
  obtain ⟨x1, h2, h⟩ := h
  refine g_callVs0 (st := []) B (cX1_openActc h2) (Nat.le_of_ble_eq_true rfl) rfl rfl mi_X1_openAct lk_RX1_87 ⟨Nat.le_of_ble_eq_true rfl, Nat.le_of_ble_eq_true rfl⟩ rfl rfl (Nat.le_of_ble_eq_true rfl) dX1_sealOpen_1 (Nat.zero_le _) (Nat.zero_le _) ?_
  refine g_astore_n B dX1_sealOpen_4 rfl (Nat.le_of_ble_eq_true rfl) (s1_c (f1_k rfl (f1_1 rfl rfl f1_n))) ?_
  refine g_aload_n B 0 dX1_sealOpen_5 rfl rfl ?_
  refine g_ifnonnull B 11 dX1_sealOpen_6 (by decide) (fun hc => ?_) (fun hc => ?_)
  · replace h := ifn hc h
    refine g_aload_n B 0 dX1_sealOpen_11 rfl rfl ?_
    refine g_aload_n B 0 dX1_sealOpen_12 rfl rfl ?_
    replace h := bnP_s h
    obtain ⟨x3, h4, h⟩ := h
    refine g_callVs0 (st := [va_rf x1]) B (cX0_baseFeec h4) (Nat.le_of_ble_eq_true rfl) rfl rfl mi_X0_baseFee lk_RX1_207 ⟨Nat.le_of_ble_eq_true rfl, Nat.le_of_ble_eq_true rfl⟩ rfl rfl (Nat.le_of_ble_eq_true rfl) dX1_sealOpen_13 (Nat.zero_le _) (Nat.zero_le _) ?_
    refine g_aload_n B 1 dX1_sealOpen_16 rfl rfl ?_
    replace h := bnP_s h
    obtain ⟨x5, h6, h⟩ := h
    refine g_callVs0 (st := [.int x3, va_rf x1]) B (cX1_openStandingc h6) (Nat.le_of_ble_eq_true rfl) rfl rfl mi_X1_openStanding lk_RX1_204 ⟨Nat.le_of_ble_eq_true rfl, Nat.le_of_ble_eq_true rfl⟩ rfl rfl (Nat.le_of_ble_eq_true rfl) dX1_sealOpen_17 (Nat.zero_le _) (Nat.zero_le _) ?_
    refine g_iadd B dX1_sealOpen_20 ?_
    replace h := bnP_s h
    obtain ⟨s9, h8, h⟩ := h
    refine g_putI B fl_RX1_210 (by decide) dX1_sealOpen_21 h8 ?_
    refine g_aload_n B 0 dX1_sealOpen_24 rfl rfl ?_
    refine g_iload_n B 2 dX1_sealOpen_25 rfl rfl ?_
    replace h := bnP_s h
    obtain ⟨s12, h11, h⟩ := h
    refine g_putI B fl_RX1_212 (by decide) dX1_sealOpen_26 h11 ?_
    refine g_aload_n B 0 dX1_sealOpen_29 rfl rfl ?_
    refine g_iconst (v := 1) B dX1_sealOpen_30 (by decide) ?_
    replace h := bnP_s h
    obtain ⟨s15, h14, h⟩ := h
    refine g_putI B fl_RX1_84 (by decide) dX1_sealOpen_31 h14 ?_
    refine g_aload_n B 1 dX1_sealOpen_34 rfl rfl ?_
    refine g_dup B dX1_sealOpen_35 (rf_cat _) ?_
    replace h := bnP_s h
    obtain ⟨x16, h17, h⟩ := h
    refine g_getI B fl_RX1_61 (by decide) dX1_sealOpen_36 h17 ?_
    refine g_aload_n B 0 dX1_sealOpen_39 rfl rfl ?_
    replace h := bnP_s h
    obtain ⟨x18, h19, h⟩ := h
    refine g_getI B fl_RX1_210 (by decide) dX1_sealOpen_40 h19 ?_
    refine g_iadd B dX1_sealOpen_43 ?_
    replace h := bnP_s h
    obtain ⟨s22, h21, h⟩ := h
    refine g_putI B fl_RX1_61 (by decide) dX1_sealOpen_44 h21 ?_
    refine g_aload_n B 0 dX1_sealOpen_47 rfl rfl ?_
    replace h := bnP_s h
    obtain ⟨x23, h24, h⟩ := h
    refine g_getI B fl_RX1_210 (by decide) dX1_sealOpen_48 h24 ?_
    obtain ⟨w1, w2⟩ := inS h
    clear h
    subst w1
    subst w2
    exact g_iret B hE (Nat.zero_le _) (Nat.zero_le _) dX1_sealOpen_51
  · replace h := ifp hc h
    refine g_iconst (v := 0) B dX1_sealOpen_9 (by decide) ?_
    obtain ⟨w1, w2⟩ := inS h
    clear h
    subst w1
    subst w2
    exact g_iret B hE (Nat.zero_le _) (Nat.zero_le _) dX1_sealOpen_10
set_option maxRecDepth 100000 in
set_option maxHeartbeats 4000000 in
theorem cX1_cancelOpenc {l : Launch} {v0 : Option Nat} {σ : HpT} {σ' : HpT} (h : fX1_cancelOpen v0 σ = some σ') : IsK σ v0 1 ∧ Ct l yX1_cancelOpen cX1_cancelOpen 2 none 1 20 [va_rf v0] σ (.ok none) σ' 0 0 := by
  unfold fX1_cancelOpen at h
  replace h := bnP_s h
  obtain ⟨u, hk, h⟩ := h
  replace hk := isK_s hk
  refine ⟨hk, ?_⟩
  refine ct_start mi_X1_cancelOpen.1 rfl (al_le (al_1 (rf_cat _) al_n) (Nat.le_of_ble_eq_true rfl)) (ag_1 (rf_cat _) ag_n) (fun Δ Γ B hE hnm => ?_)
  refine g_aload_n B 0 dX1_cancelOpen_0 rfl rfl ?_
  replace h := bnP_s h
  obtain ⟨x1, h2, h⟩ := h
  refine g_callVs0 (st := []) B (cX1_openActc h2) (Nat.le_of_ble_eq_true rfl) rfl rfl mi_X1_openAct lk_RX1_87 ⟨Nat.le_of_ble_eq_true rfl, Nat.le_of_ble_eq_true rfl⟩ rfl rfl (Nat.le_of_ble_eq_true rfl) dX1_cancelOpen_1 (Nat.zero_le _) (Nat.zero_le _) ?_
  refine g_astore_n B dX1_cancelOpen_4 rfl (Nat.le_of_ble_eq_true rfl) (s1_c (f1_1 rfl (rf_cat _) f1_n)) ?_
  refine g_aload_n B 0 dX1_cancelOpen_5 rfl rfl ?_
  refine g_ifnull B 14 dX1_cancelOpen_6 (by decide) (fun hc => ?_) (fun hc => ?_)
  · replace h := ifp hc h
    replace h := Option.some.inj h
    subst h
    exact g_vret B hE (Nat.zero_le _) (Nat.zero_le _) dX1_cancelOpen_14
  · replace h := ifn hc h
    refine g_aload_n B 0 dX1_cancelOpen_9 rfl rfl ?_
    refine g_iconst (v := 2) B dX1_cancelOpen_10 (by decide) ?_
    replace h := bnP_s h
    obtain ⟨s5, h4, h⟩ := h
    refine g_putI B fl_RX1_84 (by decide) dX1_cancelOpen_11 h4 ?_
    replace h := Option.some.inj h
    subst h
    exact g_vret B hE (Nat.zero_le _) (Nat.zero_le _) dX1_cancelOpen_14
set_option maxRecDepth 100000 in
set_option maxHeartbeats 4000000 in
theorem cX1_wordsGapc {l : Launch} {v0 : Option Nat} {σ : HpT} {r : Int32} (h : fX1_wordsGap v0 σ = some r) : IsK σ v0 1 ∧ Ct l yX1_wordsGap cX1_wordsGap 3 (some .int) 2 42 [va_rf v0] σ (.ok (some (.int r))) σ 0 0 := by
  unfold fX1_wordsGap at h
  replace h := bnP_s h
  obtain ⟨u, hk, h⟩ := h
  replace hk := isK_s hk
  refine ⟨hk, ?_⟩
  refine ct_start mi_X1_wordsGap.1 rfl (al_le (al_1 (rf_cat _) al_n) (Nat.le_of_ble_eq_true rfl)) (ag_1 (rf_cat _) ag_n) (fun Δ Γ B hE hnm => ?_)
  refine g_iconst (v := 0) B dX1_wordsGap_0 (by decide) ?_
  refine g_istore_n B dX1_wordsGap_1 rfl (Nat.le_of_ble_eq_true rfl) (s1_c (f1_1 rfl (rf_cat _) f1_n)) ?_
  refine g_iconst (v := 0) B dX1_wordsGap_2 (by decide) ?_
  refine g_istore_n B dX1_wordsGap_3 rfl (Nat.le_of_ble_eq_true rfl) (s1_c (f1_1 rfl rfl (f1_k rfl f1_n))) ?_
  replace h := bnP_s h
  obtain ⟨r2, h3, h⟩ := h
  have kE4 : GW Δ Γ (0) (0) 29 [(0, va_rf v0), (1, .int r2)] [] σ := by
    refine g_iconst (v := 0) B dX1_wordsGap_29 (by decide) ?_
    refine g_istore_n B dX1_wordsGap_30 rfl (Nat.le_of_ble_eq_true rfl) (s1_c (f1_k rfl (f1_1 rfl rfl f1_n))) ?_
    replace h := bnP_s h
    obtain ⟨r17, h18, h⟩ := h
    have kE19 : GW Δ Γ (0) (0) 57 [(1, .int r17)] [] σ := by
      refine g_iload_n B 0 dX1_wordsGap_57 rfl rfl ?_
      refine g_mabs B mt_RX1_215 (by decide) (Nat.le_of_ble_eq_true rfl) dX1_wordsGap_58 (Nat.zero_le _) (Nat.zero_le _) ?_
      replace h := Option.some.inj h
      subst h
      exact g_iret B hE (Nat.zero_le _) (Nat.zero_le _) dX1_wordsGap_61
    clear h
    refine g_sub [1, 2, 0] rfl ?_
    refine lpP_w (I := fun q16 => GW Δ Γ (0) (0) 31 [(0, va_rf v0), (1, .int q16.1), (2, .int q16.2)] [] σ) (r := r17) ?_ FUEL (r2, 0) h18
    intro q16 x23 h hI21 hR22
    unfold fX1_wordsGap_l2 at h
    refine g_iload_n B 2 dX1_wordsGap_31 rfl rfl ?_
    refine g_aload_n B 0 dX1_wordsGap_32 rfl rfl ?_
    replace h := bnP_s h
    obtain ⟨x25, h26, h⟩ := h
    refine g_getI B fl_RX1_55 (by decide) dX1_wordsGap_33 h26 ?_
    refine g_icmp_ge B 57 dX1_wordsGap_36 (by decide) (fun hc => ?_) (fun hc => ?_)
    · replace h := ifp hc h
      replace h := Option.some.inj h
      subst h
      have e8 := hR22 _ rfl
      subst e8
      exact g_sub [1] rfl kE19
    · replace h := ifn hc h
      refine g_iload_n B 1 dX1_wordsGap_39 rfl rfl ?_
      refine g_aload_n B 0 dX1_wordsGap_40 rfl rfl ?_
      replace h := bnP_s h
      obtain ⟨x27, h28, h⟩ := h
      refine g_getR B fl_RX1_11 (by decide) dX1_wordsGap_41 h28 ?_
      refine g_iload_n B 2 dX1_wordsGap_44 rfl rfl ?_
      replace h := bnP_s h
      obtain ⟨x29, h30, h⟩ := h
      refine g_ralds B (κ := 25) (by decide) rfl dX1_wordsGap_45 h30 ?_
      replace h := bnP_s h
      obtain ⟨x31, h32, h⟩ := h
      refine g_getI B fl_RX1_91 (by decide) dX1_wordsGap_46 h32 ?_
      refine g_isub B dX1_wordsGap_49 ?_
      refine g_istore_n B dX1_wordsGap_50 rfl (Nat.le_of_ble_eq_true rfl) (s1_c (f1_1 rfl (rf_cat _) (f1_x (f1_k rfl f1_n)))) ?_
      refine g_iinc (v := (q16.2 + 1)) B 2 dX1_wordsGap_51 rfl (by first | rfl | (congr 1; decide)) (Nat.le_of_ble_eq_true rfl) (s1_c (f1_1 rfl rfl (f1_k rfl (f1_x f1_n)))) ?_
      refine g_goto B 31 dX1_wordsGap_54 (by decide) ?_
      replace h := Option.some.inj h
      subst h
      exact g_sub [2, 1, 0] rfl (hI21 _ rfl)
  clear h
  refine g_sub [2, 1, 0] rfl ?_
  refine lpP_w (I := fun q1 => GW Δ Γ (0) (0) 4 [(0, va_rf v0), (1, .int q1.1), (2, .int q1.2)] [] σ) (r := r2) ?_ FUEL (0, 0) h3
  intro q1 x8 h hI6 hR7
  unfold fX1_wordsGap_l1 at h
  refine g_iload_n B 2 dX1_wordsGap_4 rfl rfl ?_
  refine g_aload_n B 0 dX1_wordsGap_5 rfl rfl ?_
  replace h := bnP_s h
  obtain ⟨x10, h11, h⟩ := h
  refine g_getR B fl_RX1_31 (by decide) dX1_wordsGap_6 h11 ?_
  replace h := bnP_s h
  obtain ⟨x12, h13, h⟩ := h
  refine g_getI B fl_RX1_83 (by decide) dX1_wordsGap_9 h13 ?_
  refine g_icmp_ge B 29 dX1_wordsGap_12 (by decide) (fun hc => ?_) (fun hc => ?_)
  · replace h := ifp hc h
    replace h := Option.some.inj h
    subst h
    have e8 := hR7 _ rfl
    subst e8
    exact g_sub [0, 1] rfl kE4
  · replace h := ifn hc h
    refine g_iload_n B 1 dX1_wordsGap_15 rfl rfl ?_
    refine g_aload_n B 0 dX1_wordsGap_16 rfl rfl ?_
    refine g_iload_n B 2 dX1_wordsGap_17 rfl rfl ?_
    replace h := bnP_s h
    obtain ⟨x14, h15, h⟩ := h
    refine g_callVs0 (st := [.int q1.1]) B (cX1_wordsOnc h15) (Nat.le_of_ble_eq_true rfl) rfl rfl mi_X1_wordsOn lk_RX1_146 ⟨Nat.le_of_ble_eq_true rfl, Nat.le_of_ble_eq_true rfl⟩ rfl rfl (Nat.le_of_ble_eq_true rfl) dX1_wordsGap_18 (Nat.zero_le _) (Nat.zero_le _) ?_
    refine g_iadd B dX1_wordsGap_21 ?_
    refine g_istore_n B dX1_wordsGap_22 rfl (Nat.le_of_ble_eq_true rfl) (s1_c (f1_1 rfl (rf_cat _) (f1_x (f1_k rfl f1_n)))) ?_
    refine g_iinc (v := (q1.2 + 1)) B 2 dX1_wordsGap_23 rfl (by first | rfl | (congr 1; decide)) (Nat.le_of_ble_eq_true rfl) (s1_c (f1_1 rfl rfl (f1_k rfl (f1_x f1_n)))) ?_
    refine g_goto B 4 dX1_wordsGap_26 (by decide) ?_
    replace h := Option.some.inj h
    subst h
    exact g_sub [2, 1, 0] rfl (hI6 _ rfl)
set_option maxRecDepth 100000 in
set_option maxHeartbeats 4000000 in
theorem cX8_standingByClausesc {l : Launch} {v0 : Option Nat} {v1 : Int32} {v2 : Int32} {σ : HpT} {r : Int32} (h : fX8_standingByClauses v0 v1 v2 σ = some r) : IsK σ v0 8 ∧ Ct l yX8_standingByClauses cX8_standingByClauses 7 (some .int) 2 48 [va_rf v0, .int v1, .int v2] σ (.ok (some (.int r))) σ 0 0 := by
  unfold fX8_standingByClauses at h
  replace h := bnP_s h
  obtain ⟨u, hk, h⟩ := h
  replace hk := isK_s hk
  refine ⟨hk, ?_⟩
  refine ct_start mi_X8_standingByClauses.1 rfl (al_le (al_1 (rf_cat _) (al_1 rfl (al_1 rfl al_n))) (Nat.le_of_ble_eq_true rfl)) (ag_1 (rf_cat _) (ag_1 rfl (ag_1 rfl ag_n))) (fun Δ Γ B hE hnm => ?_)
  refine g_iconst (v := 0) B dX8_standingByClauses_0 (by decide) ?_
  refine g_istore_n B dX8_standingByClauses_1 rfl (Nat.le_of_ble_eq_true rfl) (s1_c (f1_k rfl (f1_k rfl (f1_1 rfl rfl f1_n)))) ?_
  refine g_iconst (v := 0) B dX8_standingByClauses_2 (by decide) ?_
  refine g_istore B dX8_standingByClauses_3 (Nat.le_of_ble_eq_true rfl) (s1_c (f1_1 rfl rfl (f1_k rfl (f1_k rfl (f1_k rfl f1_n))))) ?_
  refine g_iconst (v := 0) B dX8_standingByClauses_5 (by decide) ?_
  refine g_istore B dX8_standingByClauses_6 (Nat.le_of_ble_eq_true rfl) (s1_c (f1_1 rfl rfl (f1_k rfl (f1_k rfl (f1_k rfl (f1_k rfl f1_n)))))) ?_
  refine g_iload_n B 4 dX8_standingByClauses_8 rfl rfl ?_
  refine g_istore B dX8_standingByClauses_9 (Nat.le_of_ble_eq_true rfl) (s1_c (f1_1 rfl rfl (f1_k rfl (f1_k rfl (f1_k rfl (f1_k rfl (f1_k rfl f1_n))))))) ?_
  replace h := bnP_s h
  obtain ⟨r2, h3, h⟩ := h
  have kE4 : GW Δ Γ (0) (0) 74 [(3, .int r2)] [] σ := by
    refine g_iload_n B 0 dX8_standingByClauses_74 rfl rfl ?_
    replace h := Option.some.inj h
    subst h
    exact g_iret B hE (Nat.zero_le _) (Nat.zero_le _) dX8_standingByClauses_75
  clear h
  refine g_sub [4, 5, 6, 3, 2, 1, 0] rfl ?_
  refine lpP_w (I := fun q1 => GW Δ Γ (0) (0) 11 [(0, va_rf v0), (1, .int v1), (2, .int v2), (3, .int q1.1), (4, .int q1.2.1), (5, .int q1.2.2.1), (6, .int q1.2.2.2)] [] σ) (r := r2) ?_ FUEL (0, 0, 0, v1) h3
  intro q1 x8 h hI6 hR7
  unfold fX8_standingByClauses_l1 at h
  obtain ⟨qv10, qv11, qv12, qv13⟩ := q1
  show GW Δ Γ (0) (0) 11 [(0, va_rf v0), (1, .int v1), (2, .int v2), (3, .int qv10), (4, .int qv11), (5, .int qv12), (6, .int qv13)] [] σ
  dsimp only at h
  refine g_iload B 6 dX8_standingByClauses_11 rfl ?_
  refine g_iload_n B 1 dX8_standingByClauses_13 rfl rfl ?_
  refine g_iload_n B 2 dX8_standingByClauses_14 rfl rfl ?_
  refine g_iadd B dX8_standingByClauses_15 ?_
  refine g_icmp_ge B 74 dX8_standingByClauses_16 (by decide) (fun hc => ?_) (fun hc => ?_)
  · replace h := ifp hc h
    replace h := Option.some.inj h
    subst h
    have e8 := hR7 _ rfl
    subst e8
    exact g_sub [3] rfl kE4
  · replace h := ifn hc h
    refine g_iload B 5 dX8_standingByClauses_19 rfl ?_
    refine g_aload_n B 0 dX8_standingByClauses_21 rfl rfl ?_
    replace h := bnP_s h
    obtain ⟨x14, h15, h⟩ := h
    refine g_getR B fl_RX8_15 (by decide) dX8_standingByClauses_22 h15 ?_
    refine g_iload B 6 dX8_standingByClauses_25 rfl ?_
    replace h := bnP_s h
    obtain ⟨x16, h17, h⟩ := h
    refine g_iald B dX8_standingByClauses_27 h17 ?_
    refine g_iadd B dX8_standingByClauses_28 ?_
    refine g_istore B dX8_standingByClauses_29 (Nat.le_of_ble_eq_true rfl) (s1_c (f1_k rfl (f1_k rfl (f1_k rfl (f1_k rfl (f1_1 rfl rfl (f1_x (f1_k rfl f1_n)))))))) ?_
    refine g_iload B 5 dX8_standingByClauses_31 rfl ?_
    refine g_aload_n B 1 dX8_standingByClauses_33 rfl rfl ?_
    refine g_iload B 6 dX8_standingByClauses_34 rfl ?_
    refine g_iconst (v := 1) B dX8_standingByClauses_36 (by decide) ?_
    replace h := bnP_s h
    obtain ⟨x18, h19, h⟩ := h
    refine g_callVs0 (st := [.int qv11]) B (cX8_standingFromc h19) (Nat.le_of_ble_eq_true rfl) rfl rfl mi_X8_standingFrom lk_RX8_46 ⟨Nat.le_of_ble_eq_true rfl, Nat.le_of_ble_eq_true rfl⟩ rfl rfl (Nat.le_of_ble_eq_true rfl) dX8_standingByClauses_37 (Nat.zero_le _) (Nat.zero_le _) ?_
    refine g_iadd B dX8_standingByClauses_40 ?_
    refine g_istore B dX8_standingByClauses_41 (Nat.le_of_ble_eq_true rfl) (s1_c (f1_k rfl (f1_k rfl (f1_k rfl (f1_k rfl (f1_1 rfl rfl (f1_x (f1_k rfl f1_n)))))))) ?_
    refine g_iload B 1 dX8_standingByClauses_43 rfl ?_
    refine g_aload_n B 2 dX8_standingByClauses_45 rfl rfl ?_
    replace h := bnP_s h
    obtain ⟨x20, h21, h⟩ := h
    refine g_getR B fl_RX8_19 (by decide) dX8_standingByClauses_46 h21 ?_
    refine g_iload B 6 dX8_standingByClauses_49 rfl ?_
    replace h := bnP_s h
    obtain ⟨x22, h23, h⟩ := h
    refine g_iald B dX8_standingByClauses_51 h23 ?_
    refine g_isub B dX8_standingByClauses_52 ?_
    refine g_istore B dX8_standingByClauses_53 (Nat.le_of_ble_eq_true rfl) (s1_c (f1_1 rfl rfl (f1_x (f1_k rfl (f1_k rfl (f1_k rfl (f1_k rfl (f1_k rfl f1_n)))))))) ?_
    refine g_iload B 0 dX8_standingByClauses_55 rfl ?_
    refine g_if_ne B 68 dX8_standingByClauses_57 (by decide) (fun hc => ?_) (fun hc => ?_)
    · replace h := ifn hc h
      refine g_iinc (v := (qv13 + 1)) B 6 dX8_standingByClauses_68 rfl (by first | rfl | (congr 1; decide)) (Nat.le_of_ble_eq_true rfl) (s1_c (f1_1 rfl rfl (f1_k rfl (f1_k rfl (f1_k rfl (f1_k rfl (f1_k rfl (f1_x f1_n)))))))) ?_
      refine g_goto B 11 dX8_standingByClauses_71 (by decide) ?_
      replace h := Option.some.inj h
      subst h
      exact g_sub [3, 4, 5, 6, 2, 1, 0] rfl (hI6 (qv10, (qv11 + x18), ((qv12 + x16) - x22), (qv13 + 1)) rfl)
    · replace h := ifp hc h
      refine g_iload_n B 5 dX8_standingByClauses_60 rfl rfl ?_
      refine g_iload B 1 dX8_standingByClauses_61 rfl ?_
      refine g_iadd B dX8_standingByClauses_63 ?_
      refine g_istore_n B dX8_standingByClauses_64 rfl (Nat.le_of_ble_eq_true rfl) (s1_c (f1_k rfl (f1_k rfl (f1_k rfl (f1_k rfl (f1_1 rfl rfl (f1_x (f1_k rfl f1_n)))))))) ?_
      refine g_iconst (v := 0) B dX8_standingByClauses_65 (by decide) ?_
      refine g_istore B dX8_standingByClauses_66 (Nat.le_of_ble_eq_true rfl) (s1_c (f1_1 rfl rfl (f1_k rfl (f1_x (f1_k rfl (f1_k rfl (f1_k rfl (f1_k rfl f1_n)))))))) ?_
      refine g_iinc (v := (qv13 + 1)) B 6 dX8_standingByClauses_68 rfl (by first | rfl | (congr 1; decide)) (Nat.le_of_ble_eq_true rfl) (s1_c (f1_k rfl (f1_k rfl (f1_1 rfl rfl (f1_k rfl (f1_k rfl (f1_k rfl (f1_x f1_n)))))))) ?_
      refine g_goto B 11 dX8_standingByClauses_71 (by decide) ?_
      replace h := Option.some.inj h
      subst h
      exact g_sub [4, 5, 6, 2, 1, 3, 0] rfl (hI6 ((qv10 + (qv11 + x18)), 0, ((qv12 + x16) - x22), (qv13 + 1)) rfl)
set_option maxRecDepth 100000 in
set_option maxHeartbeats 4000000 in
theorem cX1_standingGapc {l : Launch} {v0 : Option Nat} {σ : HpT} {r : Int32} (h : fX1_standingGap v0 σ = some r) : IsK σ v0 1 ∧ Ct l yX1_standingGap cX1_standingGap 4 (some .int) 3 74 [va_rf v0] σ (.ok (some (.int r))) σ 0 0 := by
  unfold fX1_standingGap at h
  replace h := bnP_s h
  obtain ⟨u, hk, h⟩ := h
  replace hk := isK_s hk
  refine ⟨hk, ?_⟩
  refine ct_start mi_X1_standingGap.1 rfl (al_le (al_1 (rf_cat _) al_n) (Nat.le_of_ble_eq_true rfl)) (ag_1 (rf_cat _) ag_n) (fun Δ Γ B hE hnm => ?_)
  refine g_iconst (v := 0) B dX1_standingGap_0 (by decide) ?_
  refine g_istore_n B dX1_standingGap_1 rfl (Nat.le_of_ble_eq_true rfl) (s1_c (f1_1 rfl (rf_cat _) f1_n)) ?_
  refine g_iconst (v := 0) B dX1_standingGap_2 (by decide) ?_
  refine g_istore_n B dX1_standingGap_3 rfl (Nat.le_of_ble_eq_true rfl) (s1_c (f1_1 rfl rfl (f1_k rfl f1_n))) ?_
  replace h := bnP_s h
  obtain ⟨r2, h3, h⟩ := h
  have kE4 : GW Δ Γ (0) (0) 76 [(1, .int r2)] [] σ := by
    refine g_iload_n B 0 dX1_standingGap_76 rfl rfl ?_
    replace h := Option.some.inj h
    subst h
    exact g_iret B hE (Nat.zero_le _) (Nat.zero_le _) dX1_standingGap_77
  clear h
  refine g_sub [2, 1, 0] rfl ?_
  refine lpP_w (I := fun q1 => GW Δ Γ (0) (0) 4 [(0, va_rf v0), (1, .int q1.1), (2, .int q1.2)] [] σ) (r := r2) ?_ FUEL (0, 0) h3
  intro q1 x8 h hI6 hR7
  unfold fX1_standingGap_l1 at h
  obtain ⟨qv10, qv11⟩ := q1
  show GW Δ Γ (0) (0) 4 [(0, va_rf v0), (1, .int qv10), (2, .int qv11)] [] σ
  dsimp only at h
  refine g_iload_n B 2 dX1_standingGap_4 rfl rfl ?_
  refine g_aload_n B 0 dX1_standingGap_5 rfl rfl ?_
  replace h := bnP_s h
  obtain ⟨x12, h13, h⟩ := h
  refine g_getI B fl_RX1_55 (by decide) dX1_standingGap_6 h13 ?_
  refine g_icmp_ge B 76 dX1_standingGap_9 (by decide) (fun hc => ?_) (fun hc => ?_)
  · replace h := ifp hc h
    replace h := Option.some.inj h
    subst h
    have e8 := hR7 _ rfl
    subst e8
    exact g_sub [1] rfl kE4
  · replace h := ifn hc h
    refine g_aload_n B 0 dX1_standingGap_12 rfl rfl ?_
    replace h := bnP_s h
    obtain ⟨x14, h15, h⟩ := h
    refine g_getR B fl_RX1_24 (by decide) dX1_standingGap_13 h15 ?_
    refine g_aload_n B 0 dX1_standingGap_16 rfl rfl ?_
    replace h := bnP_s h
    obtain ⟨x16, h17, h⟩ := h
    refine g_getR B fl_RX1_11 (by decide) dX1_standingGap_17 h17 ?_
    refine g_iload_n B 2 dX1_standingGap_20 rfl rfl ?_
    replace h := bnP_s h
    obtain ⟨x18, h19, h⟩ := h
    refine g_ralds B (κ := 25) (by decide) rfl dX1_standingGap_21 h19 ?_
    replace h := bnP_s h
    obtain ⟨x20, h21, h⟩ := h
    refine g_getI B fl_RX1_92 (by decide) dX1_standingGap_22 h21 ?_
    refine g_aload_n B 0 dX1_standingGap_25 rfl rfl ?_
    replace h := bnP_s h
    obtain ⟨x22, h23, h⟩ := h
    refine g_getR B fl_RX1_11 (by decide) dX1_standingGap_26 h23 ?_
    refine g_iload_n B 2 dX1_standingGap_29 rfl rfl ?_
    replace h := bnP_s h
    obtain ⟨x24, h25, h⟩ := h
    refine g_ralds B (κ := 25) (by decide) rfl dX1_standingGap_30 h25 ?_
    replace h := bnP_s h
    obtain ⟨x26, h27, h⟩ := h
    refine g_getI B fl_RX1_91 (by decide) dX1_standingGap_31 h27 ?_
    replace h := bnP_s h
    obtain ⟨x28, h29, h⟩ := h
    refine g_callVs0 (st := []) B (cX8_standingByClausesc h29) (Nat.le_of_ble_eq_true rfl) rfl rfl mi_X8_standingByClauses lk_RX1_218 ⟨Nat.le_of_ble_eq_true rfl, Nat.le_of_ble_eq_true rfl⟩ rfl rfl (Nat.le_of_ble_eq_true rfl) dX1_standingGap_34 (Nat.zero_le _) (Nat.zero_le _) ?_
    refine g_istore_n B dX1_standingGap_37 rfl (Nat.le_of_ble_eq_true rfl) (s1_c (f1_k rfl (f1_k rfl (f1_1 rfl rfl f1_n)))) ?_
    refine g_iload_n B 0 dX1_standingGap_38 rfl rfl ?_
    refine g_aload_n B 1 dX1_standingGap_39 rfl rfl ?_
    replace h := bnP_s h
    obtain ⟨x30, h31, h⟩ := h
    refine g_getR B fl_RX1_24 (by decide) dX1_standingGap_40 h31 ?_
    refine g_aload_n B 1 dX1_standingGap_43 rfl rfl ?_
    replace h := bnP_s h
    obtain ⟨x32, h33, h⟩ := h
    refine g_getR B fl_RX1_11 (by decide) dX1_standingGap_44 h33 ?_
    refine g_iload_n B 3 dX1_standingGap_47 rfl rfl ?_
    replace h := bnP_s h
    obtain ⟨x34, h35, h⟩ := h
    refine g_ralds B (κ := 25) (by decide) rfl dX1_standingGap_48 h35 ?_
    replace h := bnP_s h
    obtain ⟨x36, h37, h⟩ := h
    refine g_getI B fl_RX1_92 (by decide) dX1_standingGap_49 h37 ?_
    refine g_aload_n B 1 dX1_standingGap_52 rfl rfl ?_
    replace h := bnP_s h
    obtain ⟨x38, h39, h⟩ := h
    refine g_getR B fl_RX1_11 (by decide) dX1_standingGap_53 h39 ?_
    refine g_iload_n B 3 dX1_standingGap_56 rfl rfl ?_
    replace h := bnP_s h
    obtain ⟨x40, h41, h⟩ := h
    refine g_ralds B (κ := 25) (by decide) rfl dX1_standingGap_57 h41 ?_
    replace h := bnP_s h
    obtain ⟨x42, h43, h⟩ := h
    refine g_getI B fl_RX1_91 (by decide) dX1_standingGap_58 h43 ?_
    replace h := bnP_s h
    obtain ⟨x44, h45, h⟩ := h
    refine g_callVs0 (st := [.int x28]) B (cX8_standingFromc h45) (Nat.le_of_ble_eq_true rfl) rfl rfl mi_X8_standingFrom lk_RX1_95 ⟨Nat.le_of_ble_eq_true rfl, Nat.le_of_ble_eq_true rfl⟩ rfl rfl (Nat.le_of_ble_eq_true rfl) dX1_standingGap_61 (Nat.zero_le _) (Nat.zero_le _) ?_
    refine g_icmp_eq B 70 dX1_standingGap_64 (by decide) (fun hc => ?_) (fun hc => ?_)
    · replace h := ifp hc h
      refine g_iinc (v := (qv11 + 1)) B 3 dX1_standingGap_70 rfl (by first | rfl | (congr 1; decide)) (Nat.le_of_ble_eq_true rfl) (s1_c (f1_k rfl (f1_k rfl (f1_1 rfl rfl (f1_x f1_n))))) ?_
      refine g_goto B 4 dX1_standingGap_73 (by decide) ?_
      replace h := Option.some.inj h
      subst h
      exact g_sub [2, 3, 0] rfl (hI6 (qv10, (qv11 + 1)) rfl)
    · replace h := ifn hc h
      refine g_iinc (v := (qv10 + 1)) B 2 dX1_standingGap_67 rfl (by first | rfl | (congr 1; decide)) (Nat.le_of_ble_eq_true rfl) (s1_c (f1_k rfl (f1_1 rfl (rf_cat _) (f1_x (f1_k rfl f1_n))))) ?_
      refine g_iinc (v := (qv11 + 1)) B 3 dX1_standingGap_70 rfl (by first | rfl | (congr 1; decide)) (Nat.le_of_ble_eq_true rfl) (s1_c (f1_1 rfl rfl (f1_k rfl (f1_k rfl (f1_x f1_n))))) ?_
      refine g_goto B 4 dX1_standingGap_73 (by decide) ?_
      replace h := Option.some.inj h
      subst h
      exact g_sub [3, 1, 0] rfl (hI6 ((qv10 + 1), (qv11 + 1)) rfl)
set_option maxRecDepth 100000 in
set_option maxHeartbeats 4000000 in
theorem cX1_cashGapc {l : Launch} {v0 : Option Nat} {σ : HpT} {r : Int32} (h : fX1_cashGap v0 σ = some r) : IsK σ v0 1 ∧ Ct l yX1_cashGap cX1_cashGap 3 (some .int) 1 21 [va_rf v0] σ (.ok (some (.int r))) σ 0 0 := by
  unfold fX1_cashGap at h
  replace h := bnP_s h
  obtain ⟨u, hk, h⟩ := h
  replace hk := isK_s hk
  refine ⟨hk, ?_⟩
  refine ct_start mi_X1_cashGap.1 rfl (al_le (al_1 (rf_cat _) al_n) (Nat.le_of_ble_eq_true rfl)) (ag_1 (rf_cat _) ag_n) (fun Δ Γ B hE hnm => ?_)
  refine g_aload_n B 0 dX1_cashGap_0 rfl rfl ?_
  replace h := bnP_s h
  obtain ⟨x1, h2, h⟩ := h
  refine g_getI B fl_RX1_61 (by decide) dX1_cashGap_1 h2 ?_
  refine g_aload_n B 0 dX1_cashGap_4 rfl rfl ?_
  replace h := bnP_s h
  obtain ⟨x3, h4, h⟩ := h
  refine g_getI B fl_RX1_64 (by decide) dX1_cashGap_5 h4 ?_
  refine g_isub B dX1_cashGap_8 ?_
  refine g_istore_n B dX1_cashGap_9 rfl (Nat.le_of_ble_eq_true rfl) (s1_c (f1_1 rfl (rf_cat _) f1_n)) ?_
  refine g_iconst (v := 0) B dX1_cashGap_10 (by decide) ?_
  refine g_istore_n B dX1_cashGap_11 rfl (Nat.le_of_ble_eq_true rfl) (s1_c (f1_1 rfl rfl (f1_k rfl f1_n))) ?_
  replace h := bnP_s h
  obtain ⟨r6, h7, h⟩ := h
  have kE8 : GW Δ Γ (0) (0) 38 [(0, va_rf v0), (1, .int r6)] [] σ := by
    refine g_iconst (v := 0) B dX1_cashGap_38 (by decide) ?_
    refine g_istore_n B dX1_cashGap_39 rfl (Nat.le_of_ble_eq_true rfl) (s1_c (f1_k rfl (f1_1 rfl rfl f1_n))) ?_
    replace h := bnP_s h
    obtain ⟨r23, h24, h⟩ := h
    have kE25 : GW Δ Γ (0) (0) 66 [(1, .int r23)] [] σ := by
      refine g_iload_n B 0 dX1_cashGap_66 rfl rfl ?_
      refine g_mabs B mt_RX1_215 (by decide) (Nat.le_of_ble_eq_true rfl) dX1_cashGap_67 (Nat.zero_le _) (Nat.zero_le _) ?_
      replace h := Option.some.inj h
      subst h
      exact g_iret B hE (Nat.zero_le _) (Nat.zero_le _) dX1_cashGap_70
    clear h
    refine g_sub [1, 2, 0] rfl ?_
    refine lpP_w (I := fun q22 => GW Δ Γ (0) (0) 40 [(0, va_rf v0), (1, .int q22.1), (2, .int q22.2)] [] σ) (r := r23) ?_ FUEL (r6, 0) h24
    intro q22 x29 h hI27 hR28
    unfold fX1_cashGap_l2 at h
    refine g_iload_n B 2 dX1_cashGap_40 rfl rfl ?_
    refine g_aload_n B 0 dX1_cashGap_41 rfl rfl ?_
    replace h := bnP_s h
    obtain ⟨x31, h32, h⟩ := h
    refine g_getI B fl_RX1_58 (by decide) dX1_cashGap_42 h32 ?_
    refine g_icmp_ge B 66 dX1_cashGap_45 (by decide) (fun hc => ?_) (fun hc => ?_)
    · replace h := ifp hc h
      replace h := Option.some.inj h
      subst h
      have e8 := hR28 _ rfl
      subst e8
      exact g_sub [1] rfl kE25
    · replace h := ifn hc h
      refine g_iload_n B 1 dX1_cashGap_48 rfl rfl ?_
      refine g_aload_n B 0 dX1_cashGap_49 rfl rfl ?_
      replace h := bnP_s h
      obtain ⟨x33, h34, h⟩ := h
      refine g_getR B fl_RX1_17 (by decide) dX1_cashGap_50 h34 ?_
      refine g_iload_n B 2 dX1_cashGap_53 rfl rfl ?_
      replace h := bnP_s h
      obtain ⟨x35, h36, h⟩ := h
      refine g_ralds B (κ := 26) (by decide) rfl dX1_cashGap_54 h36 ?_
      replace h := bnP_s h
      obtain ⟨x37, h38, h⟩ := h
      refine g_callVs0 (st := [.int q22.1]) B (cX3_feec h38) (Nat.le_of_ble_eq_true rfl) rfl rfl mi_X3_fee lk_RX1_160 ⟨Nat.le_of_ble_eq_true rfl, Nat.le_of_ble_eq_true rfl⟩ rfl rfl (Nat.le_of_ble_eq_true rfl) dX1_cashGap_55 (Nat.zero_le _) (Nat.zero_le _) ?_
      refine g_isub B dX1_cashGap_58 ?_
      refine g_istore_n B dX1_cashGap_59 rfl (Nat.le_of_ble_eq_true rfl) (s1_c (f1_1 rfl (rf_cat _) (f1_x (f1_k rfl f1_n)))) ?_
      refine g_iinc (v := (q22.2 + 1)) B 2 dX1_cashGap_60 rfl (by first | rfl | (congr 1; decide)) (Nat.le_of_ble_eq_true rfl) (s1_c (f1_1 rfl rfl (f1_k rfl (f1_x f1_n)))) ?_
      refine g_goto B 40 dX1_cashGap_63 (by decide) ?_
      replace h := Option.some.inj h
      subst h
      exact g_sub [2, 1, 0] rfl (hI27 _ rfl)
  clear h
  refine g_sub [2, 1, 0] rfl ?_
  refine lpP_w (I := fun q5 => GW Δ Γ (0) (0) 12 [(0, va_rf v0), (1, .int q5.1), (2, .int q5.2)] [] σ) (r := r6) ?_ FUEL ((x1 - x3), 0) h7
  intro q5 x12 h hI10 hR11
  unfold fX1_cashGap_l1 at h
  refine g_iload_n B 2 dX1_cashGap_12 rfl rfl ?_
  refine g_aload_n B 0 dX1_cashGap_13 rfl rfl ?_
  replace h := bnP_s h
  obtain ⟨x14, h15, h⟩ := h
  refine g_getI B fl_RX1_55 (by decide) dX1_cashGap_14 h15 ?_
  refine g_icmp_ge B 38 dX1_cashGap_17 (by decide) (fun hc => ?_) (fun hc => ?_)
  · replace h := ifp hc h
    replace h := Option.some.inj h
    subst h
    have e8 := hR11 _ rfl
    subst e8
    exact g_sub [0, 1] rfl kE8
  · replace h := ifn hc h
    refine g_iload_n B 1 dX1_cashGap_20 rfl rfl ?_
    refine g_aload_n B 0 dX1_cashGap_21 rfl rfl ?_
    replace h := bnP_s h
    obtain ⟨x16, h17, h⟩ := h
    refine g_getR B fl_RX1_11 (by decide) dX1_cashGap_22 h17 ?_
    refine g_iload_n B 2 dX1_cashGap_25 rfl rfl ?_
    replace h := bnP_s h
    obtain ⟨x18, h19, h⟩ := h
    refine g_ralds B (κ := 25) (by decide) rfl dX1_cashGap_26 h19 ?_
    replace h := bnP_s h
    obtain ⟨x20, h21, h⟩ := h
    refine g_getI B fl_RX1_210 (by decide) dX1_cashGap_27 h21 ?_
    refine g_isub B dX1_cashGap_30 ?_
    refine g_istore_n B dX1_cashGap_31 rfl (Nat.le_of_ble_eq_true rfl) (s1_c (f1_1 rfl (rf_cat _) (f1_x (f1_k rfl f1_n)))) ?_
    refine g_iinc (v := (q5.2 + 1)) B 2 dX1_cashGap_32 rfl (by first | rfl | (congr 1; decide)) (Nat.le_of_ble_eq_true rfl) (s1_c (f1_1 rfl rfl (f1_k rfl (f1_x f1_n)))) ?_
    refine g_goto B 12 dX1_cashGap_35 (by decide) ?_
    replace h := Option.some.inj h
    subst h
    exact g_sub [2, 1, 0] rfl (hI10 _ rfl)
set_option maxRecDepth 100000 in
set_option maxHeartbeats 4000000 in
theorem cX1_numbersGapc {l : Launch} {v0 : Option Nat} {σ : HpT} {r : Int32} (h : fX1_numbersGap v0 σ = some r) : IsK σ v0 1 ∧ Ct l yX1_numbersGap cX1_numbersGap 3 (some .int) 0 0 [va_rf v0] σ (.ok (some (.int r))) σ 0 0 := by
  unfold fX1_numbersGap at h
  replace h := bnP_s h
  obtain ⟨u, hk, h⟩ := h
  replace hk := isK_s hk
  refine ⟨hk, ?_⟩
  refine ct_start mi_X1_numbersGap.1 rfl (al_le (al_1 (rf_cat _) al_n) (Nat.le_of_ble_eq_true rfl)) (ag_1 (rf_cat _) ag_n) (fun Δ Γ B hE hnm => ?_)
  refine g_iconst (v := 0) B dX1_numbersGap_0 (by decide) ?_
  refine g_istore_n B dX1_numbersGap_1 rfl (Nat.le_of_ble_eq_true rfl) (s1_c (f1_1 rfl (rf_cat _) f1_n)) ?_
  refine g_iconst (v := 0) B dX1_numbersGap_2 (by decide) ?_
  refine g_istore_n B dX1_numbersGap_3 rfl (Nat.le_of_ble_eq_true rfl) (s1_c (f1_1 rfl rfl (f1_k rfl f1_n))) ?_
  replace h := bnP_s h
  obtain ⟨r2, h3, h⟩ := h
  have kE4 : GW Δ Γ (0) (0) 36 [(1, .int r2)] [] σ := by
    refine g_iload_n B 0 dX1_numbersGap_36 rfl rfl ?_
    replace h := Option.some.inj h
    subst h
    exact g_iret B hE (Nat.zero_le _) (Nat.zero_le _) dX1_numbersGap_37
  clear h
  refine g_sub [2, 1, 0] rfl ?_
  refine lpP_w (I := fun q1 => GW Δ Γ (0) (0) 4 [(0, va_rf v0), (1, .int q1.1), (2, .int q1.2)] [] σ) (r := r2) ?_ FUEL (0, 0) h3
  intro q1 x8 h hI6 hR7
  unfold fX1_numbersGap_l1 at h
  obtain ⟨qv10, qv11⟩ := q1
  show GW Δ Γ (0) (0) 4 [(0, va_rf v0), (1, .int qv10), (2, .int qv11)] [] σ
  dsimp only at h
  refine g_iload_n B 2 dX1_numbersGap_4 rfl rfl ?_
  refine g_aload_n B 0 dX1_numbersGap_5 rfl rfl ?_
  replace h := bnP_s h
  obtain ⟨x12, h13, h⟩ := h
  refine g_getI B fl_RX1_55 (by decide) dX1_numbersGap_6 h13 ?_
  refine g_icmp_ge B 36 dX1_numbersGap_9 (by decide) (fun hc => ?_) (fun hc => ?_)
  · replace h := ifp hc h
    replace h := Option.some.inj h
    subst h
    have e8 := hR7 _ rfl
    subst e8
    exact g_sub [1] rfl kE4
  · replace h := ifn hc h
    refine g_aload_n B 0 dX1_numbersGap_12 rfl rfl ?_
    replace h := bnP_s h
    obtain ⟨x14, h15, h⟩ := h
    refine g_getR B fl_RX1_11 (by decide) dX1_numbersGap_13 h15 ?_
    refine g_iload_n B 2 dX1_numbersGap_16 rfl rfl ?_
    replace h := bnP_s h
    obtain ⟨x16, h17, h⟩ := h
    refine g_ralds B (κ := 25) (by decide) rfl dX1_numbersGap_17 h17 ?_
    replace h := bnP_s h
    obtain ⟨x18, h19, h⟩ := h
    refine g_getI B fl_RX1_221 (by decide) dX1_numbersGap_18 h19 ?_
    refine g_iload_n B 2 dX1_numbersGap_21 rfl rfl ?_
    refine g_iconst (v := 1) B dX1_numbersGap_22 (by decide) ?_
    refine g_iadd B dX1_numbersGap_23 ?_
    refine g_icmp_eq B 30 dX1_numbersGap_24 (by decide) (fun hc => ?_) (fun hc => ?_)
    · replace h := ifp hc h
      refine g_iinc (v := (qv11 + 1)) B 2 dX1_numbersGap_30 rfl (by first | rfl | (congr 1; decide)) (Nat.le_of_ble_eq_true rfl) (s1_c (f1_k rfl (f1_1 rfl rfl (f1_x f1_n)))) ?_
      refine g_goto B 4 dX1_numbersGap_33 (by decide) ?_
      replace h := Option.some.inj h
      subst h
      exact g_sub [1, 2, 0] rfl (hI6 (qv10, (qv11 + 1)) rfl)
    · replace h := ifn hc h
      refine g_iinc (v := (qv10 + 1)) B 1 dX1_numbersGap_27 rfl (by first | rfl | (congr 1; decide)) (Nat.le_of_ble_eq_true rfl) (s1_c (f1_1 rfl (rf_cat _) (f1_x (f1_k rfl f1_n)))) ?_
      refine g_iinc (v := (qv11 + 1)) B 2 dX1_numbersGap_30 rfl (by first | rfl | (congr 1; decide)) (Nat.le_of_ble_eq_true rfl) (s1_c (f1_1 rfl rfl (f1_k rfl (f1_x f1_n)))) ?_
      refine g_goto B 4 dX1_numbersGap_33 (by decide) ?_
      replace h := Option.some.inj h
      subst h
      exact g_sub [2, 1, 0] rfl (hI6 ((qv10 + 1), (qv11 + 1)) rfl)
set_option maxRecDepth 100000 in
set_option maxHeartbeats 4000000 in
theorem cX4_stateOfc {l : Launch} {v0 : Option Nat} {v1 : Int32} {σ : HpT} {r : Int32} (h : fX4_stateOf v0 v1 σ = some r) : IsK σ v0 4 ∧ Ct l yX4_stateOf cX4_stateOf 2 (some .int) 1 21 [va_rf v0, .int v1] σ (.ok (some (.int r))) σ 0 0 := by
  unfold fX4_stateOf at h
  replace h := bnP_s h
  obtain ⟨u, hk, h⟩ := h
  replace hk := isK_s hk
  refine ⟨hk, ?_⟩
  refine ct_start mi_X4_stateOf.1 rfl (al_le (al_1 (rf_cat _) (al_1 rfl al_n)) (Nat.le_of_ble_eq_true rfl)) (ag_1 (rf_cat _) (ag_1 rfl ag_n)) (fun Δ Γ B hE hnm => ?_)
  refine g_aload_n B 0 dX4_stateOf_0 rfl rfl ?_
  refine g_iload_n B 1 dX4_stateOf_1 rfl rfl ?_
  replace h := bnP_s h
  obtain ⟨x1, h2, h⟩ := h
  refine g_callVs0 (st := []) B (cX4_isTherec h2) (Nat.le_of_ble_eq_true rfl) rfl rfl mi_X4_isThere lk_RX4_32 ⟨Nat.le_of_ble_eq_true rfl, Nat.le_of_ble_eq_true rfl⟩ rfl rfl (Nat.le_of_ble_eq_true rfl) dX4_stateOf_2 (Nat.zero_le _) (Nat.zero_le _) ?_
  refine g_if_eq B 17 dX4_stateOf_5 (by decide) (fun hc => ?_) (fun hc => ?_)
  · replace h := ifn (bI0 hc) h
    refine g_iconst (v := 0) B dX4_stateOf_17 (by decide) ?_
    replace h := Option.some.inj h
    subst h
    exact g_iret B hE (Nat.zero_le _) (Nat.zero_le _) dX4_stateOf_18
  · replace h := ifp (bI1 hc) h
    refine g_aload_n B 0 dX4_stateOf_8 rfl rfl ?_
    replace h := bnP_s h
    obtain ⟨x3, h4, h⟩ := h
    refine g_getR B fl_RX4_11 (by decide) dX4_stateOf_9 h4 ?_
    refine g_iload_n B 1 dX4_stateOf_12 rfl rfl ?_
    replace h := bnP_s h
    obtain ⟨x5, h6, h⟩ := h
    refine g_iald B dX4_stateOf_13 h6 ?_
    refine g_goto B 18 dX4_stateOf_14 (by decide) ?_
    replace h := Option.some.inj h
    subst h
    exact g_iret B hE (Nat.zero_le _) (Nat.zero_le _) dX4_stateOf_18
set_option maxRecDepth 100000 in
set_option maxHeartbeats 4000000 in
theorem cX4_isLoosec {l : Launch} {v0 : Option Nat} {v1 : Int32} {σ : HpT} {r : Bool} (h : fX4_isLoose v0 v1 σ = some r) : IsK σ v0 4 ∧ Ct l yX4_isLoose cX4_isLoose 2 (some .boolean) 1 21 [va_rf v0, .int v1] σ (.ok (some (.int (bI r)))) σ 0 0 := by
  unfold fX4_isLoose at h
  replace h := bnP_s h
  obtain ⟨u, hk, h⟩ := h
  replace hk := isK_s hk
  refine ⟨hk, ?_⟩
  refine ct_start mi_X4_isLoose.1 rfl (al_le (al_1 (rf_cat _) (al_1 rfl al_n)) (Nat.le_of_ble_eq_true rfl)) (ag_1 (rf_cat _) (ag_1 rfl ag_n)) (fun Δ Γ B hE hnm => ?_)
  refine g_aload_n B 0 dX4_isLoose_0 rfl rfl ?_
  refine g_iload_n B 1 dX4_isLoose_1 rfl rfl ?_
  replace h := bnP_s h
  obtain ⟨x1, h2, h⟩ := h
  refine g_callVs0 (st := []) B (cX4_isTherec h2) (Nat.le_of_ble_eq_true rfl) rfl rfl mi_X4_isThere lk_RX4_32 ⟨Nat.le_of_ble_eq_true rfl, Nat.le_of_ble_eq_true rfl⟩ rfl rfl (Nat.le_of_ble_eq_true rfl) dX4_isLoose_2 (Nat.zero_le _) (Nat.zero_le _) ?_
  refine g_if_eq B 22 dX4_isLoose_5 (by decide) (fun hc => ?_) (fun hc => ?_)
  · replace h := ifn (bI0 hc) h
    refine g_iconst (v := 0) B dX4_isLoose_22 (by decide) ?_
    replace h := Option.some.inj h
    subst h
    exact g_zret B hE rfl (Nat.zero_le _) (Nat.zero_le _) dX4_isLoose_23
  · replace h := ifp (bI1 hc) h
    refine g_aload_n B 0 dX4_isLoose_8 rfl rfl ?_
    replace h := bnP_s h
    obtain ⟨x3, h4, h⟩ := h
    refine g_getR B fl_RX4_11 (by decide) dX4_isLoose_9 h4 ?_
    refine g_iload_n B 1 dX4_isLoose_12 rfl rfl ?_
    replace h := bnP_s h
    obtain ⟨x5, h6, h⟩ := h
    refine g_iald B dX4_isLoose_13 h6 ?_
    refine g_iconst (v := 1) B dX4_isLoose_14 (by decide) ?_
    refine g_icmp_ne B 22 dX4_isLoose_15 (by decide) (fun hc => ?_) (fun hc => ?_)
    · replace h := ifn hc h
      refine g_iconst (v := 0) B dX4_isLoose_22 (by decide) ?_
      replace h := Option.some.inj h
      subst h
      exact g_zret B hE rfl (Nat.zero_le _) (Nat.zero_le _) dX4_isLoose_23
    · replace h := ifp hc h
      refine g_iconst (v := 1) B dX4_isLoose_18 (by decide) ?_
      refine g_goto B 23 dX4_isLoose_19 (by decide) ?_
      replace h := Option.some.inj h
      subst h
      exact g_zret B hE rfl (Nat.zero_le _) (Nat.zero_le _) dX4_isLoose_23
set_option maxRecDepth 100000 in
set_option maxHeartbeats 4000000 in
theorem cX4_countOfc {l : Launch} {v0 : Option Nat} {v1 : Int32} {σ : HpT} {r : Int32} (h : fX4_countOf v0 v1 σ = some r) : IsK σ v0 4 ∧ Ct l yX4_countOf cX4_countOf 4 (some .int) 0 0 [va_rf v0, .int v1] σ (.ok (some (.int r))) σ 0 0 := by
  unfold fX4_countOf at h
  replace h := bnP_s h
  obtain ⟨u, hk, h⟩ := h
  replace hk := isK_s hk
  refine ⟨hk, ?_⟩
  refine ct_start mi_X4_countOf.1 rfl (al_le (al_1 (rf_cat _) (al_1 rfl al_n)) (Nat.le_of_ble_eq_true rfl)) (ag_1 (rf_cat _) (ag_1 rfl ag_n)) (fun Δ Γ B hE hnm => ?_)
  refine g_iconst (v := 0) B dX4_countOf_0 (by decide) ?_
  refine g_istore_n B dX4_countOf_1 rfl (Nat.le_of_ble_eq_true rfl) (s1_c (f1_k rfl (f1_1 rfl rfl f1_n))) ?_
  refine g_iconst (v := 0) B dX4_countOf_2 (by decide) ?_
  refine g_istore_n B dX4_countOf_3 rfl (Nat.le_of_ble_eq_true rfl) (s1_c (f1_1 rfl rfl (f1_k rfl (f1_k rfl f1_n)))) ?_
  replace h := bnP_s h
  obtain ⟨r2, h3, h⟩ := h
  have kE4 : GW Δ Γ (0) (0) 31 [(2, .int r2)] [] σ := by
    refine g_iload_n B 0 dX4_countOf_31 rfl rfl ?_
    replace h := Option.some.inj h
    subst h
    exact g_iret B hE (Nat.zero_le _) (Nat.zero_le _) dX4_countOf_32
  clear h
  refine g_sub [2, 3, 1, 0] rfl ?_
  refine lpP_w (I := fun q1 => GW Δ Γ (0) (0) 4 [(0, va_rf v0), (1, .int v1), (2, .int q1.1), (3, .int q1.2)] [] σ) (r := r2) ?_ FUEL (0, 0) h3
  intro q1 x8 h hI6 hR7
  unfold fX4_countOf_l1 at h
  obtain ⟨qv10, qv11⟩ := q1
  show GW Δ Γ (0) (0) 4 [(0, va_rf v0), (1, .int v1), (2, .int qv10), (3, .int qv11)] [] σ
  dsimp only at h
  refine g_iload_n B 3 dX4_countOf_4 rfl rfl ?_
  refine g_aload_n B 0 dX4_countOf_5 rfl rfl ?_
  replace h := bnP_s h
  obtain ⟨x12, h13, h⟩ := h
  refine g_getI B fl_RX4_23 (by decide) dX4_countOf_6 h13 ?_
  refine g_icmp_ge B 31 dX4_countOf_9 (by decide) (fun hc => ?_) (fun hc => ?_)
  · replace h := ifp hc h
    replace h := Option.some.inj h
    subst h
    have e8 := hR7 _ rfl
    subst e8
    exact g_sub [2] rfl kE4
  · replace h := ifn hc h
    refine g_aload_n B 0 dX4_countOf_12 rfl rfl ?_
    replace h := bnP_s h
    obtain ⟨x14, h15, h⟩ := h
    refine g_getR B fl_RX4_11 (by decide) dX4_countOf_13 h15 ?_
    refine g_iload_n B 3 dX4_countOf_16 rfl rfl ?_
    replace h := bnP_s h
    obtain ⟨x16, h17, h⟩ := h
    refine g_iald B dX4_countOf_17 h17 ?_
    refine g_iload_n B 1 dX4_countOf_18 rfl rfl ?_
    refine g_icmp_ne B 25 dX4_countOf_19 (by decide) (fun hc => ?_) (fun hc => ?_)
    · replace h := ifn hc h
      refine g_iinc (v := (qv11 + 1)) B 3 dX4_countOf_25 rfl (by first | rfl | (congr 1; decide)) (Nat.le_of_ble_eq_true rfl) (s1_c (f1_k rfl (f1_k rfl (f1_1 rfl rfl (f1_x f1_n))))) ?_
      refine g_goto B 4 dX4_countOf_28 (by decide) ?_
      replace h := Option.some.inj h
      subst h
      exact g_sub [1, 2, 3, 0] rfl (hI6 (qv10, (qv11 + 1)) rfl)
    · replace h := ifp hc h
      refine g_iinc (v := (qv10 + 1)) B 2 dX4_countOf_22 rfl (by first | rfl | (congr 1; decide)) (Nat.le_of_ble_eq_true rfl) (s1_c (f1_k rfl (f1_1 rfl rfl (f1_x (f1_k rfl f1_n))))) ?_
      refine g_iinc (v := (qv11 + 1)) B 3 dX4_countOf_25 rfl (by first | rfl | (congr 1; decide)) (Nat.le_of_ble_eq_true rfl) (s1_c (f1_1 rfl rfl (f1_k rfl (f1_k rfl (f1_x f1_n))))) ?_
      refine g_goto B 4 dX4_countOf_28 (by decide) ?_
      replace h := Option.some.inj h
      subst h
      exact g_sub [2, 3, 1, 0] rfl (hI6 ((qv10 + 1), (qv11 + 1)) rfl)
set_option maxRecDepth 100000 in
set_option maxHeartbeats 4000000 in
theorem cX4_loosenMateOfc {l : Launch} {v0 : Option Nat} {v1 : Int32} {σ : HpT} {σ' : HpT} (h : fX4_loosenMateOf v0 v1 σ = some σ') : IsK σ v0 4 ∧ Ct l yX4_loosenMateOf cX4_loosenMateOf 3 none 2 44 [va_rf v0, .int v1] σ (.ok none) σ' 0 0 := by
  unfold fX4_loosenMateOf at h
  replace h := bnP_s h
  obtain ⟨u, hk, h⟩ := h
  replace hk := isK_s hk
  refine ⟨hk, ?_⟩
  refine ct_start mi_X4_loosenMateOf.1 rfl (al_le (al_1 (rf_cat _) (al_1 rfl al_n)) (Nat.le_of_ble_eq_true rfl)) (ag_1 (rf_cat _) (ag_1 rfl ag_n)) (fun Δ Γ B hE hnm => ?_)
  refine g_aload_n B 0 dX4_loosenMateOf_0 rfl rfl ?_
  refine g_iload_n B 1 dX4_loosenMateOf_1 rfl rfl ?_
  replace h := bnP_s h
  obtain ⟨x1, h2, h⟩ := h
  refine g_callVs0 (st := []) B (cX4_mateOfc h2) (Nat.le_of_ble_eq_true rfl) rfl rfl mi_X4_mateOf lk_RX4_44 ⟨Nat.le_of_ble_eq_true rfl, Nat.le_of_ble_eq_true rfl⟩ rfl rfl (Nat.le_of_ble_eq_true rfl) dX4_loosenMateOf_2 (Nat.zero_le _) (Nat.zero_le _) ?_
  refine g_istore_n B dX4_loosenMateOf_5 rfl (Nat.le_of_ble_eq_true rfl) (s1_c (f1_k rfl (f1_1 rfl rfl f1_n))) ?_
  refine g_aload_n B 1 dX4_loosenMateOf_6 rfl rfl ?_
  refine g_iload_n B 0 dX4_loosenMateOf_7 rfl rfl ?_
  replace h := bnP_s h
  obtain ⟨x3, h4, h⟩ := h
  refine g_callVs0 (st := []) B (cX4_isTherec h4) (Nat.le_of_ble_eq_true rfl) rfl rfl mi_X4_isThere lk_RX4_32 ⟨Nat.le_of_ble_eq_true rfl, Nat.le_of_ble_eq_true rfl⟩ rfl rfl (Nat.le_of_ble_eq_true rfl) dX4_loosenMateOf_8 (Nat.zero_le _) (Nat.zero_le _) ?_
  refine g_if_eq B 30 dX4_loosenMateOf_11 (by decide) (fun hc => ?_) (fun hc => ?_)
  · replace h := ifn (bI0 hc) h
    replace h := Option.some.inj h
    subst h
    exact g_vret B hE (Nat.zero_le _) (Nat.zero_le _) dX4_loosenMateOf_30
  · replace h := ifp (bI1 hc) h
    refine g_aload_n B 1 dX4_loosenMateOf_14 rfl rfl ?_
    replace h := bnP_s h
    obtain ⟨x5, h6, h⟩ := h
    refine g_getR B fl_RX4_11 (by decide) dX4_loosenMateOf_15 h6 ?_
    refine g_iload_n B 0 dX4_loosenMateOf_18 rfl rfl ?_
    replace h := bnP_s h
    obtain ⟨x7, h8, h⟩ := h
    refine g_iald B dX4_loosenMateOf_19 h8 ?_
    refine g_if_ne B 30 dX4_loosenMateOf_20 (by decide) (fun hc => ?_) (fun hc => ?_)
    · replace h := ifn hc h
      replace h := Option.some.inj h
      subst h
      exact g_vret B hE (Nat.zero_le _) (Nat.zero_le _) dX4_loosenMateOf_30
    · replace h := ifp hc h
      refine g_aload_n B 1 dX4_loosenMateOf_23 rfl rfl ?_
      replace h := bnP_s h
      obtain ⟨x9, h10, h⟩ := h
      refine g_getR B fl_RX4_11 (by decide) dX4_loosenMateOf_24 h10 ?_
      refine g_iload_n B 0 dX4_loosenMateOf_27 rfl rfl ?_
      refine g_iconst (v := 1) B dX4_loosenMateOf_28 (by decide) ?_
      replace h := bnP_s h
      obtain ⟨s13, h12, h⟩ := h
      refine g_iast B dX4_loosenMateOf_29 h12 ?_
      replace h := Option.some.inj h
      subst h
      exact g_vret B hE (Nat.zero_le _) (Nat.zero_le _) dX4_loosenMateOf_30
set_option maxRecDepth 100000 in
set_option maxHeartbeats 4000000 in
theorem cX4_dropc {l : Launch} {v0 : Option Nat} {v1 : Int32} {σ : HpT} {σ' : HpT} (h : fX4_drop v0 v1 σ = some σ') : IsK σ v0 4 ∧ Ct l yX4_drop cX4_drop 2 none 3 66 [va_rf v0, .int v1] σ (.ok none) σ' 0 0 := by
  unfold fX4_drop at h
  replace h := bnP_s h
  obtain ⟨u, hk, h⟩ := h
  replace hk := isK_s hk
  refine ⟨hk, ?_⟩
  refine ct_start mi_X4_drop.1 rfl (al_le (al_1 (rf_cat _) (al_1 rfl al_n)) (Nat.le_of_ble_eq_true rfl)) (ag_1 (rf_cat _) (ag_1 rfl ag_n)) (fun Δ Γ B hE hnm => ?_)
  refine g_aload_n B 0 dX4_drop_0 rfl rfl ?_
  refine g_iload_n B 1 dX4_drop_1 rfl rfl ?_
  replace h := bnP_s h
  obtain ⟨x1, h2, h⟩ := h
  refine g_callVs0 (st := []) B (cX4_isTherec h2) (Nat.le_of_ble_eq_true rfl) rfl rfl mi_X4_isThere lk_RX4_32 ⟨Nat.le_of_ble_eq_true rfl, Nat.le_of_ble_eq_true rfl⟩ rfl rfl (Nat.le_of_ble_eq_true rfl) dX4_drop_2 (Nat.zero_le _) (Nat.zero_le _) ?_
  refine g_if_eq B 20 dX4_drop_5 (by decide) (fun hc => ?_) (fun hc => ?_)
  · replace h := ifn (bI0 hc) h
    replace h := Option.some.inj h
    subst h
    exact g_vret B hE (Nat.zero_le _) (Nat.zero_le _) dX4_drop_20
  · replace h := ifp (bI1 hc) h
    refine g_aload_n B 0 dX4_drop_8 rfl rfl ?_
    replace h := bnP_s h
    obtain ⟨x3, h4, h⟩ := h
    refine g_getR B fl_RX4_11 (by decide) dX4_drop_9 h4 ?_
    refine g_iload_n B 1 dX4_drop_12 rfl rfl ?_
    refine g_iconst (v := 2) B dX4_drop_13 (by decide) ?_
    replace h := bnP_s h
    obtain ⟨s7, h6, h⟩ := h
    refine g_iast B dX4_drop_14 h6 ?_
    refine g_aload_n B 0 dX4_drop_15 rfl rfl ?_
    refine g_iload_n B 1 dX4_drop_16 rfl rfl ?_
    replace h := bnP_s h
    obtain ⟨s10, h9, h⟩ := h
    refine g_callVv0 (st := []) B (cX4_loosenMateOfc h9) (Nat.le_of_ble_eq_true rfl) rfl rfl mi_X4_loosenMateOf lk_RX4_40 ⟨Nat.le_of_ble_eq_true rfl, Nat.le_of_ble_eq_true rfl⟩ rfl rfl (Nat.le_of_ble_eq_true rfl) dX4_drop_17 (Nat.zero_le _) (Nat.zero_le _) ?_
    replace h := Option.some.inj h
    subst h
    exact g_vret B hE (Nat.zero_le _) (Nat.zero_le _) dX4_drop_20
set_option maxRecDepth 100000 in
set_option maxHeartbeats 4000000 in
theorem cX4_bringBackc {l : Launch} {v0 : Option Nat} {v1 : Int32} {σ : HpT} {σ' : HpT} (h : fX4_bringBack v0 v1 σ = some σ') : IsK σ v0 4 ∧ Ct l yX4_bringBack cX4_bringBack 3 none 2 44 [va_rf v0, .int v1] σ (.ok none) σ' 0 0 := by
  unfold fX4_bringBack at h
  replace h := bnP_s h
  obtain ⟨u, hk, h⟩ := h
  replace hk := isK_s hk
  refine ⟨hk, ?_⟩
  refine ct_start mi_X4_bringBack.1 rfl (al_le (al_1 (rf_cat _) (al_1 rfl al_n)) (Nat.le_of_ble_eq_true rfl)) (ag_1 (rf_cat _) (ag_1 rfl ag_n)) (fun Δ Γ B hE hnm => ?_)
  refine g_aload_n B 0 dX4_bringBack_0 rfl rfl ?_
  refine g_iload_n B 1 dX4_bringBack_1 rfl rfl ?_
  replace h := bnP_s h
  obtain ⟨s3, h2, h⟩ := h
  refine g_callVv0 (st := []) B (cX4_fastenc h2) (Nat.le_of_ble_eq_true rfl) rfl rfl mi_X4_fasten lk_RX4_47 ⟨Nat.le_of_ble_eq_true rfl, Nat.le_of_ble_eq_true rfl⟩ rfl rfl (Nat.le_of_ble_eq_true rfl) dX4_bringBack_2 (Nat.zero_le _) (Nat.zero_le _) ?_
  refine g_aload_n B 0 dX4_bringBack_5 rfl rfl ?_
  refine g_iload_n B 1 dX4_bringBack_6 rfl rfl ?_
  replace h := bnP_s h
  obtain ⟨x4, h5, h⟩ := h
  refine g_callVs0 (st := []) B (cX4_mateOfc h5) (Nat.le_of_ble_eq_true rfl) rfl rfl mi_X4_mateOf lk_RX4_44 ⟨Nat.le_of_ble_eq_true rfl, Nat.le_of_ble_eq_true rfl⟩ rfl rfl (Nat.le_of_ble_eq_true rfl) dX4_bringBack_7 (Nat.zero_le _) (Nat.zero_le _) ?_
  refine g_istore_n B dX4_bringBack_10 rfl (Nat.le_of_ble_eq_true rfl) (s1_c (f1_k rfl (f1_1 rfl rfl f1_n))) ?_
  refine g_aload_n B 1 dX4_bringBack_11 rfl rfl ?_
  refine g_iload_n B 0 dX4_bringBack_12 rfl rfl ?_
  replace h := bnP_s h
  obtain ⟨x6, h7, h⟩ := h
  refine g_callVs0 (st := []) B (cX4_isLoosec h7) (Nat.le_of_ble_eq_true rfl) rfl rfl mi_X4_isLoose lk_RX4_50 ⟨Nat.le_of_ble_eq_true rfl, Nat.le_of_ble_eq_true rfl⟩ rfl rfl (Nat.le_of_ble_eq_true rfl) dX4_bringBack_13 (Nat.zero_le _) (Nat.zero_le _) ?_
  refine g_if_eq B 24 dX4_bringBack_16 (by decide) (fun hc => ?_) (fun hc => ?_)
  · replace h := ifn (bI0 hc) h
    replace h := Option.some.inj h
    subst h
    exact g_vret B hE (Nat.zero_le _) (Nat.zero_le _) dX4_bringBack_24
  · replace h := ifp (bI1 hc) h
    refine g_aload_n B 1 dX4_bringBack_19 rfl rfl ?_
    refine g_iload_n B 0 dX4_bringBack_20 rfl rfl ?_
    replace h := bnP_s h
    obtain ⟨s10, h9, h⟩ := h
    refine g_callVv0 (st := []) B (cX4_fastenc h9) (Nat.le_of_ble_eq_true rfl) rfl rfl mi_X4_fasten lk_RX4_47 ⟨Nat.le_of_ble_eq_true rfl, Nat.le_of_ble_eq_true rfl⟩ rfl rfl (Nat.le_of_ble_eq_true rfl) dX4_bringBack_21 (Nat.zero_le _) (Nat.zero_le _) ?_
    replace h := Option.some.inj h
    subst h
    exact g_vret B hE (Nat.zero_le _) (Nat.zero_le _) dX4_bringBack_24
set_option maxRecDepth 100000 in
set_option maxHeartbeats 4000000 in
theorem cX4_dropLoosec {l : Launch} {v0 : Option Nat} {σ : HpT} {r : Int32} {σ' : HpT} (h : fX4_dropLoose v0 σ = some (r, σ')) : IsK σ v0 4 ∧ Ct l yX4_dropLoose cX4_dropLoose 3 (some .int) 3 66 [va_rf v0] σ (.ok (some (.int r))) σ' 0 0 := by
  unfold fX4_dropLoose at h
  replace h := bnP_s h
  obtain ⟨u, hk, h⟩ := h
  replace hk := isK_s hk
  refine ⟨hk, ?_⟩
  refine ct_start mi_X4_dropLoose.1 rfl (al_le (al_1 (rf_cat _) al_n) (Nat.le_of_ble_eq_true rfl)) (ag_1 (rf_cat _) ag_n) (fun Δ Γ B hE hnm => ?_)
  refine g_iconst (v := 0) B dX4_dropLoose_0 (by decide) ?_
  refine g_istore_n B dX4_dropLoose_1 rfl (Nat.le_of_ble_eq_true rfl) (s1_c (f1_1 rfl (rf_cat _) f1_n)) ?_
  refine g_iconst (v := 0) B dX4_dropLoose_2 (by decide) ?_
  refine g_istore_n B dX4_dropLoose_3 rfl (Nat.le_of_ble_eq_true rfl) (s1_c (f1_1 rfl rfl (f1_k rfl f1_n))) ?_
  replace h := bnS_s h
  obtain ⟨r2, s38, h3, h⟩ := h
  have kE4 : GW Δ Γ (0) (0) 58 [(0, va_rf v0), (1, .int r2)] [] s38 := by
    refine g_iconst (v := 0) B dX4_dropLoose_58 (by decide) ?_
    refine g_istore_n B dX4_dropLoose_59 rfl (Nat.le_of_ble_eq_true rfl) (s1_c (f1_k rfl (f1_1 rfl rfl f1_n))) ?_
    replace h := bnS_s h
    obtain ⟨r40, s58, h41, h⟩ := h
    have kE42 : GW Δ Γ (0) (0) 88 [(1, .int r2)] [] s58 := by
      refine g_iload_n B 0 dX4_dropLoose_88 rfl rfl ?_
      obtain ⟨w1, w2⟩ := inS h
      clear h
      subst w1
      subst w2
      exact g_iret B hE (Nat.zero_le _) (Nat.zero_le _) dX4_dropLoose_89
    clear h
    refine g_sub [1, 2, 0] rfl ?_
    refine lpS_w (I := fun q39 s48 => GW Δ Γ (0) (0) 60 [(0, va_rf v0), (1, .int r2), (2, .int q39)] [] s48) (r := r40) (σr := s58) ?_ FUEL 0 s38 h41
    intro q39 s48 x46 s9 h hI44 hR45
    unfold fX4_dropLoose_l2 at h
    refine g_iload_n B 2 dX4_dropLoose_60 rfl rfl ?_
    refine g_aload_n B 0 dX4_dropLoose_61 rfl rfl ?_
    replace h := bnP_s h
    obtain ⟨x49, h50, h⟩ := h
    refine g_getI B fl_RX4_23 (by decide) dX4_dropLoose_62 h50 ?_
    refine g_icmp_ge B 88 dX4_dropLoose_65 (by decide) (fun hc => ?_) (fun hc => ?_)
    · replace h := ifp hc h
      obtain ⟨w1, w2⟩ := inS h
      clear h
      subst w1
      subst w2
      obtain ⟨e8, e7⟩ := hR45 _ rfl
      subst e8
      subst e7
      exact g_sub [1] rfl kE42
    · replace h := ifn hc h
      refine g_aload_n B 0 dX4_dropLoose_68 rfl rfl ?_
      replace h := bnP_s h
      obtain ⟨x51, h52, h⟩ := h
      refine g_getR B fl_RX4_15 (by decide) dX4_dropLoose_69 h52 ?_
      refine g_iload_n B 2 dX4_dropLoose_72 rfl rfl ?_
      replace h := bnP_s h
      obtain ⟨x53, h54, h⟩ := h
      refine g_zald B dX4_dropLoose_73 h54 ?_
      refine g_if_eq B 82 dX4_dropLoose_74 (by decide) (fun hc => ?_) (fun hc => ?_)
      · replace h := ifp hc h
        refine g_iinc (v := (q39 + 1)) B 2 dX4_dropLoose_82 rfl (by first | rfl | (congr 1; decide)) (Nat.le_of_ble_eq_true rfl) (s1_c (f1_k rfl (f1_1 rfl rfl (f1_x f1_n)))) ?_
        refine g_goto B 60 dX4_dropLoose_85 (by decide) ?_
        obtain ⟨w1, w2⟩ := inS h
        clear h
        subst w1
        subst w2
        exact g_sub [1, 2, 0] rfl (hI44 _ rfl)
      · replace h := ifn hc h
        refine g_aload_n B 0 dX4_dropLoose_77 rfl rfl ?_
        refine g_iload_n B 2 dX4_dropLoose_78 rfl rfl ?_
        replace h := bnP_s h
        obtain ⟨s57, h56, h⟩ := h
        refine g_callVv0 (st := []) B (cX4_loosenMateOfc h56) (Nat.le_of_ble_eq_true rfl) rfl rfl mi_X4_loosenMateOf lk_RX4_40 ⟨Nat.le_of_ble_eq_true rfl, Nat.le_of_ble_eq_true rfl⟩ rfl rfl (Nat.le_of_ble_eq_true rfl) dX4_dropLoose_79 (Nat.zero_le _) (Nat.zero_le _) ?_
        refine g_iinc (v := (q39 + 1)) B 2 dX4_dropLoose_82 rfl (by first | rfl | (congr 1; decide)) (Nat.le_of_ble_eq_true rfl) (s1_c (f1_k rfl (f1_1 rfl rfl (f1_x f1_n)))) ?_
        refine g_goto B 60 dX4_dropLoose_85 (by decide) ?_
        obtain ⟨w1, w2⟩ := inS h
        clear h
        subst w1
        subst w2
        exact g_sub [1, 2, 0] rfl (hI44 _ rfl)
  clear h
  refine g_sub [2, 1, 0] rfl ?_
  refine lpS_w (I := fun q1 s10 => GW Δ Γ (0) (0) 4 [(0, va_rf v0), (1, .int q1.1), (2, .int q1.2)] [] s10) (r := r2) (σr := s38) ?_ FUEL (0, 0) σ h3
  intro q1 s10 x8 s9 h hI6 hR7
  unfold fX4_dropLoose_l1 at h
  obtain ⟨qv11, qv12⟩ := q1
  show GW Δ Γ (0) (0) 4 [(0, va_rf v0), (1, .int qv11), (2, .int qv12)] [] s10
  dsimp only at h
  refine g_iload_n B 2 dX4_dropLoose_4 rfl rfl ?_
  refine g_aload_n B 0 dX4_dropLoose_5 rfl rfl ?_
  replace h := bnP_s h
  obtain ⟨x13, h14, h⟩ := h
  refine g_getI B fl_RX4_23 (by decide) dX4_dropLoose_6 h14 ?_
  refine g_icmp_ge B 58 dX4_dropLoose_9 (by decide) (fun hc => ?_) (fun hc => ?_)
  · replace h := ifp hc h
    obtain ⟨w1, w2⟩ := inS h
    clear h
    subst w1
    subst w2
    obtain ⟨e8, e7⟩ := hR7 _ rfl
    subst e8
    subst e7
    exact g_sub [0, 1] rfl kE4
  · replace h := ifn hc h
    refine g_aload_n B 0 dX4_dropLoose_12 rfl rfl ?_
    replace h := bnP_s h
    obtain ⟨x15, h16, h⟩ := h
    refine g_getR B fl_RX4_15 (by decide) dX4_dropLoose_13 h16 ?_
    refine g_iload_n B 2 dX4_dropLoose_16 rfl rfl ?_
    refine g_aload_n B 0 dX4_dropLoose_17 rfl rfl ?_
    replace h := bnP_s h
    obtain ⟨x17, h18, h⟩ := h
    refine g_getR B fl_RX4_11 (by decide) dX4_dropLoose_18 h18 ?_
    refine g_iload_n B 2 dX4_dropLoose_21 rfl rfl ?_
    replace h := bnP_s h
    obtain ⟨x19, h20, h⟩ := h
    refine g_iald B dX4_dropLoose_22 h20 ?_
    refine g_iconst (v := 1) B dX4_dropLoose_23 (by decide) ?_
    replace h := bnP_s h
    obtain ⟨j21, h22, h⟩ := h
    have k24 : GW Δ Γ (0) (0) 32 [(0, va_rf v0), (1, .int qv11), (2, .int qv12)] [.int j21.2.2, .int j21.2.1, va_rf j21.1] s10 := by
      replace h := bnP_s h
      obtain ⟨s28, h27, h⟩ := h
      refine g_zast B dX4_dropLoose_32 h27 ?_
      refine g_aload_n B 0 dX4_dropLoose_33 rfl rfl ?_
      replace h := bnP_s h
      obtain ⟨x29, h30, h⟩ := h
      refine g_getR B fl_RX4_15 (by decide) dX4_dropLoose_34 h30 ?_
      refine g_iload_n B 2 dX4_dropLoose_37 rfl rfl ?_
      replace h := bnP_s h
      obtain ⟨x31, h32, h⟩ := h
      refine g_zald B dX4_dropLoose_38 h32 ?_
      refine g_if_eq B 52 dX4_dropLoose_39 (by decide) (fun hc => ?_) (fun hc => ?_)
      · replace h := ifp hc h
        refine g_iinc (v := (qv12 + 1)) B 2 dX4_dropLoose_52 rfl (by first | rfl | (congr 1; decide)) (Nat.le_of_ble_eq_true rfl) (s1_c (f1_k rfl (f1_1 rfl rfl (f1_x f1_n)))) ?_
        refine g_goto B 4 dX4_dropLoose_55 (by decide) ?_
        obtain ⟨w1, w2⟩ := inS h
        clear h
        subst w1
        subst w2
        exact g_sub [1, 2, 0] rfl (hI6 (qv11, (qv12 + 1)) rfl)
      · replace h := ifn hc h
        refine g_aload_n B 0 dX4_dropLoose_42 rfl rfl ?_
        replace h := bnP_s h
        obtain ⟨x33, h34, h⟩ := h
        refine g_getR B fl_RX4_11 (by decide) dX4_dropLoose_43 h34 ?_
        refine g_iload_n B 2 dX4_dropLoose_46 rfl rfl ?_
        refine g_iconst (v := 2) B dX4_dropLoose_47 (by decide) ?_
        replace h := bnP_s h
        obtain ⟨s37, h36, h⟩ := h
        refine g_iast B dX4_dropLoose_48 h36 ?_
        refine g_iinc (v := (qv11 + 1)) B 1 dX4_dropLoose_49 rfl (by first | rfl | (congr 1; decide)) (Nat.le_of_ble_eq_true rfl) (s1_c (f1_1 rfl (rf_cat _) (f1_x (f1_k rfl f1_n)))) ?_
        refine g_iinc (v := (qv12 + 1)) B 2 dX4_dropLoose_52 rfl (by first | rfl | (congr 1; decide)) (Nat.le_of_ble_eq_true rfl) (s1_c (f1_1 rfl rfl (f1_k rfl (f1_x f1_n)))) ?_
        refine g_goto B 4 dX4_dropLoose_55 (by decide) ?_
        obtain ⟨w1, w2⟩ := inS h
        clear h
        subst w1
        subst w2
        exact g_sub [2, 1, 0] rfl (hI6 ((qv11 + 1), (qv12 + 1)) rfl)
    clear h
    have h := h22
    clear h22
    refine g_icmp_ne B 31 dX4_dropLoose_24 (by decide) (fun hc => ?_) (fun hc => ?_)
    · replace h := ifn hc h
      refine g_iconst (v := 0) B dX4_dropLoose_31 (by decide) ?_
      replace h := Option.some.inj h
      subst h
      exact g_sub [0, 1, 2] rfl k24
    · replace h := ifp hc h
      refine g_iconst (v := 1) B dX4_dropLoose_27 (by decide) ?_
      refine g_goto B 32 dX4_dropLoose_28 (by decide) ?_
      replace h := Option.some.inj h
      subst h
      exact g_sub [0, 1, 2] rfl k24
set_option maxRecDepth 100000 in
set_option maxHeartbeats 4000000 in
theorem cX7_initc {l : Launch} {v0 : Option Nat} {σ : HpT} {o : Except Nat (Unit)} {σ' : HpT} {a b : Nat} (h : fX7_init v0 σ = some (o, σ', a, b)) : IsK σ v0 7 ∧ Ct l yX7_init cX7_init 1 none 1 21 [va_rf v0] σ (oU o) σ' a b := by
  unfold fX7_init at h
  replace h := bnP_s h
  obtain ⟨u, hk, h⟩ := h
  replace hk := isK_s hk
  refine ⟨hk, ?_⟩
  refine ct_start mi_X7_init.1 rfl (al_le (al_1 (rf_cat _) al_n) (Nat.le_of_ble_eq_true rfl)) (ag_1 (rf_cat _) ag_n) (fun Δ Γ B hE hnm => ?_)
  have hka : 0 + a = a := Nat.zero_add a
  have hkb : 0 + b = b := Nat.zero_add b
  have hla : a ≤ a := Nat.le_refl a
  have hlb : b ≤ b := Nat.le_refl b
  refine g_aload_n B 0 dX7_init_0 rfl rfl ?_
  refine g_objInit9 B hk obj_RX7_3 (by decide) (Nat.le_of_ble_eq_true rfl) dX7_init_1 ?_
  refine g_aload_n B 0 dX7_init_4 rfl rfl ?_
  refine g_iconst (v := 0) B dX7_init_5 (by decide) ?_
  replace h := bnA_s h
  rcases h with ⟨e9, h2, e8⟩ | ⟨x1, s3, a4, b5, a6, b7, h2, h, ea, eb⟩
  · exact absurd h2 (by simp [nwA, nwR]; try (split <;> simp))
  · subst ea; subst eb
    have hka := bk hka
    have hkb := bk hkb
    refine g_newarr B (Or.inr (Or.inr (Or.inl ⟨rfl, rfl⟩))) na_byte dX7_init_6 h2 (Nat.le_trans (bm hka) hla) (Nat.le_trans (bm hkb) hlb) ?_
    replace h := bnP_s h
    obtain ⟨s10, h9, h⟩ := h
    refine g_putR B fl_RX7_9 (by decide) (Or.inr ⟨_, rfl⟩) dX7_init_8 h9 ?_
    obtain ⟨w1, w2, w3, w4⟩ := inA h
    clear h
    subst w1
    subst w2
    subst w3
    subst w4
    exact g_vret B hE (Nat.le_trans (Nat.le_of_eq hka) hla) (Nat.le_trans (Nat.le_of_eq hkb) hlb) dX7_init_11
set_option maxRecDepth 100000 in
set_option maxHeartbeats 4000000 in
theorem cX5_initc {l : Launch} {v0 : Option Nat} {σ : HpT} {o : Except Nat (Unit)} {σ' : HpT} {a b : Nat} (h : fX5_init v0 σ = some (o, σ', a, b)) : IsK σ v0 5 ∧ Ct l yX5_init cX5_init 1 none 2 41 [va_rf v0] σ (oU o) σ' a b := by
  unfold fX5_init at h
  replace h := bnP_s h
  obtain ⟨u, hk, h⟩ := h
  replace hk := isK_s hk
  refine ⟨hk, ?_⟩
  refine ct_start mi_X5_init.1 rfl (al_le (al_1 (rf_cat _) al_n) (Nat.le_of_ble_eq_true rfl)) (ag_1 (rf_cat _) ag_n) (fun Δ Γ B hE hnm => ?_)
  have hka : 0 + a = a := Nat.zero_add a
  have hkb : 0 + b = b := Nat.zero_add b
  have hla : a ≤ a := Nat.le_refl a
  have hlb : b ≤ b := Nat.le_refl b
  refine g_aload_n B 0 dX5_init_0 rfl rfl ?_
  refine g_objInit9 B hk obj_RX5_3 (by decide) (Nat.le_of_ble_eq_true rfl) dX5_init_1 ?_
  refine g_aload_n B 0 dX5_init_4 rfl rfl ?_
  replace h := bnA_s h
  rcases h with ⟨e9, h2, e8⟩ | ⟨x1, s3, a4, b5, a6, b7, h2, h, ea, eb⟩
  · exact absurd h2 (by simp [nwA, nwR]; try (split <;> simp))
  · subst ea; subst eb
    have hka := bk hka
    have hkb := bk hkb
    refine g_new B nw_RX5_9 dX5_init_5 h2 (Nat.le_trans (bm hka) hla) (Nat.le_trans (bm hkb) hlb) ?_
    refine g_dup B dX5_init_8 (rf_cat _) ?_
    replace h := bnA_s h
    rcases h with ⟨e9, h9, e8⟩ | ⟨x8, s10, a11, b12, a13, b14, h9, h, ea, eb⟩
    · subst e8
      exact g_callNIx (st := [va_rf x1, va_rf v0]) B (cX7_initc (o := .error e9) h9) mi_X7_init lk_RX5_11 ⟨Nat.le_of_ble_eq_true rfl, Nat.le_of_ble_eq_true rfl⟩ rfl rfl (Nat.le_of_ble_eq_true rfl) dX5_init_9 (Nat.le_trans (Nat.le_of_eq hka) hla) (Nat.le_trans (Nat.le_of_eq hkb) hlb) hE
    · subst ea; subst eb
      have hka := bk hka
      have hkb := bk hkb
      refine g_callNIvA (st := [va_rf x1, va_rf v0]) B (cX7_initc (o := .ok x8) h9) mi_X7_init lk_RX5_11 ⟨Nat.le_of_ble_eq_true rfl, Nat.le_of_ble_eq_true rfl⟩ rfl rfl (Nat.le_of_ble_eq_true rfl) dX5_init_9 (Nat.le_trans (bm hka) hla) (Nat.le_trans (bm hkb) hlb) ?_
      replace h := bnP_s h
      obtain ⟨s17, h16, h⟩ := h
      refine g_putRF B fl_RX5_12 (by decide) (Or.inl ⟨_, rfl⟩) hnm dX5_init_12 h16 ?_
      obtain ⟨w1, w2, w3, w4⟩ := inA h
      clear h
      subst w1
      subst w2
      subst w3
      subst w4
      exact g_vret B hE (Nat.le_trans (Nat.le_of_eq hka) hla) (Nat.le_trans (Nat.le_of_eq hkb) hlb) dX5_init_15
set_option maxRecDepth 100000 in
set_option maxHeartbeats 4000000 in
theorem cX5_failc {l : Launch} {v0 : Option Nat} {v1 : Int32} {σ : HpT} {r : Bool} {σ' : HpT} (h : fX5_fail v0 v1 σ = some (r, σ')) : IsK σ v0 5 ∧ Ct l yX5_fail cX5_fail 2 (some .boolean) 0 0 [va_rf v0, .int v1] σ (.ok (some (.int (bI r)))) σ' 0 0 := by
  unfold fX5_fail at h
  replace h := bnP_s h
  obtain ⟨u, hk, h⟩ := h
  replace hk := isK_s hk
  refine ⟨hk, ?_⟩
  refine ct_start mi_X5_fail.1 rfl (al_le (al_1 (rf_cat _) (al_1 rfl al_n)) (Nat.le_of_ble_eq_true rfl)) (ag_1 (rf_cat _) (ag_1 rfl ag_n)) (fun Δ Γ B hE hnm => ?_)
  refine g_aload_n B 0 dX5_fail_0 rfl rfl ?_
  refine g_iload_n B 1 dX5_fail_1 rfl rfl ?_
  replace h := bnP_s h
  obtain ⟨s3, h2, h⟩ := h
  refine g_putI B fl_RX5_18 (by decide) dX5_fail_2 h2 ?_
  refine g_aload_n B 0 dX5_fail_5 rfl rfl ?_
  refine g_aload_n B 0 dX5_fail_6 rfl rfl ?_
  replace h := bnP_s h
  obtain ⟨x4, h5, h⟩ := h
  refine g_getR B fl_RX5_12 (by decide) dX5_fail_7 h5 ?_
  replace h := bnP_s h
  obtain ⟨x6, h7, h⟩ := h
  refine g_getI B fl_RX5_22 (by decide) dX5_fail_10 h7 ?_
  replace h := bnP_s h
  obtain ⟨s10, h9, h⟩ := h
  refine g_putI B fl_RX5_25 (by decide) dX5_fail_13 h9 ?_
  refine g_iconst (v := 0) B dX5_fail_16 (by decide) ?_
  obtain ⟨w1, w2⟩ := inS h
  clear h
  subst w1
  subst w2
  exact g_zret B hE rfl (Nat.zero_le _) (Nat.zero_le _) dX5_fail_17
set_option maxRecDepth 100000 in
set_option maxHeartbeats 4000000 in
theorem cX9_isLetterc {l : Launch} {v0 : Int32} {σ : HpT} {r : Bool} (h : fX9_isLetter v0 σ = some r) : Ct l yX9_isLetter cX9_isLetter 1 (some .boolean) 0 0 [.int v0] σ (.ok (some (.int (bI r)))) σ 0 0 := by
  unfold fX9_isLetter at h
  refine ct_start mi_X9_isLetter.1 rfl (al_le (al_1 rfl al_n) (Nat.le_of_ble_eq_true rfl)) (ag_1 rfl ag_n) (fun Δ Γ B hE hnm => ?_)
  refine g_iload_n B 0 dX9_isLetter_0 rfl rfl ?_
  refine g_bipush (v := 97) B dX9_isLetter_1 (by decide) ?_
  refine g_icmp_lt B 16 dX9_isLetter_3 (by decide) (fun hc => ?_) (fun hc => ?_)
  · replace h := ifp hc h
    refine g_iconst (v := 0) B dX9_isLetter_16 (by decide) ?_
    replace h := Option.some.inj h
    subst h
    exact g_zret B hE rfl (Nat.zero_le _) (Nat.zero_le _) dX9_isLetter_17
  · replace h := ifn hc h
    refine g_iload_n B 0 dX9_isLetter_6 rfl rfl ?_
    refine g_bipush (v := 122) B dX9_isLetter_7 (by decide) ?_
    refine g_icmp_gt B 16 dX9_isLetter_9 (by decide) (fun hc => ?_) (fun hc => ?_)
    · replace h := ifp hc h
      refine g_iconst (v := 0) B dX9_isLetter_16 (by decide) ?_
      replace h := Option.some.inj h
      subst h
      exact g_zret B hE rfl (Nat.zero_le _) (Nat.zero_le _) dX9_isLetter_17
    · replace h := ifn hc h
      refine g_iconst (v := 1) B dX9_isLetter_12 (by decide) ?_
      refine g_goto B 17 dX9_isLetter_13 (by decide) ?_
      replace h := Option.some.inj h
      subst h
      exact g_zret B hE rfl (Nat.zero_le _) (Nat.zero_le _) dX9_isLetter_17
set_option maxRecDepth 100000 in
set_option maxHeartbeats 4000000 in
theorem cX9_joinedc {l : Launch} {v0 : Int64} {v2 : Int32} {σ : HpT} {r : Int64} (h : fX9_joined v0 v2 σ = some r) : Ct l yX9_joined cX9_joined 3 (some .long) 0 0 [.long v0, .int v2] σ (.ok (some (.long r))) σ 0 0 := by
  unfold fX9_joined at h
  refine ct_start mi_X9_joined.1 rfl (al_le (al_2 rfl (al_1 rfl al_n)) (Nat.le_of_ble_eq_true rfl)) (ag_2 rfl (ag_1 rfl ag_n)) (fun Δ Γ B hE hnm => ?_)
  refine g_lload_n B 0 dX9_joined_0 rfl rfl ?_
  refine g_bipush (v := 8) B dX9_joined_1 (by decide) ?_
  refine g_lshl B dX9_joined_3 ?_
  refine g_iload_n B 1 dX9_joined_4 rfl rfl ?_
  refine g_i2l B dX9_joined_5 ?_
  refine g_lor B dX9_joined_6 ?_
  replace h := Option.some.inj h
  subst h
  exact g_lret B hE (Nat.zero_le _) (Nat.zero_le _) dX9_joined_7
set_option maxRecDepth 100000 in
set_option maxHeartbeats 4000000 in
theorem cX7_readWordc {l : Launch} {v0 : Option Nat} {σ : HpT} {σ' : HpT} (h : fX7_readWord v0 σ = some σ') : IsK σ v0 7 ∧ Ct l yX7_readWord cX7_readWord 1 none 1 22 [va_rf v0] σ (.ok none) σ' 0 0 := by
  unfold fX7_readWord at h
  replace h := bnP_s h
  obtain ⟨u, hk, h⟩ := h
  replace hk := isK_s hk
  refine ⟨hk, ?_⟩
  refine ct_start mi_X7_readWord.1 rfl (al_le (al_1 (rf_cat _) al_n) (Nat.le_of_ble_eq_true rfl)) (ag_1 (rf_cat _) ag_n) (fun Δ Γ B hE hnm => ?_)
  refine g_aload_n B 0 dX7_readWord_0 rfl rfl ?_
  refine g_lconst (v := 0) B dX7_readWord_1 (by decide) ?_
  replace h := bnP_s h
  obtain ⟨s3, h2, h⟩ := h
  refine g_putJ B fl_RX7_54 (by decide) dX7_readWord_2 h2 ?_
  replace h := bnS_s h
  obtain ⟨r5, s44, h6, h⟩ := h
  have kE7 : GW Δ Γ (0) (0) 64 [(0, va_rf v0)] [] s44 := by
    refine g_aload_n B 0 dX7_readWord_64 rfl rfl ?_
    refine g_aload_n B 0 dX7_readWord_65 rfl rfl ?_
    replace h := bnP_s h
    obtain ⟨x45, h46, h⟩ := h
    refine g_getI B fl_RX7_25 (by decide) dX7_readWord_66 h46 ?_
    refine g_aload_n B 0 dX7_readWord_69 rfl rfl ?_
    replace h := bnP_s h
    obtain ⟨x47, h48, h⟩ := h
    refine g_getI B fl_RX7_31 (by decide) dX7_readWord_70 h48 ?_
    refine g_isub B dX7_readWord_73 ?_
    refine g_bipush (v := 8) B dX7_readWord_74 (by decide) ?_
    replace h := bnP_s h
    obtain ⟨j49, h50, h⟩ := h
    have k52 : GW Δ Γ (0) (0) 85 [] [.int j49.2, va_rf j49.1] s44 := by
      replace h := bnP_s h
      obtain ⟨s56, h55, h⟩ := h
      refine g_putI B fl_RX7_34 (by decide) dX7_readWord_85 h55 ?_
      replace h := Option.some.inj h
      subst h
      exact g_vret B hE (Nat.zero_le _) (Nat.zero_le _) dX7_readWord_88
    clear h
    have h := h50
    clear h50
    refine g_icmp_gt B 83 dX7_readWord_76 (by decide) (fun hc => ?_) (fun hc => ?_)
    · replace h := ifp hc h
      refine g_bipush (v := 6) B dX7_readWord_83 (by decide) ?_
      replace h := Option.some.inj h
      subst h
      exact g_sub [] rfl k52
    · replace h := ifn hc h
      refine g_iconst (v := 1) B dX7_readWord_79 (by decide) ?_
      refine g_goto B 85 dX7_readWord_80 (by decide) ?_
      replace h := Option.some.inj h
      subst h
      exact g_sub [] rfl k52
  clear h
  refine g_sub [0] rfl ?_
  refine lpS_w (I := fun q4 s13 => GW Δ Γ (0) (0) 5 [(0, va_rf v0)] [] s13) (r := r5) (σr := s44) ?_ FUEL () s3 h6
  intro q4 s13 x11 s9 h hI9 hR10
  unfold fX7_readWord_l1 at h
  refine g_aload_n B 0 dX7_readWord_5 rfl rfl ?_
  replace h := bnP_s h
  obtain ⟨x14, h15, h⟩ := h
  refine g_getI B fl_RX7_25 (by decide) dX7_readWord_6 h15 ?_
  refine g_aload_n B 0 dX7_readWord_9 rfl rfl ?_
  replace h := bnP_s h
  obtain ⟨x16, h17, h⟩ := h
  refine g_getI B fl_RX7_21 (by decide) dX7_readWord_10 h17 ?_
  refine g_icmp_ge B 64 dX7_readWord_13 (by decide) (fun hc => ?_) (fun hc => ?_)
  · replace h := ifp hc h
    obtain ⟨w1, w2⟩ := inS h
    clear h
    subst w1
    subst w2
    obtain ⟨e8, e7⟩ := hR10 _ rfl
    subst e8
    subst e7
    exact g_sub [0] rfl kE7
  · replace h := ifn hc h
    refine g_aload_n B 0 dX7_readWord_16 rfl rfl ?_
    replace h := bnP_s h
    obtain ⟨x18, h19, h⟩ := h
    refine g_getR B fl_RX7_9 (by decide) dX7_readWord_17 h19 ?_
    refine g_aload_n B 0 dX7_readWord_20 rfl rfl ?_
    replace h := bnP_s h
    obtain ⟨x20, h21, h⟩ := h
    refine g_getI B fl_RX7_25 (by decide) dX7_readWord_21 h21 ?_
    replace h := bnP_s h
    obtain ⟨x22, h23, h⟩ := h
    refine g_bald B dX7_readWord_24 h23 ?_
    replace h := bnP_s h
    obtain ⟨x24, h25, h⟩ := h
    refine g_callNSs0 (st := []) B (cX9_isLetterc h25) mi_X9_isLetter lk_RX7_37 ⟨Nat.le_of_ble_eq_true rfl, Nat.le_of_ble_eq_true rfl⟩ rfl rfl (Nat.le_of_ble_eq_true rfl) dX7_readWord_25 (Nat.zero_le _) (Nat.zero_le _) ?_
    refine g_if_eq B 64 dX7_readWord_28 (by decide) (fun hc => ?_) (fun hc => ?_)
    · replace h := ifn (bI0 hc) h
      obtain ⟨w1, w2⟩ := inS h
      clear h
      subst w1
      subst w2
      obtain ⟨e8, e7⟩ := hR10 _ rfl
      subst e8
      subst e7
      exact g_sub [0] rfl kE7
    · replace h := ifp (bI1 hc) h
      refine g_aload_n B 0 dX7_readWord_31 rfl rfl ?_
      refine g_aload_n B 0 dX7_readWord_32 rfl rfl ?_
      replace h := bnP_s h
      obtain ⟨x26, h27, h⟩ := h
      refine g_getJ B fl_RX7_54 (by decide) dX7_readWord_33 h27 ?_
      refine g_aload_n B 0 dX7_readWord_36 rfl rfl ?_
      replace h := bnP_s h
      obtain ⟨x28, h29, h⟩ := h
      refine g_getR B fl_RX7_9 (by decide) dX7_readWord_37 h29 ?_
      refine g_aload_n B 0 dX7_readWord_40 rfl rfl ?_
      replace h := bnP_s h
      obtain ⟨x30, h31, h⟩ := h
      refine g_getI B fl_RX7_25 (by decide) dX7_readWord_41 h31 ?_
      replace h := bnP_s h
      obtain ⟨x32, h33, h⟩ := h
      refine g_bald B dX7_readWord_44 h33 ?_
      replace h := bnP_s h
      obtain ⟨x34, h35, h⟩ := h
      refine g_callNSs0 (st := [va_rf v0]) B (cX9_joinedc h35) mi_X9_joined lk_RX7_58 ⟨Nat.le_of_ble_eq_true rfl, Nat.le_of_ble_eq_true rfl⟩ rfl rfl (Nat.le_of_ble_eq_true rfl) dX7_readWord_45 (Nat.zero_le _) (Nat.zero_le _) ?_
      replace h := bnP_s h
      obtain ⟨s38, h37, h⟩ := h
      refine g_putJ B fl_RX7_54 (by decide) dX7_readWord_48 h37 ?_
      refine g_aload_n B 0 dX7_readWord_51 rfl rfl ?_
      refine g_dup B dX7_readWord_52 (rf_cat _) ?_
      replace h := bnP_s h
      obtain ⟨x39, h40, h⟩ := h
      refine g_getI B fl_RX7_25 (by decide) dX7_readWord_53 h40 ?_
      refine g_iconst (v := 1) B dX7_readWord_56 (by decide) ?_
      refine g_iadd B dX7_readWord_57 ?_
      replace h := bnP_s h
      obtain ⟨s43, h42, h⟩ := h
      refine g_putI B fl_RX7_25 (by decide) dX7_readWord_58 h42 ?_
      refine g_goto B 5 dX7_readWord_61 (by decide) ?_
      obtain ⟨w1, w2⟩ := inS h
      clear h
      subst w1
      subst w2
      exact g_sub [0] rfl (hI9 _ rfl)
set_option maxRecDepth 100000 in
set_option maxHeartbeats 4000000 in
theorem cX7_isDigitc {l : Launch} {v0 : Int32} {σ : HpT} {r : Bool} (h : fX7_isDigit v0 σ = some r) : Ct l yX7_isDigit cX7_isDigit 1 (some .boolean) 0 0 [.int v0] σ (.ok (some (.int (bI r)))) σ 0 0 := by
  unfold fX7_isDigit at h
  refine ct_start mi_X7_isDigit.1 rfl (al_le (al_1 rfl al_n) (Nat.le_of_ble_eq_true rfl)) (ag_1 rfl ag_n) (fun Δ Γ B hE hnm => ?_)
  refine g_iload_n B 0 dX7_isDigit_0 rfl rfl ?_
  refine g_bipush (v := 48) B dX7_isDigit_1 (by decide) ?_
  refine g_icmp_lt B 16 dX7_isDigit_3 (by decide) (fun hc => ?_) (fun hc => ?_)
  · replace h := ifp hc h
    refine g_iconst (v := 0) B dX7_isDigit_16 (by decide) ?_
    replace h := Option.some.inj h
    subst h
    exact g_zret B hE rfl (Nat.zero_le _) (Nat.zero_le _) dX7_isDigit_17
  · replace h := ifn hc h
    refine g_iload_n B 0 dX7_isDigit_6 rfl rfl ?_
    refine g_bipush (v := 57) B dX7_isDigit_7 (by decide) ?_
    refine g_icmp_gt B 16 dX7_isDigit_9 (by decide) (fun hc => ?_) (fun hc => ?_)
    · replace h := ifp hc h
      refine g_iconst (v := 0) B dX7_isDigit_16 (by decide) ?_
      replace h := Option.some.inj h
      subst h
      exact g_zret B hE rfl (Nat.zero_le _) (Nat.zero_le _) dX7_isDigit_17
    · replace h := ifn hc h
      refine g_iconst (v := 1) B dX7_isDigit_12 (by decide) ?_
      refine g_goto B 17 dX7_isDigit_13 (by decide) ?_
      replace h := Option.some.inj h
      subst h
      exact g_zret B hE rfl (Nat.zero_le _) (Nat.zero_le _) dX7_isDigit_17
set_option maxRecDepth 100000 in
set_option maxHeartbeats 4000000 in
theorem cX7_readNumberc {l : Launch} {v0 : Option Nat} {σ : HpT} {σ' : HpT} (h : fX7_readNumber v0 σ = some σ') : IsK σ v0 7 ∧ Ct l yX7_readNumber cX7_readNumber 1 none 1 20 [va_rf v0] σ (.ok none) σ' 0 0 := by
  unfold fX7_readNumber at h
  replace h := bnP_s h
  obtain ⟨u, hk, h⟩ := h
  replace hk := isK_s hk
  refine ⟨hk, ?_⟩
  refine ct_start mi_X7_readNumber.1 rfl (al_le (al_1 (rf_cat _) al_n) (Nat.le_of_ble_eq_true rfl)) (ag_1 (rf_cat _) ag_n) (fun Δ Γ B hE hnm => ?_)
  refine g_aload_n B 0 dX7_readNumber_0 rfl rfl ?_
  refine g_iconst (v := 0) B dX7_readNumber_1 (by decide) ?_
  replace h := bnP_s h
  obtain ⟨s3, h2, h⟩ := h
  refine g_putI B fl_RX7_62 (by decide) dX7_readNumber_2 h2 ?_
  replace h := bnS_s h
  obtain ⟨r5, s42, h6, h⟩ := h
  have kE7 : GW Δ Γ (0) (0) 68 [(0, va_rf v0)] [] s42 := by
    refine g_aload_n B 0 dX7_readNumber_68 rfl rfl ?_
    refine g_aload_n B 0 dX7_readNumber_69 rfl rfl ?_
    replace h := bnP_s h
    obtain ⟨x43, h44, h⟩ := h
    refine g_getI B fl_RX7_25 (by decide) dX7_readNumber_70 h44 ?_
    refine g_aload_n B 0 dX7_readNumber_73 rfl rfl ?_
    replace h := bnP_s h
    obtain ⟨x45, h46, h⟩ := h
    refine g_getI B fl_RX7_31 (by decide) dX7_readNumber_74 h46 ?_
    refine g_isub B dX7_readNumber_77 ?_
    refine g_iconst (v := 2) B dX7_readNumber_78 (by decide) ?_
    replace h := bnP_s h
    obtain ⟨j47, h48, h⟩ := h
    have k50 : GW Δ Γ (0) (0) 88 [] [.int j47.2, va_rf j47.1] s42 := by
      replace h := bnP_s h
      obtain ⟨s54, h53, h⟩ := h
      refine g_putI B fl_RX7_34 (by decide) dX7_readNumber_88 h53 ?_
      replace h := Option.some.inj h
      subst h
      exact g_vret B hE (Nat.zero_le _) (Nat.zero_le _) dX7_readNumber_91
    clear h
    have h := h48
    clear h48
    refine g_icmp_gt B 86 dX7_readNumber_79 (by decide) (fun hc => ?_) (fun hc => ?_)
    · replace h := ifp hc h
      refine g_bipush (v := 6) B dX7_readNumber_86 (by decide) ?_
      replace h := Option.some.inj h
      subst h
      exact g_sub [] rfl k50
    · replace h := ifn hc h
      refine g_iconst (v := 2) B dX7_readNumber_82 (by decide) ?_
      refine g_goto B 88 dX7_readNumber_83 (by decide) ?_
      replace h := Option.some.inj h
      subst h
      exact g_sub [] rfl k50
  clear h
  refine g_sub [0] rfl ?_
  refine lpS_w (I := fun q4 s13 => GW Δ Γ (0) (0) 5 [(0, va_rf v0)] [] s13) (r := r5) (σr := s42) ?_ FUEL () s3 h6
  intro q4 s13 x11 s9 h hI9 hR10
  unfold fX7_readNumber_l1 at h
  refine g_aload_n B 0 dX7_readNumber_5 rfl rfl ?_
  replace h := bnP_s h
  obtain ⟨x14, h15, h⟩ := h
  refine g_getI B fl_RX7_25 (by decide) dX7_readNumber_6 h15 ?_
  refine g_aload_n B 0 dX7_readNumber_9 rfl rfl ?_
  replace h := bnP_s h
  obtain ⟨x16, h17, h⟩ := h
  refine g_getI B fl_RX7_21 (by decide) dX7_readNumber_10 h17 ?_
  refine g_icmp_ge B 68 dX7_readNumber_13 (by decide) (fun hc => ?_) (fun hc => ?_)
  · replace h := ifp hc h
    obtain ⟨w1, w2⟩ := inS h
    clear h
    subst w1
    subst w2
    obtain ⟨e8, e7⟩ := hR10 _ rfl
    subst e8
    subst e7
    exact g_sub [0] rfl kE7
  · replace h := ifn hc h
    refine g_aload_n B 0 dX7_readNumber_16 rfl rfl ?_
    replace h := bnP_s h
    obtain ⟨x18, h19, h⟩ := h
    refine g_getR B fl_RX7_9 (by decide) dX7_readNumber_17 h19 ?_
    refine g_aload_n B 0 dX7_readNumber_20 rfl rfl ?_
    replace h := bnP_s h
    obtain ⟨x20, h21, h⟩ := h
    refine g_getI B fl_RX7_25 (by decide) dX7_readNumber_21 h21 ?_
    replace h := bnP_s h
    obtain ⟨x22, h23, h⟩ := h
    refine g_bald B dX7_readNumber_24 h23 ?_
    replace h := bnP_s h
    obtain ⟨x24, h25, h⟩ := h
    refine g_callSs0 (st := []) B (cX7_isDigitc h25) mi_X7_isDigit lk_RX7_44 ⟨Nat.le_of_ble_eq_true rfl, Nat.le_of_ble_eq_true rfl⟩ rfl rfl (Nat.le_of_ble_eq_true rfl) dX7_readNumber_25 (Nat.zero_le _) (Nat.zero_le _) ?_
    refine g_if_eq B 68 dX7_readNumber_28 (by decide) (fun hc => ?_) (fun hc => ?_)
    · replace h := ifn (bI0 hc) h
      obtain ⟨w1, w2⟩ := inS h
      clear h
      subst w1
      subst w2
      obtain ⟨e8, e7⟩ := hR10 _ rfl
      subst e8
      subst e7
      exact g_sub [0] rfl kE7
    · replace h := ifp (bI1 hc) h
      refine g_aload_n B 0 dX7_readNumber_31 rfl rfl ?_
      refine g_aload_n B 0 dX7_readNumber_32 rfl rfl ?_
      replace h := bnP_s h
      obtain ⟨x26, h27, h⟩ := h
      refine g_getI B fl_RX7_62 (by decide) dX7_readNumber_33 h27 ?_
      refine g_bipush (v := 10) B dX7_readNumber_36 (by decide) ?_
      refine g_imul B dX7_readNumber_38 ?_
      refine g_aload_n B 0 dX7_readNumber_39 rfl rfl ?_
      replace h := bnP_s h
      obtain ⟨x28, h29, h⟩ := h
      refine g_getR B fl_RX7_9 (by decide) dX7_readNumber_40 h29 ?_
      refine g_aload_n B 0 dX7_readNumber_43 rfl rfl ?_
      replace h := bnP_s h
      obtain ⟨x30, h31, h⟩ := h
      refine g_getI B fl_RX7_25 (by decide) dX7_readNumber_44 h31 ?_
      replace h := bnP_s h
      obtain ⟨x32, h33, h⟩ := h
      refine g_bald B dX7_readNumber_47 h33 ?_
      refine g_iadd B dX7_readNumber_48 ?_
      refine g_bipush (v := 48) B dX7_readNumber_49 (by decide) ?_
      refine g_isub B dX7_readNumber_51 ?_
      replace h := bnP_s h
      obtain ⟨s36, h35, h⟩ := h
      refine g_putI B fl_RX7_62 (by decide) dX7_readNumber_52 h35 ?_
      refine g_aload_n B 0 dX7_readNumber_55 rfl rfl ?_
      refine g_dup B dX7_readNumber_56 (rf_cat _) ?_
      replace h := bnP_s h
      obtain ⟨x37, h38, h⟩ := h
      refine g_getI B fl_RX7_25 (by decide) dX7_readNumber_57 h38 ?_
      refine g_iconst (v := 1) B dX7_readNumber_60 (by decide) ?_
      refine g_iadd B dX7_readNumber_61 ?_
      replace h := bnP_s h
      obtain ⟨s41, h40, h⟩ := h
      refine g_putI B fl_RX7_25 (by decide) dX7_readNumber_62 h40 ?_
      refine g_goto B 5 dX7_readNumber_65 (by decide) ?_
      obtain ⟨w1, w2⟩ := inS h
      clear h
      subst w1
      subst w2
      exact g_sub [0] rfl (hI9 _ rfl)
set_option maxRecDepth 100000 in
set_option maxHeartbeats 4000000 in
theorem cX7_kindOfSignc {l : Launch} {v0 : Int32} {σ : HpT} {r : Int32} (h : fX7_kindOfSign v0 σ = some r) : Ct l yX7_kindOfSign cX7_kindOfSign 1 (some .int) 0 0 [.int v0] σ (.ok (some (.int r))) σ 0 0 := by
  unfold fX7_kindOfSign at h
  refine ct_start mi_X7_kindOfSign.1 rfl (al_le (al_1 rfl al_n) (Nat.le_of_ble_eq_true rfl)) (ag_1 rfl ag_n) (fun Δ Γ B hE hnm => ?_)
  refine g_iload_n B 0 dX7_kindOfSign_0 rfl rfl ?_
  by_cases n40 : v0 = 40
  · replace h := ifp n40 h
    rw [n40]
    refine g_lookup B (off := 37) 38 dX7_kindOfSign_1 (by decide) (by decide) (by decide) ?_
    refine g_iconst (v := 4) B dX7_kindOfSign_38 (by decide) ?_
    replace h := Option.some.inj h
    subst h
    exact g_iret B hE (Nat.zero_le _) (Nat.zero_le _) dX7_kindOfSign_39
  replace h := ifn n40 h
  by_cases n41 : v0 = 41
  · replace h := ifp n41 h
    rw [n41]
    refine g_lookup B (off := 39) 40 dX7_kindOfSign_1 (by decide) (by decide) (by decide) ?_
    refine g_iconst (v := 5) B dX7_kindOfSign_40 (by decide) ?_
    replace h := Option.some.inj h
    subst h
    exact g_iret B hE (Nat.zero_le _) (Nat.zero_le _) dX7_kindOfSign_41
  replace h := ifn n41 h
  by_cases n59 : v0 = 59
  · replace h := ifp n59 h
    rw [n59]
    refine g_lookup B (off := 35) 36 dX7_kindOfSign_1 (by decide) (by decide) (by decide) ?_
    refine g_iconst (v := 3) B dX7_kindOfSign_36 (by decide) ?_
    replace h := Option.some.inj h
    subst h
    exact g_iret B hE (Nat.zero_le _) (Nat.zero_le _) dX7_kindOfSign_37
  replace h := ifn n59 h
  have mn40 := tne n40 (k := 40) (by decide)
  have mn41 := tne n41 (k := 41) (by decide)
  have mn59 := tne n59 (k := 59) (by decide)
  refine g_lookup B (off := 41) 42 dX7_kindOfSign_1 (by decide) (lk_df3 mn40 mn41 mn59) (by decide) ?_
  refine g_bipush (v := 6) B dX7_kindOfSign_42 (by decide) ?_
  replace h := Option.some.inj h
  subst h
  exact g_iret B hE (Nat.zero_le _) (Nat.zero_le _) dX7_kindOfSign_44
set_option maxRecDepth 100000 in
set_option maxHeartbeats 4000000 in
theorem cX7_stepc {l : Launch} {v0 : Option Nat} {σ : HpT} {σ' : HpT} (h : fX7_step v0 σ = some σ') : IsK σ v0 7 ∧ Ct l yX7_step cX7_step 1 none 2 42 [va_rf v0] σ (.ok none) σ' 0 0 := by
  unfold fX7_step at h
  replace h := bnP_s h
  obtain ⟨u, hk, h⟩ := h
  replace hk := isK_s hk
  refine ⟨hk, ?_⟩
  refine ct_start mi_X7_step.1 rfl (al_le (al_1 (rf_cat _) al_n) (Nat.le_of_ble_eq_true rfl)) (ag_1 (rf_cat _) ag_n) (fun Δ Γ B hE hnm => ?_)
  replace h := bnS_s h
  obtain ⟨r2, s26, h3, h⟩ := h
  have kE4 : GW Δ Γ (0) (0) 38 [(0, va_rf v0)] [] s26 := by
    refine g_aload_n B 0 dX7_step_38 rfl rfl ?_
    refine g_aload_n B 0 dX7_step_39 rfl rfl ?_
    replace h := bnP_s h
    obtain ⟨x27, h28, h⟩ := h
    refine g_getI B fl_RX7_25 (by decide) dX7_step_40 h28 ?_
    replace h := bnP_s h
    obtain ⟨s31, h30, h⟩ := h
    refine g_putI B fl_RX7_31 (by decide) dX7_step_43 h30 ?_
    refine g_aload_n B 0 dX7_step_46 rfl rfl ?_
    replace h := bnP_s h
    obtain ⟨x32, h33, h⟩ := h
    refine g_getI B fl_RX7_25 (by decide) dX7_step_47 h33 ?_
    refine g_aload_n B 0 dX7_step_50 rfl rfl ?_
    replace h := bnP_s h
    obtain ⟨x34, h35, h⟩ := h
    refine g_getI B fl_RX7_21 (by decide) dX7_step_51 h35 ?_
    refine g_icmp_lt B 65 dX7_step_54 (by decide) (fun hc => ?_) (fun hc => ?_)
    · replace h := ifp hc h
      refine g_aload_n B 0 dX7_step_65 rfl rfl ?_
      replace h := bnP_s h
      obtain ⟨x36, h37, h⟩ := h
      refine g_getR B fl_RX7_9 (by decide) dX7_step_66 h37 ?_
      refine g_aload_n B 0 dX7_step_69 rfl rfl ?_
      replace h := bnP_s h
      obtain ⟨x38, h39, h⟩ := h
      refine g_getI B fl_RX7_25 (by decide) dX7_step_70 h39 ?_
      replace h := bnP_s h
      obtain ⟨x40, h41, h⟩ := h
      refine g_bald B dX7_step_73 h41 ?_
      replace h := bnP_s h
      obtain ⟨x42, h43, h⟩ := h
      refine g_callNSs0 (st := []) B (cX9_isLetterc h43) mi_X9_isLetter lk_RX7_37 ⟨Nat.le_of_ble_eq_true rfl, Nat.le_of_ble_eq_true rfl⟩ rfl rfl (Nat.le_of_ble_eq_true rfl) dX7_step_74 (Nat.zero_le _) (Nat.zero_le _) ?_
      refine g_if_eq B 87 dX7_step_77 (by decide) (fun hc => ?_) (fun hc => ?_)
      · replace h := ifn (bI0 hc) h
        refine g_aload_n B 0 dX7_step_87 rfl rfl ?_
        replace h := bnP_s h
        obtain ⟨x44, h45, h⟩ := h
        refine g_getR B fl_RX7_9 (by decide) dX7_step_88 h45 ?_
        refine g_aload_n B 0 dX7_step_91 rfl rfl ?_
        replace h := bnP_s h
        obtain ⟨x46, h47, h⟩ := h
        refine g_getI B fl_RX7_25 (by decide) dX7_step_92 h47 ?_
        replace h := bnP_s h
        obtain ⟨x48, h49, h⟩ := h
        refine g_bald B dX7_step_95 h49 ?_
        replace h := bnP_s h
        obtain ⟨x50, h51, h⟩ := h
        refine g_callSs0 (st := []) B (cX7_isDigitc h51) mi_X7_isDigit lk_RX7_44 ⟨Nat.le_of_ble_eq_true rfl, Nat.le_of_ble_eq_true rfl⟩ rfl rfl (Nat.le_of_ble_eq_true rfl) dX7_step_96 (Nat.zero_le _) (Nat.zero_le _) ?_
        refine g_if_eq B 109 dX7_step_99 (by decide) (fun hc => ?_) (fun hc => ?_)
        · replace h := ifn (bI0 hc) h
          refine g_aload_n B 0 dX7_step_109 rfl rfl ?_
          refine g_aload_n B 0 dX7_step_110 rfl rfl ?_
          replace h := bnP_s h
          obtain ⟨x52, h53, h⟩ := h
          refine g_getR B fl_RX7_9 (by decide) dX7_step_111 h53 ?_
          refine g_aload_n B 0 dX7_step_114 rfl rfl ?_
          replace h := bnP_s h
          obtain ⟨x54, h55, h⟩ := h
          refine g_getI B fl_RX7_25 (by decide) dX7_step_115 h55 ?_
          replace h := bnP_s h
          obtain ⟨x56, h57, h⟩ := h
          refine g_bald B dX7_step_118 h57 ?_
          replace h := bnP_s h
          obtain ⟨x58, h59, h⟩ := h
          refine g_callSs0 (st := [va_rf v0]) B (cX7_kindOfSignc h59) mi_X7_kindOfSign lk_RX7_50 ⟨Nat.le_of_ble_eq_true rfl, Nat.le_of_ble_eq_true rfl⟩ rfl rfl (Nat.le_of_ble_eq_true rfl) dX7_step_119 (Nat.zero_le _) (Nat.zero_le _) ?_
          replace h := bnP_s h
          obtain ⟨s62, h61, h⟩ := h
          refine g_putI B fl_RX7_34 (by decide) dX7_step_122 h61 ?_
          refine g_aload_n B 0 dX7_step_125 rfl rfl ?_
          refine g_dup B dX7_step_126 (rf_cat _) ?_
          replace h := bnP_s h
          obtain ⟨x63, h64, h⟩ := h
          refine g_getI B fl_RX7_25 (by decide) dX7_step_127 h64 ?_
          refine g_iconst (v := 1) B dX7_step_130 (by decide) ?_
          refine g_iadd B dX7_step_131 ?_
          replace h := bnP_s h
          obtain ⟨s67, h66, h⟩ := h
          refine g_putI B fl_RX7_25 (by decide) dX7_step_132 h66 ?_
          replace h := Option.some.inj h
          subst h
          exact g_vret B hE (Nat.zero_le _) (Nat.zero_le _) dX7_step_135
        · replace h := ifp (bI1 hc) h
          refine g_aload_n B 0 dX7_step_102 rfl rfl ?_
          replace h := bnP_s h
          obtain ⟨s70, h69, h⟩ := h
          refine g_callVv0 (st := []) B (cX7_readNumberc h69) (Nat.le_of_ble_eq_true rfl) rfl rfl mi_X7_readNumber lk_RX7_47 ⟨Nat.le_of_ble_eq_true rfl, Nat.le_of_ble_eq_true rfl⟩ rfl rfl (Nat.le_of_ble_eq_true rfl) dX7_step_103 (Nat.zero_le _) (Nat.zero_le _) ?_
          refine g_goto B 135 dX7_step_106 (by decide) ?_
          replace h := Option.some.inj h
          subst h
          exact g_vret B hE (Nat.zero_le _) (Nat.zero_le _) dX7_step_135
      · replace h := ifp (bI1 hc) h
        refine g_aload_n B 0 dX7_step_80 rfl rfl ?_
        replace h := bnP_s h
        obtain ⟨s73, h72, h⟩ := h
        refine g_callVv0 (st := []) B (cX7_readWordc h72) (Nat.le_of_ble_eq_true rfl) rfl rfl mi_X7_readWord lk_RX7_41 ⟨Nat.le_of_ble_eq_true rfl, Nat.le_of_ble_eq_true rfl⟩ rfl rfl (Nat.le_of_ble_eq_true rfl) dX7_step_81 (Nat.zero_le _) (Nat.zero_le _) ?_
        refine g_goto B 135 dX7_step_84 (by decide) ?_
        replace h := Option.some.inj h
        subst h
        exact g_vret B hE (Nat.zero_le _) (Nat.zero_le _) dX7_step_135
    · replace h := ifn hc h
      refine g_aload_n B 0 dX7_step_57 rfl rfl ?_
      refine g_iconst (v := 0) B dX7_step_58 (by decide) ?_
      replace h := bnP_s h
      obtain ⟨s76, h75, h⟩ := h
      refine g_putI B fl_RX7_34 (by decide) dX7_step_59 h75 ?_
      refine g_goto B 135 dX7_step_62 (by decide) ?_
      replace h := Option.some.inj h
      subst h
      exact g_vret B hE (Nat.zero_le _) (Nat.zero_le _) dX7_step_135
  clear h
  refine g_sub [0] rfl ?_
  refine lpS_w (I := fun q1 s10 => GW Δ Γ (0) (0) 0 [(0, va_rf v0)] [] s10) (r := r2) (σr := s26) ?_ FUEL () σ h3
  intro q1 s10 x8 s9 h hI6 hR7
  unfold fX7_step_l1 at h
  refine g_aload_n B 0 dX7_step_0 rfl rfl ?_
  replace h := bnP_s h
  obtain ⟨x11, h12, h⟩ := h
  refine g_getI B fl_RX7_25 (by decide) dX7_step_1 h12 ?_
  refine g_aload_n B 0 dX7_step_4 rfl rfl ?_
  replace h := bnP_s h
  obtain ⟨x13, h14, h⟩ := h
  refine g_getI B fl_RX7_21 (by decide) dX7_step_5 h14 ?_
  refine g_icmp_ge B 38 dX7_step_8 (by decide) (fun hc => ?_) (fun hc => ?_)
  · replace h := ifp hc h
    obtain ⟨w1, w2⟩ := inS h
    clear h
    subst w1
    subst w2
    obtain ⟨e8, e7⟩ := hR7 _ rfl
    subst e8
    subst e7
    exact g_sub [0] rfl kE4
  · replace h := ifn hc h
    refine g_aload_n B 0 dX7_step_11 rfl rfl ?_
    replace h := bnP_s h
    obtain ⟨x15, h16, h⟩ := h
    refine g_getR B fl_RX7_9 (by decide) dX7_step_12 h16 ?_
    refine g_aload_n B 0 dX7_step_15 rfl rfl ?_
    replace h := bnP_s h
    obtain ⟨x17, h18, h⟩ := h
    refine g_getI B fl_RX7_25 (by decide) dX7_step_16 h18 ?_
    replace h := bnP_s h
    obtain ⟨x19, h20, h⟩ := h
    refine g_bald B dX7_step_19 h20 ?_
    refine g_bipush (v := 32) B dX7_step_20 (by decide) ?_
    refine g_icmp_ne B 38 dX7_step_22 (by decide) (fun hc => ?_) (fun hc => ?_)
    · replace h := ifn hc h
      obtain ⟨w1, w2⟩ := inS h
      clear h
      subst w1
      subst w2
      obtain ⟨e8, e7⟩ := hR7 _ rfl
      subst e8
      subst e7
      exact g_sub [0] rfl kE4
    · replace h := ifp hc h
      refine g_aload_n B 0 dX7_step_25 rfl rfl ?_
      refine g_dup B dX7_step_26 (rf_cat _) ?_
      replace h := bnP_s h
      obtain ⟨x21, h22, h⟩ := h
      refine g_getI B fl_RX7_25 (by decide) dX7_step_27 h22 ?_
      refine g_iconst (v := 1) B dX7_step_30 (by decide) ?_
      refine g_iadd B dX7_step_31 ?_
      replace h := bnP_s h
      obtain ⟨s25, h24, h⟩ := h
      refine g_putI B fl_RX7_25 (by decide) dX7_step_32 h24 ?_
      refine g_goto B 0 dX7_step_35 (by decide) ?_
      obtain ⟨w1, w2⟩ := inS h
      clear h
      subst w1
      subst w2
      exact g_sub [0] rfl (hI6 _ rfl)
set_option maxRecDepth 100000 in
set_option maxHeartbeats 4000000 in
theorem cX7_startAtc {l : Launch} {v0 : Option Nat} {v1 : Option Nat} {v2 : Int32} {σ : HpT} {σ' : HpT} (h : fX7_startAt v0 v1 v2 σ = some σ') : IsK σ v0 7 ∧ Ct l yX7_startAt cX7_startAt 3 none 3 62 [va_rf v0, va_rf v1, .int v2] σ (.ok none) σ' 0 0 := by
  unfold fX7_startAt at h
  replace h := bnP_s h
  obtain ⟨u, hk, h⟩ := h
  replace hk := isK_s hk
  refine ⟨hk, ?_⟩
  refine ct_start mi_X7_startAt.1 rfl (al_le (al_1 (rf_cat _) (al_1 (rf_cat _) (al_1 rfl al_n))) (Nat.le_of_ble_eq_true rfl)) (ag_1 (rf_cat _) (ag_1 (rf_cat _) (ag_1 rfl ag_n))) (fun Δ Γ B hE hnm => ?_)
  refine g_aload_n B 0 dX7_startAt_0 rfl rfl ?_
  refine g_aload_n B 1 dX7_startAt_1 rfl rfl ?_
  replace h := bnP_s h
  obtain ⟨s3, h2, h⟩ := h
  refine g_putR B fl_RX7_9 (by decide) (Or.inr ⟨_, rfl⟩) dX7_startAt_2 h2 ?_
  refine g_aload_n B 0 dX7_startAt_5 rfl rfl ?_
  refine g_iload_n B 2 dX7_startAt_6 rfl rfl ?_
  refine g_aload_n B 1 dX7_startAt_7 rfl rfl ?_
  replace h := bnP_s h
  obtain ⟨x4, h5, h⟩ := h
  refine g_alen B (κ := 22) (by decide) dX7_startAt_8 h5 ?_
  refine g_mmin B mt_RX7_15 (by decide) (Nat.le_of_ble_eq_true rfl) dX7_startAt_9 (Nat.zero_le _) (Nat.zero_le _) ?_
  replace h := bnP_s h
  obtain ⟨s8, h7, h⟩ := h
  refine g_putI B fl_RX7_21 (by decide) dX7_startAt_12 h7 ?_
  refine g_aload_n B 0 dX7_startAt_15 rfl rfl ?_
  refine g_iconst (v := 0) B dX7_startAt_16 (by decide) ?_
  replace h := bnP_s h
  obtain ⟨s11, h10, h⟩ := h
  refine g_putI B fl_RX7_25 (by decide) dX7_startAt_17 h10 ?_
  refine g_aload_n B 0 dX7_startAt_20 rfl rfl ?_
  replace h := bnP_s h
  obtain ⟨s14, h13, h⟩ := h
  refine g_callVv0 (st := []) B (cX7_stepc h13) (Nat.le_of_ble_eq_true rfl) rfl rfl mi_X7_step lk_RX7_28 ⟨Nat.le_of_ble_eq_true rfl, Nat.le_of_ble_eq_true rfl⟩ rfl rfl (Nat.le_of_ble_eq_true rfl) dX7_startAt_21 (Nat.zero_le _) (Nat.zero_le _) ?_
  replace h := Option.some.inj h
  subst h
  exact g_vret B hE (Nat.zero_le _) (Nat.zero_le _) dX7_startAt_24
set_option maxRecDepth 100000 in
set_option maxHeartbeats 4000000 in
theorem cX9_packedc {l : Launch} {v0 : Option Nat} {σ : HpT} {r : Int64} (h : fX9_packed v0 σ = some r) : Ct l yX9_packed cX9_packed 4 (some .long) 4 85 [va_rf v0] σ (.ok (some (.long r))) σ 0 0 := by
  unfold fX9_packed at h
  refine ct_start mi_X9_packed.1 rfl (al_le (al_1 (rf_cat _) al_n) (Nat.le_of_ble_eq_true rfl)) (ag_1 (rf_cat _) ag_n) (fun Δ Γ B hE hnm => ?_)
  refine g_lconst (v := 0) B dX9_packed_0 (by decide) ?_
  refine g_lstore_n B dX9_packed_1 rfl (Nat.le_of_ble_eq_true rfl) (s2_c (f2_1 rfl (rf_cat _) f2_n)) ?_
  refine g_iconst (v := 0) B dX9_packed_2 (by decide) ?_
  refine g_istore_n B dX9_packed_3 rfl (Nat.le_of_ble_eq_true rfl) (s1_c (f1_k rfl (f1_k rfl f1_n))) ?_
  replace h := bnP_s h
  obtain ⟨r2, h3, h⟩ := h
  have kE4 : GW Δ Γ (0) (0) 28 [(1, .long r2)] [] σ := by
    refine g_lload_n B 0 dX9_packed_28 rfl rfl ?_
    replace h := Option.some.inj h
    subst h
    exact g_lret B hE (Nat.zero_le _) (Nat.zero_le _) dX9_packed_29
  clear h
  refine g_sub [2, 1, 0] rfl ?_
  refine lpP_w (I := fun q1 => GW Δ Γ (0) (0) 4 [(0, va_rf v0), (1, .long q1.1), (3, .int q1.2)] [] σ) (r := r2) ?_ FUEL (0, 0) h3
  intro q1 x8 h hI6 hR7
  unfold fX9_packed_l1 at h
  refine g_iload_n B 2 dX9_packed_4 rfl rfl ?_
  refine g_aload_n B 0 dX9_packed_5 rfl rfl ?_
  replace h := bnP_s h
  obtain ⟨x10, h11, h⟩ := h
  refine g_callQs0 (st := [.int q1.2]) B (cJ0_length_8abf5c h11) rfl mi_J0_length_8abf5 lk_RX9_543 ⟨Nat.le_of_ble_eq_true rfl, Nat.le_of_ble_eq_true rfl⟩ rfl rfl (Nat.le_of_ble_eq_true rfl) dX9_packed_6 (Nat.zero_le _) (Nat.zero_le _) ?_
  refine g_icmp_ge B 28 dX9_packed_9 (by decide) (fun hc => ?_) (fun hc => ?_)
  · replace h := ifp hc h
    replace h := Option.some.inj h
    subst h
    have e8 := hR7 _ rfl
    subst e8
    exact g_sub [1] rfl kE4
  · replace h := ifn hc h
    refine g_lload_n B 1 dX9_packed_12 rfl rfl ?_
    refine g_aload_n B 0 dX9_packed_13 rfl rfl ?_
    refine g_iload_n B 2 dX9_packed_14 rfl rfl ?_
    replace h := bnP_s h
    obtain ⟨x12, h13, h⟩ := h
    refine g_callQs0 (st := [.long q1.1]) B (cJ0_charAt_5068ec h13) rfl mi_J0_charAt_5068e lk_RX9_546 ⟨Nat.le_of_ble_eq_true rfl, Nat.le_of_ble_eq_true rfl⟩ rfl rfl (Nat.le_of_ble_eq_true rfl) dX9_packed_15 (Nat.zero_le _) (Nat.zero_le _) ?_
    replace h := bnP_s h
    obtain ⟨x14, h15, h⟩ := h
    refine g_callSs0 (st := []) B (cX9_joinedc h15) mi_X9_joined lk_RX9_547 ⟨Nat.le_of_ble_eq_true rfl, Nat.le_of_ble_eq_true rfl⟩ rfl rfl (Nat.le_of_ble_eq_true rfl) dX9_packed_18 (Nat.zero_le _) (Nat.zero_le _) ?_
    refine g_lstore_n B dX9_packed_21 rfl (Nat.le_of_ble_eq_true rfl) (s2_c (f2_1 rfl (rf_cat _) (f2_x (f2_k rfl f2_n)))) ?_
    refine g_iinc (v := (q1.2 + 1)) B 2 dX9_packed_22 rfl (by first | rfl | (congr 1; decide)) (Nat.le_of_ble_eq_true rfl) (s1_c (f1_k rfl (f1_k rfl (f1_x f1_n)))) ?_
    refine g_goto B 4 dX9_packed_25 (by decide) ?_
    replace h := Option.some.inj h
    subst h
    exact g_sub [2, 1, 0] rfl (hI6 _ rfl)
set_option maxRecDepth 100000 in
set_option maxHeartbeats 4000000 in
theorem cX5_isAtWordc {l : Launch} {v0 : Option Nat} {v1 : Option Nat} {σ : HpT} {r : Bool} (h : fX5_isAtWord v0 v1 σ = some r) : IsK σ v0 5 ∧ Ct l yX5_isAtWord cX5_isAtWord 2 (some .boolean) 5 108 [va_rf v0, va_rf v1] σ (.ok (some (.int (bI r)))) σ 0 0 := by
  unfold fX5_isAtWord at h
  replace h := bnP_s h
  obtain ⟨u, hk, h⟩ := h
  replace hk := isK_s hk
  refine ⟨hk, ?_⟩
  refine ct_start mi_X5_isAtWord.1 rfl (al_le (al_1 (rf_cat _) (al_1 (rf_cat _) al_n)) (Nat.le_of_ble_eq_true rfl)) (ag_1 (rf_cat _) (ag_1 (rf_cat _) ag_n)) (fun Δ Γ B hE hnm => ?_)
  refine g_aload_n B 0 dX5_isAtWord_0 rfl rfl ?_
  replace h := bnP_s h
  obtain ⟨x1, h2, h⟩ := h
  refine g_getR B fl_RX5_12 (by decide) dX5_isAtWord_1 h2 ?_
  replace h := bnP_s h
  obtain ⟨x3, h4, h⟩ := h
  refine g_getI B fl_RX5_48 (by decide) dX5_isAtWord_4 h4 ?_
  refine g_iconst (v := 1) B dX5_isAtWord_7 (by decide) ?_
  refine g_icmp_ne B 30 dX5_isAtWord_8 (by decide) (fun hc => ?_) (fun hc => ?_)
  · replace h := ifn hc h
    refine g_iconst (v := 0) B dX5_isAtWord_30 (by decide) ?_
    replace h := Option.some.inj h
    subst h
    exact g_zret B hE rfl (Nat.zero_le _) (Nat.zero_le _) dX5_isAtWord_31
  · replace h := ifp hc h
    refine g_aload_n B 0 dX5_isAtWord_11 rfl rfl ?_
    replace h := bnP_s h
    obtain ⟨x5, h6, h⟩ := h
    refine g_getR B fl_RX5_12 (by decide) dX5_isAtWord_12 h6 ?_
    replace h := bnP_s h
    obtain ⟨x7, h8, h⟩ := h
    refine g_getJ B fl_RX5_64 (by decide) dX5_isAtWord_15 h8 ?_
    refine g_aload_n B 1 dX5_isAtWord_18 rfl rfl ?_
    replace h := bnP_s h
    obtain ⟨x9, h10, h⟩ := h
    refine g_callNSs0 (st := [.long x7]) B (cX9_packedc h10) mi_X9_packed lk_RX5_68 ⟨Nat.le_of_ble_eq_true rfl, Nat.le_of_ble_eq_true rfl⟩ rfl rfl (Nat.le_of_ble_eq_true rfl) dX5_isAtWord_19 (Nat.zero_le _) (Nat.zero_le _) ?_
    refine g_lcmp B dX5_isAtWord_22 ?_
    refine g_if_ne B 30 dX5_isAtWord_23 (by decide) (fun hc => ?_) (fun hc => ?_)
    · replace h := ifn hc h
      refine g_iconst (v := 0) B dX5_isAtWord_30 (by decide) ?_
      replace h := Option.some.inj h
      subst h
      exact g_zret B hE rfl (Nat.zero_le _) (Nat.zero_le _) dX5_isAtWord_31
    · replace h := ifp hc h
      refine g_iconst (v := 1) B dX5_isAtWord_26 (by decide) ?_
      refine g_goto B 31 dX5_isAtWord_27 (by decide) ?_
      replace h := Option.some.inj h
      subst h
      exact g_zret B hE rfl (Nat.zero_le _) (Nat.zero_le _) dX5_isAtWord_31
set_option maxRecDepth 100000 in
set_option maxHeartbeats 4000000 in
theorem cX5_checkNumberc {l : Launch} {v0 : Option Nat} {v1 : Int32} {v2 : Int32} {σ : HpT} {r : Bool} {σ' : HpT} (h : fX5_checkNumber v0 v1 v2 σ = some (r, σ')) : IsK σ v0 5 ∧ Ct l yX5_checkNumber cX5_checkNumber 3 (some .boolean) 1 21 [va_rf v0, .int v1, .int v2] σ (.ok (some (.int (bI r)))) σ' 0 0 := by
  unfold fX5_checkNumber at h
  replace h := bnP_s h
  obtain ⟨u, hk, h⟩ := h
  replace hk := isK_s hk
  refine ⟨hk, ?_⟩
  refine ct_start mi_X5_checkNumber.1 rfl (al_le (al_1 (rf_cat _) (al_1 rfl (al_1 rfl al_n))) (Nat.le_of_ble_eq_true rfl)) (ag_1 (rf_cat _) (ag_1 rfl (ag_1 rfl ag_n))) (fun Δ Γ B hE hnm => ?_)
  refine g_aload_n B 0 dX5_checkNumber_0 rfl rfl ?_
  replace h := bnP_s h
  obtain ⟨x1, h2, h⟩ := h
  refine g_getR B fl_RX5_12 (by decide) dX5_checkNumber_1 h2 ?_
  replace h := bnP_s h
  obtain ⟨x3, h4, h⟩ := h
  refine g_getI B fl_RX5_48 (by decide) dX5_checkNumber_4 h4 ?_
  refine g_iconst (v := 2) B dX5_checkNumber_7 (by decide) ?_
  refine g_icmp_eq B 17 dX5_checkNumber_8 (by decide) (fun hc => ?_) (fun hc => ?_)
  · replace h := ifp hc h
    refine g_aload_n B 0 dX5_checkNumber_17 rfl rfl ?_
    replace h := bnP_s h
    obtain ⟨x5, h6, h⟩ := h
    refine g_getR B fl_RX5_12 (by decide) dX5_checkNumber_18 h6 ?_
    replace h := bnP_s h
    obtain ⟨x7, h8, h⟩ := h
    refine g_getI B fl_RX5_72 (by decide) dX5_checkNumber_21 h8 ?_
    refine g_iload_n B 1 dX5_checkNumber_24 rfl rfl ?_
    refine g_icmp_lt B 39 dX5_checkNumber_25 (by decide) (fun hc => ?_) (fun hc => ?_)
    · replace h := ifp hc h
      refine g_aload_n B 0 dX5_checkNumber_39 rfl rfl ?_
      refine g_iconst (v := 2) B dX5_checkNumber_40 (by decide) ?_
      replace h := bnS_s h
      obtain ⟨x9, s11, h10, h⟩ := h
      refine g_callVs0 (st := []) B (cX5_failc h10) (Nat.le_of_ble_eq_true rfl) rfl rfl mi_X5_fail lk_RX5_51 ⟨Nat.le_of_ble_eq_true rfl, Nat.le_of_ble_eq_true rfl⟩ rfl rfl (Nat.le_of_ble_eq_true rfl) dX5_checkNumber_41 (Nat.zero_le _) (Nat.zero_le _) ?_
      refine g_if_eq B 51 dX5_checkNumber_44 (by decide) (fun hc => ?_) (fun hc => ?_)
      · replace h := ifn (bI0 hc) h
        refine g_iconst (v := 0) B dX5_checkNumber_51 (by decide) ?_
        obtain ⟨w1, w2⟩ := inS h
        clear h
        subst w1
        subst w2
        exact g_zret B hE rfl (Nat.zero_le _) (Nat.zero_le _) dX5_checkNumber_52
      · replace h := ifp (bI1 hc) h
        refine g_iconst (v := 1) B dX5_checkNumber_47 (by decide) ?_
        refine g_goto B 52 dX5_checkNumber_48 (by decide) ?_
        obtain ⟨w1, w2⟩ := inS h
        clear h
        subst w1
        subst w2
        exact g_zret B hE rfl (Nat.zero_le _) (Nat.zero_le _) dX5_checkNumber_52
    · replace h := ifn hc h
      refine g_aload_n B 0 dX5_checkNumber_28 rfl rfl ?_
      replace h := bnP_s h
      obtain ⟨x12, h13, h⟩ := h
      refine g_getR B fl_RX5_12 (by decide) dX5_checkNumber_29 h13 ?_
      replace h := bnP_s h
      obtain ⟨x14, h15, h⟩ := h
      refine g_getI B fl_RX5_72 (by decide) dX5_checkNumber_32 h15 ?_
      refine g_iload_n B 2 dX5_checkNumber_35 rfl rfl ?_
      refine g_icmp_le B 47 dX5_checkNumber_36 (by decide) (fun hc => ?_) (fun hc => ?_)
      · replace h := ifp hc h
        refine g_iconst (v := 1) B dX5_checkNumber_47 (by decide) ?_
        refine g_goto B 52 dX5_checkNumber_48 (by decide) ?_
        obtain ⟨w1, w2⟩ := inS h
        clear h
        subst w1
        subst w2
        exact g_zret B hE rfl (Nat.zero_le _) (Nat.zero_le _) dX5_checkNumber_52
      · replace h := ifn hc h
        refine g_aload_n B 0 dX5_checkNumber_39 rfl rfl ?_
        refine g_iconst (v := 2) B dX5_checkNumber_40 (by decide) ?_
        replace h := bnS_s h
        obtain ⟨x16, s18, h17, h⟩ := h
        refine g_callVs0 (st := []) B (cX5_failc h17) (Nat.le_of_ble_eq_true rfl) rfl rfl mi_X5_fail lk_RX5_51 ⟨Nat.le_of_ble_eq_true rfl, Nat.le_of_ble_eq_true rfl⟩ rfl rfl (Nat.le_of_ble_eq_true rfl) dX5_checkNumber_41 (Nat.zero_le _) (Nat.zero_le _) ?_
        refine g_if_eq B 51 dX5_checkNumber_44 (by decide) (fun hc => ?_) (fun hc => ?_)
        · replace h := ifn (bI0 hc) h
          refine g_iconst (v := 0) B dX5_checkNumber_51 (by decide) ?_
          obtain ⟨w1, w2⟩ := inS h
          clear h
          subst w1
          subst w2
          exact g_zret B hE rfl (Nat.zero_le _) (Nat.zero_le _) dX5_checkNumber_52
        · replace h := ifp (bI1 hc) h
          refine g_iconst (v := 1) B dX5_checkNumber_47 (by decide) ?_
          refine g_goto B 52 dX5_checkNumber_48 (by decide) ?_
          obtain ⟨w1, w2⟩ := inS h
          clear h
          subst w1
          subst w2
          exact g_zret B hE rfl (Nat.zero_le _) (Nat.zero_le _) dX5_checkNumber_52
  · replace h := ifn hc h
    refine g_aload_n B 0 dX5_checkNumber_11 rfl rfl ?_
    refine g_iconst (v := 1) B dX5_checkNumber_12 (by decide) ?_
    replace h := bnS_s h
    obtain ⟨x19, s21, h20, h⟩ := h
    refine g_callVs0 (st := []) B (cX5_failc h20) (Nat.le_of_ble_eq_true rfl) rfl rfl mi_X5_fail lk_RX5_51 ⟨Nat.le_of_ble_eq_true rfl, Nat.le_of_ble_eq_true rfl⟩ rfl rfl (Nat.le_of_ble_eq_true rfl) dX5_checkNumber_13 (Nat.zero_le _) (Nat.zero_le _) ?_
    obtain ⟨w1, w2⟩ := inS h
    clear h
    subst w1
    subst w2
    exact g_zret B hE (nar_bI _) (Nat.zero_le _) (Nat.zero_le _) dX5_checkNumber_16
set_option maxRecDepth 100000 in
set_option maxHeartbeats 4000000 in
theorem cX5_checkNextNumberc {l : Launch} {v0 : Option Nat} {v1 : Int32} {v2 : Int32} {σ : HpT} {r : Bool} {σ' : HpT} (h : fX5_checkNextNumber v0 v1 v2 σ = some (r, σ')) : IsK σ v0 5 ∧ Ct l yX5_checkNextNumber cX5_checkNextNumber 3 (some .boolean) 3 62 [va_rf v0, .int v1, .int v2] σ (.ok (some (.int (bI r)))) σ' 0 0 := by
  unfold fX5_checkNextNumber at h
  replace h := bnP_s h
  obtain ⟨u, hk, h⟩ := h
  replace hk := isK_s hk
  refine ⟨hk, ?_⟩
  refine ct_start mi_X5_checkNextNumber.1 rfl (al_le (al_1 (rf_cat _) (al_1 rfl (al_1 rfl al_n))) (Nat.le_of_ble_eq_true rfl)) (ag_1 (rf_cat _) (ag_1 rfl (ag_1 rfl ag_n))) (fun Δ Γ B hE hnm => ?_)
  refine g_aload_n B 0 dX5_checkNextNumber_0 rfl rfl ?_
  replace h := bnP_s h
  obtain ⟨x1, h2, h⟩ := h
  refine g_getR B fl_RX5_12 (by decide) dX5_checkNextNumber_1 h2 ?_
  replace h := bnP_s h
  obtain ⟨s5, h4, h⟩ := h
  refine g_callVv0 (st := []) B (cX7_stepc h4) (Nat.le_of_ble_eq_true rfl) rfl rfl mi_X7_step lk_RX5_55 ⟨Nat.le_of_ble_eq_true rfl, Nat.le_of_ble_eq_true rfl⟩ rfl rfl (Nat.le_of_ble_eq_true rfl) dX5_checkNextNumber_4 (Nat.zero_le _) (Nat.zero_le _) ?_
  refine g_aload_n B 0 dX5_checkNextNumber_7 rfl rfl ?_
  refine g_iload_n B 1 dX5_checkNextNumber_8 rfl rfl ?_
  refine g_iload_n B 2 dX5_checkNextNumber_9 rfl rfl ?_
  replace h := bnS_s h
  obtain ⟨x6, s8, h7, h⟩ := h
  refine g_callVs0 (st := []) B (cX5_checkNumberc h7) (Nat.le_of_ble_eq_true rfl) rfl rfl mi_X5_checkNumber lk_RX5_75 ⟨Nat.le_of_ble_eq_true rfl, Nat.le_of_ble_eq_true rfl⟩ rfl rfl (Nat.le_of_ble_eq_true rfl) dX5_checkNextNumber_10 (Nat.zero_le _) (Nat.zero_le _) ?_
  obtain ⟨w1, w2⟩ := inS h
  clear h
  subst w1
  subst w2
  exact g_zret B hE (nar_bI _) (Nat.zero_le _) (Nat.zero_le _) dX5_checkNextNumber_13
set_option maxRecDepth 100000 in
set_option maxHeartbeats 4000000 in
theorem cX5_finishLinec {l : Launch} {v0 : Option Nat} {σ : HpT} {r : Bool} {σ' : HpT} (h : fX5_finishLine v0 σ = some (r, σ')) : IsK σ v0 5 ∧ Ct l yX5_finishLine cX5_finishLine 1 (some .boolean) 3 62 [va_rf v0] σ (.ok (some (.int (bI r)))) σ' 0 0 := by
  unfold fX5_finishLine at h
  replace h := bnP_s h
  obtain ⟨u, hk, h⟩ := h
  replace hk := isK_s hk
  refine ⟨hk, ?_⟩
  refine ct_start mi_X5_finishLine.1 rfl (al_le (al_1 (rf_cat _) al_n) (Nat.le_of_ble_eq_true rfl)) (ag_1 (rf_cat _) ag_n) (fun Δ Γ B hE hnm => ?_)
  refine g_aload_n B 0 dX5_finishLine_0 rfl rfl ?_
  replace h := bnP_s h
  obtain ⟨x1, h2, h⟩ := h
  refine g_getR B fl_RX5_12 (by decide) dX5_finishLine_1 h2 ?_
  replace h := bnP_s h
  obtain ⟨s5, h4, h⟩ := h
  refine g_callVv0 (st := []) B (cX7_stepc h4) (Nat.le_of_ble_eq_true rfl) rfl rfl mi_X7_step lk_RX5_55 ⟨Nat.le_of_ble_eq_true rfl, Nat.le_of_ble_eq_true rfl⟩ rfl rfl (Nat.le_of_ble_eq_true rfl) dX5_finishLine_4 (Nat.zero_le _) (Nat.zero_le _) ?_
  refine g_iconst (v := 1) B dX5_finishLine_7 (by decide) ?_
  obtain ⟨w1, w2⟩ := inS h
  clear h
  subst w1
  subst w2
  exact g_zret B hE rfl (Nat.zero_le _) (Nat.zero_le _) dX5_finishLine_8
set_option maxRecDepth 100000 in
set_option maxHeartbeats 4000000 in
theorem cX5_readHeadc {l : Launch} {v0 : Option Nat} {σ : HpT} {r : Bool} {σ' : HpT} (h : fX5_readHead v0 σ = some (r, σ')) : IsK σ v0 5 ∧ Ct l yX5_readHead cX5_readHead 1 (some .boolean) 6 129 [va_rf v0] σ (.ok (some (.int (bI r)))) σ' 0 0 := by
  unfold fX5_readHead at h
  replace h := bnP_s h
  obtain ⟨u, hk, h⟩ := h
  replace hk := isK_s hk
  refine ⟨hk, ?_⟩
  refine ct_start mi_X5_readHead.1 rfl (al_le (al_1 (rf_cat _) al_n) (Nat.le_of_ble_eq_true rfl)) (ag_1 (rf_cat _) ag_n) (fun Δ Γ B hE hnm => ?_)
  refine g_aload_n B 0 dX5_readHead_0 rfl rfl ?_
  refine g_ldcS B (j := 1) rfl dX5_readHead_1 ?_
  replace h := bnP_s h
  obtain ⟨x1, h2, h⟩ := h
  refine g_callVs0 (st := []) B (cX5_isAtWordc h2) (Nat.le_of_ble_eq_true rfl) rfl rfl mi_X5_isAtWord lk_RX5_80 ⟨Nat.le_of_ble_eq_true rfl, Nat.le_of_ble_eq_true rfl⟩ rfl rfl (Nat.le_of_ble_eq_true rfl) dX5_readHead_3 (Nat.zero_le _) (Nat.zero_le _) ?_
  refine g_if_ne B 15 dX5_readHead_6 (by decide) (fun hc => ?_) (fun hc => ?_)
  · replace h := ifp (bI1 hc) h
    refine g_aload_n B 0 dX5_readHead_15 rfl rfl ?_
    refine g_iconst (v := 4) B dX5_readHead_16 (by decide) ?_
    refine g_bipush (v := 20) B dX5_readHead_17 (by decide) ?_
    replace h := bnS_s h
    obtain ⟨x3, s5, h4, h⟩ := h
    refine g_callVs0 (st := []) B (cX5_checkNextNumberc h4) (Nat.le_of_ble_eq_true rfl) rfl rfl mi_X5_checkNextNumber lk_RX5_84 ⟨Nat.le_of_ble_eq_true rfl, Nat.le_of_ble_eq_true rfl⟩ rfl rfl (Nat.le_of_ble_eq_true rfl) dX5_readHead_19 (Nat.zero_le _) (Nat.zero_le _) ?_
    refine g_if_ne B 27 dX5_readHead_22 (by decide) (fun hc => ?_) (fun hc => ?_)
    · replace h := ifp (bI1 hc) h
      refine g_aload_n B 0 dX5_readHead_27 rfl rfl ?_
      replace h := bnP_s h
      obtain ⟨x6, h7, h⟩ := h
      refine g_getR B fl_RX5_28 (by decide) dX5_readHead_28 h7 ?_
      refine g_aload_n B 0 dX5_readHead_31 rfl rfl ?_
      replace h := bnP_s h
      obtain ⟨x8, h9, h⟩ := h
      refine g_getR B fl_RX5_12 (by decide) dX5_readHead_32 h9 ?_
      replace h := bnP_s h
      obtain ⟨x10, h11, h⟩ := h
      refine g_getI B fl_RX5_72 (by decide) dX5_readHead_35 h11 ?_
      replace h := bnP_s h
      obtain ⟨s14, h13, h⟩ := h
      refine g_putI B fl_RX5_87 (by decide) dX5_readHead_38 h13 ?_
      refine g_aload_n B 0 dX5_readHead_41 rfl rfl ?_
      refine g_iconst (v := 0) B dX5_readHead_42 (by decide) ?_
      refine g_iconst (v := 4) B dX5_readHead_43 (by decide) ?_
      replace h := bnS_s h
      obtain ⟨x15, s17, h16, h⟩ := h
      refine g_callVs0 (st := []) B (cX5_checkNextNumberc h16) (Nat.le_of_ble_eq_true rfl) rfl rfl mi_X5_checkNextNumber lk_RX5_84 ⟨Nat.le_of_ble_eq_true rfl, Nat.le_of_ble_eq_true rfl⟩ rfl rfl (Nat.le_of_ble_eq_true rfl) dX5_readHead_44 (Nat.zero_le _) (Nat.zero_le _) ?_
      refine g_if_ne B 52 dX5_readHead_47 (by decide) (fun hc => ?_) (fun hc => ?_)
      · replace h := ifp (bI1 hc) h
        refine g_aload_n B 0 dX5_readHead_52 rfl rfl ?_
        replace h := bnP_s h
        obtain ⟨x18, h19, h⟩ := h
        refine g_getR B fl_RX5_28 (by decide) dX5_readHead_53 h19 ?_
        refine g_aload_n B 0 dX5_readHead_56 rfl rfl ?_
        replace h := bnP_s h
        obtain ⟨x20, h21, h⟩ := h
        refine g_getR B fl_RX5_12 (by decide) dX5_readHead_57 h21 ?_
        replace h := bnP_s h
        obtain ⟨x22, h23, h⟩ := h
        refine g_getI B fl_RX5_72 (by decide) dX5_readHead_60 h23 ?_
        replace h := bnP_s h
        obtain ⟨s26, h25, h⟩ := h
        refine g_putI B fl_RX5_90 (by decide) dX5_readHead_63 h25 ?_
        refine g_aload_n B 0 dX5_readHead_66 rfl rfl ?_
        refine g_iconst (v := 2) B dX5_readHead_67 (by decide) ?_
        refine g_iconst (v := 4) B dX5_readHead_68 (by decide) ?_
        replace h := bnS_s h
        obtain ⟨x27, s29, h28, h⟩ := h
        refine g_callVs0 (st := []) B (cX5_checkNextNumberc h28) (Nat.le_of_ble_eq_true rfl) rfl rfl mi_X5_checkNextNumber lk_RX5_84 ⟨Nat.le_of_ble_eq_true rfl, Nat.le_of_ble_eq_true rfl⟩ rfl rfl (Nat.le_of_ble_eq_true rfl) dX5_readHead_69 (Nat.zero_le _) (Nat.zero_le _) ?_
        refine g_if_ne B 77 dX5_readHead_72 (by decide) (fun hc => ?_) (fun hc => ?_)
        · replace h := ifp (bI1 hc) h
          refine g_aload_n B 0 dX5_readHead_77 rfl rfl ?_
          replace h := bnP_s h
          obtain ⟨x30, h31, h⟩ := h
          refine g_getR B fl_RX5_28 (by decide) dX5_readHead_78 h31 ?_
          replace h := bnP_s h
          obtain ⟨x32, h33, h⟩ := h
          refine g_getRg B fl_RX5_93 (by decide) dX5_readHead_81 h33 ?_
          refine g_aload_n B 0 dX5_readHead_84 rfl rfl ?_
          replace h := bnP_s h
          obtain ⟨x34, h35, h⟩ := h
          refine g_getR B fl_RX5_12 (by decide) dX5_readHead_85 h35 ?_
          replace h := bnP_s h
          obtain ⟨x36, h37, h⟩ := h
          refine g_getI B fl_RX5_72 (by decide) dX5_readHead_88 h37 ?_
          replace h := bnP_s h
          obtain ⟨s40, h39, h⟩ := h
          refine g_putI B fl_RX5_97 (by decide) dX5_readHead_91 h39 ?_
          refine g_aload_n B 0 dX5_readHead_94 rfl rfl ?_
          replace h := bnS_s h
          obtain ⟨x41, s43, h42, h⟩ := h
          refine g_callVs0 (st := []) B (cX5_finishLinec h42) (Nat.le_of_ble_eq_true rfl) rfl rfl mi_X5_finishLine lk_RX5_102 ⟨Nat.le_of_ble_eq_true rfl, Nat.le_of_ble_eq_true rfl⟩ rfl rfl (Nat.le_of_ble_eq_true rfl) dX5_readHead_95 (Nat.zero_le _) (Nat.zero_le _) ?_
          obtain ⟨w1, w2⟩ := inS h
          clear h
          subst w1
          subst w2
          exact g_zret B hE (nar_bI _) (Nat.zero_le _) (Nat.zero_le _) dX5_readHead_98
        · replace h := ifn (bI0 hc) h
          refine g_iconst (v := 0) B dX5_readHead_75 (by decide) ?_
          obtain ⟨w1, w2⟩ := inS h
          clear h
          subst w1
          subst w2
          exact g_zret B hE rfl (Nat.zero_le _) (Nat.zero_le _) dX5_readHead_76
      · replace h := ifn (bI0 hc) h
        refine g_iconst (v := 0) B dX5_readHead_50 (by decide) ?_
        obtain ⟨w1, w2⟩ := inS h
        clear h
        subst w1
        subst w2
        exact g_zret B hE rfl (Nat.zero_le _) (Nat.zero_le _) dX5_readHead_51
    · replace h := ifn (bI0 hc) h
      refine g_iconst (v := 0) B dX5_readHead_25 (by decide) ?_
      obtain ⟨w1, w2⟩ := inS h
      clear h
      subst w1
      subst w2
      exact g_zret B hE rfl (Nat.zero_le _) (Nat.zero_le _) dX5_readHead_26
  · replace h := ifn (bI0 hc) h
    refine g_aload_n B 0 dX5_readHead_9 rfl rfl ?_
    refine g_iconst (v := 1) B dX5_readHead_10 (by decide) ?_
    replace h := bnS_s h
    obtain ⟨x44, s46, h45, h⟩ := h
    refine g_callVs0 (st := []) B (cX5_failc h45) (Nat.le_of_ble_eq_true rfl) rfl rfl mi_X5_fail lk_RX5_51 ⟨Nat.le_of_ble_eq_true rfl, Nat.le_of_ble_eq_true rfl⟩ rfl rfl (Nat.le_of_ble_eq_true rfl) dX5_readHead_11 (Nat.zero_le _) (Nat.zero_le _) ?_
    obtain ⟨w1, w2⟩ := inS h
    clear h
    subst w1
    subst w2
    exact g_zret B hE (nar_bI _) (Nat.zero_le _) (Nat.zero_le _) dX5_readHead_14
