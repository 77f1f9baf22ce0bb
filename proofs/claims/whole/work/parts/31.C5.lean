theorem mi_X9_act : MI yX9_act cX9_act 4 (some .int) 2 := ⟨by decide +kernel, (mw (i := 1148) (by decide +kernel) rfl), (mw (i := 162) (by decide +kernel) rfl), by decide +kernel, by decide +kernel⟩
theorem mi_X9_append : MI yX9_append cX9_append 6 (some .int) 5 := ⟨by decide +kernel, (mw (i := 590) (by decide +kernel) rfl), (mw (i := 162) (by decide +kernel) rfl), by decide +kernel, by decide +kernel⟩
theorem mi_X9_buffered : MI yX9_buffered cX9_buffered 1 (some .int) 0 := ⟨by decide +kernel, (mw (i := 606) (by decide +kernel) rfl), (mw (i := 162) (by decide +kernel) rfl), by decide +kernel, by decide +kernel⟩
theorem mi_X9_clause : MI yX9_clause cX9_clause 6 (some .int) 3 := ⟨by decide +kernel, (mw (i := 1213) (by decide +kernel) rfl), (mw (i := 162) (by decide +kernel) rfl), by decide +kernel, by decide +kernel⟩
theorem mi_X9_copy : MI yX9_copy cX9_copy 4 (some .int) 2 := ⟨by decide +kernel, (mw (i := 1255) (by decide +kernel) rfl), (mw (i := 162) (by decide +kernel) rfl), by decide +kernel, by decide +kernel⟩
theorem mi_X9_count : MI yX9_count cX9_count 2 (some .int) 1 := ⟨by decide +kernel, (mw (i := 1096) (by decide +kernel) rfl), (mw (i := 162) (by decide +kernel) rfl), by decide +kernel, by decide +kernel⟩
theorem mi_X9_errorPosition : MI yX9_errorPosition cX9_errorPosition 1 (some .int) 0 := ⟨by decide +kernel, (mw (i := 602) (by decide +kernel) rfl), (mw (i := 162) (by decide +kernel) rfl), by decide +kernel, by decide +kernel⟩
theorem mi_X9_firstUnknown : MI yX9_firstUnknown cX9_firstUnknown 4 (some .int) 1 := ⟨by decide +kernel, (mw (i := 1287) (by decide +kernel) rfl), (mw (i := 162) (by decide +kernel) rfl), by decide +kernel, by decide +kernel⟩
theorem mi_X9_forgetPast : MI yX9_forgetPast cX9_forgetPast 1 none 0 := ⟨by decide +kernel, (mw (i := 1088) (by decide +kernel) rfl), (mw (i := 162) (by decide +kernel) rfl), by decide +kernel, by decide +kernel⟩
theorem mi_X9_gap : MI yX9_gap cX9_gap 1 (some .int) 0 := ⟨by decide +kernel, (mw (i := 1294) (by decide +kernel) rfl), (mw (i := 162) (by decide +kernel) rfl), by decide +kernel, by decide +kernel⟩
theorem mi_X9_has : MI yX9_has cX9_has 5 (some .boolean) 2 := ⟨by decide +kernel, (mw (i := 1272) (by decide +kernel) rfl), (mw (i := 162) (by decide +kernel) rfl), by decide +kernel, by decide +kernel⟩
theorem mi_X9_init : MI yX9_init cX9_init 1 none 0 := ⟨by decide +kernel, (mw (i := 196) (by decide +kernel) rfl), (mw (i := 162) (by decide +kernel) rfl), by decide +kernel, by decide +kernel⟩
theorem mi_X9_innerLetter : MI yX9_innerLetter cX9_innerLetter 6 (some .int) 4 := ⟨by decide +kernel, (mw (i := 1202) (by decide +kernel) rfl), (mw (i := 162) (by decide +kernel) rfl), by decide +kernel, by decide +kernel⟩
theorem mi_X9_known : MI yX9_known cX9_known 3 (some .int) 1 := ⟨by decide +kernel, (mw (i := 1280) (by decide +kernel) rfl), (mw (i := 162) (by decide +kernel) rfl), by decide +kernel, by decide +kernel⟩
theorem mi_X9_leaf : MI yX9_leaf cX9_leaf 3 (some .int) 2 := ⟨by decide +kernel, (mw (i := 1223) (by decide +kernel) rfl), (mw (i := 162) (by decide +kernel) rfl), by decide +kernel, by decide +kernel⟩
theorem mi_X9_letter : MI yX9_letter cX9_letter 5 (some .int) 3 := ⟨by decide +kernel, (mw (i := 1192) (by decide +kernel) rfl), (mw (i := 162) (by decide +kernel) rfl), by decide +kernel, by decide +kernel⟩
theorem mi_X9_load : MI yX9_load cX9_load 5 (some .int) 1 := ⟨by decide +kernel, (mw (i := 619) (by decide +kernel) rfl), (mw (i := 162) (by decide +kernel) rfl), by decide +kernel, by decide +kernel⟩
theorem mi_X9_parseError : MI yX9_parseError cX9_parseError 1 (some .int) 0 := ⟨by decide +kernel, (mw (i := 598) (by decide +kernel) rfl), (mw (i := 162) (by decide +kernel) rfl), by decide +kernel, by decide +kernel⟩
theorem mi_X9_putFourBytes : MI yX9_putFourBytes cX9_putFourBytes 3 none 1 := ⟨by decide +kernel, (mw (i := 594) (by decide +kernel) rfl), (mw (i := 162) (by decide +kernel) rfl), by decide +kernel, by decide +kernel⟩
theorem mi_X9_requireAct : MI yX9_requireAct cX9_requireAct 2 (some (.object "NotaryBook$Act")) 1 := ⟨by decide +kernel, (mw (i := 1152) (by decide +kernel) rfl), (mw (i := 162) (by decide +kernel) rfl), by decide +kernel, by decide +kernel⟩
theorem mi_X9_requireBook : MI yX9_requireBook cX9_requireBook 1 none 0 := ⟨by decide +kernel, (mw (i := 1100) (by decide +kernel) rfl), (mw (i := 162) (by decide +kernel) rfl), by decide +kernel, by decide +kernel⟩
theorem mi_X9_requireBytes : MI yX9_requireBytes cX9_requireBytes 2 none 1 := ⟨by decide +kernel, (mw (i := 623) (by decide +kernel) rfl), (mw (i := 162) (by decide +kernel) rfl), by decide +kernel, by decide +kernel⟩
theorem mi_X9_requireCopy : MI yX9_requireCopy cX9_requireCopy 2 (some (.object "NotaryBook$Copy")) 1 := ⟨by decide +kernel, (mw (i := 1259) (by decide +kernel) rfl), (mw (i := 162) (by decide +kernel) rfl), by decide +kernel, by decide +kernel⟩
theorem mi_X9_requireLeaf : MI yX9_requireLeaf cX9_requireLeaf 2 none 1 := ⟨by decide +kernel, (mw (i := 1227) (by decide +kernel) rfl), (mw (i := 162) (by decide +kernel) rfl), by decide +kernel, by decide +kernel⟩
theorem mi_X9_requireUpTo : MI yX9_requireUpTo cX9_requireUpTo 2 none 2 := ⟨by decide +kernel, (mw (i := 1119) (by decide +kernel) rfl), (mw (i := 162) (by decide +kernel) rfl), by decide +kernel, by decide +kernel⟩
theorem mi_X9_requireWord : MI yX9_requireWord cX9_requireWord 2 (some .int) 2 := ⟨by decide +kernel, (mw (i := 1177) (by decide +kernel) rfl), (mw (i := 162) (by decide +kernel) rfl), by decide +kernel, by decide +kernel⟩
theorem mi_X9_whyNotSeal : MI yX9_whyNotSeal cX9_whyNotSeal 3 (some .int) 2 := ⟨by decide +kernel, (mw (i := 1325) (by decide +kernel) rfl), (mw (i := 162) (by decide +kernel) rfl), by decide +kernel, by decide +kernel⟩
theorem mi_X9_word : MI yX9_word cX9_word 7 (some .int) 3 := ⟨by decide +kernel, (mw (i := 1174) (by decide +kernel) rfl), (mw (i := 162) (by decide +kernel) rfl), by decide +kernel, by decide +kernel⟩
theorem fl_RX9_9 : Fl RX9 9 9 0 (.array .byte) true := ⟨RX9, TX9, 15, tyX9, rfl, by decide, rfl, lay_9, (mw (i := 541) (by decide +kernel) rfl), tyX9_ok, nmX9, tyX9_ok 0 (by decide), rfl, by decide, fun _ => rfl⟩
theorem fl_RX9_13 : Fl RX9 13 9 3 .int false := ⟨RX9, TX9, 15, tyX9, rfl, by decide, rfl, lay_9, (mw (i := 544) (by decide +kernel) rfl), tyX9_ok, nmX9, tyX9_ok 3 (by decide), rfl, by decide, by decide⟩
theorem fl_RX9_20 : Fl RX9 20 9 5 (.object "NotaryBook$Book") false := ⟨RX9, TX9, 15, tyX9, rfl, by decide, rfl, lay_9, (mw (i := 546) (by decide +kernel) rfl), tyX9_ok, nmX9, tyX9_ok 5 (by decide), rfl, by decide, by decide⟩
theorem fl_RX9_24 : Fl RX9 24 9 6 (.object "NotaryBook$Book") false := ⟨RX9, TX9, 15, tyX9, rfl, by decide, rfl, lay_9, (mw (i := 547) (by decide +kernel) rfl), tyX9_ok, nmX9, tyX9_ok 6 (by decide), rfl, by decide, by decide⟩
theorem fl_RX9_30 : Fl RX9 30 9 7 (.object "NotaryBook$Parser") true := ⟨RX9, TX9, 15, tyX9, rfl, by decide, rfl, lay_9, (mw (i := 548) (by decide +kernel) rfl), tyX9_ok, nmX9, tyX9_ok 7 (by decide), rfl, by decide, fun _ => rfl⟩
theorem fl_RX9_34 : Fl RX9 34 9 8 (.array (.object "NotaryBook$Book")) true := ⟨RX9, TX9, 15, tyX9, rfl, by decide, rfl, lay_9, (mw (i := 549) (by decide +kernel) rfl), tyX9_ok, nmX9, tyX9_ok 8 (by decide), rfl, by decide, fun _ => rfl⟩
theorem fl_RX9_38 : Fl RX9 38 9 11 (.array (.object "NotaryBook$Book")) true := ⟨RX9, TX9, 15, tyX9, rfl, by decide, rfl, lay_9, (mw (i := 552) (by decide +kernel) rfl), tyX9_ok, nmX9, tyX9_ok 11 (by decide), rfl, by decide, fun _ => rfl⟩
theorem fl_RX9_41 : Fl RX9 41 9 12 (.array .boolean) true := ⟨RX9, TX9, 15, tyX9, rfl, by decide, rfl, lay_9, (mw (i := 553) (by decide +kernel) rfl), tyX9_ok, nmX9, tyX9_ok 12 (by decide), rfl, by decide, fun _ => rfl⟩
theorem fl_RX9_48 : Fl RX9 48 9 13 (.object "NotaryBook$Leaves") true := ⟨RX9, TX9, 15, tyX9, rfl, by decide, rfl, lay_9, (mw (i := 554) (by decide +kernel) rfl), tyX9_ok, nmX9, tyX9_ok 13 (by decide), rfl, by decide, fun _ => rfl⟩
theorem fl_RX9_55 : Fl RX9 55 9 14 (.object "NotaryBook$Pen") true := ⟨RX9, TX9, 15, tyX9, rfl, by decide, rfl, lay_9, (mw (i := 555) (by decide +kernel) rfl), tyX9_ok, nmX9, tyX9_ok 14 (by decide), rfl, by decide, fun _ => rfl⟩
theorem fl_RX9_59 : Fl RX9 59 9 1 .int false := ⟨RX9, TX9, 15, tyX9, rfl, by decide, rfl, lay_9, (mw (i := 542) (by decide +kernel) rfl), tyX9_ok, nmX9, tyX9_ok 1 (by decide), rfl, by decide, by decide⟩
theorem fl_RX9_73 : Fl RX9 73 5 0 .int false := ⟨RX5, TX5, 5, tyX5, rfl, by decide, rfl, lay_5, (mw (i := 477) (by decide +kernel) rfl), tyX5_ok, nmX5, tyX5_ok 0 (by decide), rfl, by decide, by decide⟩
theorem fl_RX9_76 : Fl RX9 76 9 2 .int false := ⟨RX9, TX9, 15, tyX9, rfl, by decide, rfl, lay_9, (mw (i := 543) (by decide +kernel) rfl), tyX9_ok, nmX9, tyX9_ok 2 (by decide), rfl, by decide, by decide⟩
theorem fl_RX9_77 : Fl RX9 77 5 1 .int false := ⟨RX5, TX5, 5, tyX5, rfl, by decide, rfl, lay_5, (mw (i := 479) (by decide +kernel) rfl), tyX5_ok, nmX5, tyX5_ok 1 (by decide), rfl, by decide, by decide⟩
theorem fl_RX9_85 : Fl RX9 85 9 4 .boolean false := ⟨RX9, TX9, 15, tyX9, rfl, by decide, rfl, lay_9, (mw (i := 545) (by decide +kernel) rfl), tyX9_ok, nmX9, tyX9_ok 4 (by decide), rfl, by decide, by decide⟩
theorem fl_RX9_92 : Fl RX9 92 1 2 .int false := ⟨RX1, TX1, 12, tyX1, rfl, by decide, rfl, lay_1, (mw (i := 390) (by decide +kernel) rfl), tyX1_ok, nmX1, tyX1_ok 2 (by decide), rfl, by decide, by decide⟩
theorem fl_RX9_102 : Fl RX9 102 1 0 .int false := ⟨RX1, TX1, 12, tyX1, rfl, by decide, rfl, lay_1, (mw (i := 384) (by decide +kernel) rfl), tyX1_ok, nmX1, tyX1_ok 0 (by decide), rfl, by decide, by decide⟩
theorem fl_RX9_105 : Fl RX9 105 1 1 .int false := ⟨RX1, TX1, 12, tyX1, rfl, by decide, rfl, lay_1, (mw (i := 387) (by decide +kernel) rfl), tyX1_ok, nmX1, tyX1_ok 1 (by decide), rfl, by decide, by decide⟩
theorem fl_RX9_108 : Fg RX9 108 1 9 := ⟨RX1, TX1, 12, rfl, by decide, rfl, lay_1, (mw (i := 406) (by decide +kernel) rfl)⟩
theorem fl_RX9_111 : Fl RX9 111 4 0 .int false := ⟨RX4, TX4, 4, tyX4, rfl, by decide, rfl, lay_4, (mw (i := 263) (by decide +kernel) rfl), tyX4_ok, nmX4, tyX4_ok 0 (by decide), rfl, by decide, by decide⟩
theorem fl_RX9_114 : Fg RX9 114 1 8 := ⟨RX1, TX1, 12, rfl, by decide, rfl, lay_1, (mw (i := 403) (by decide +kernel) rfl)⟩
theorem fl_RX9_118 : Fl RX9 118 8 0 .int false := ⟨RX8, TX8, 7, tyX8, rfl, by decide, rfl, lay_8, (mw (i := 218) (by decide +kernel) rfl), tyX8_ok, nmX8, tyX8_ok 0 (by decide), rfl, by decide, by decide⟩
theorem fl_RX9_123 : Fl RX9 123 4 1 .int false := ⟨RX4, TX4, 4, tyX4, rfl, by decide, rfl, lay_4, (mw (i := 267) (by decide +kernel) rfl), tyX4_ok, nmX4, tyX4_ok 1 (by decide), rfl, by decide, by decide⟩
theorem fl_RX9_128 : Fl RX9 128 1 3 .int false := ⟨RX1, TX1, 12, tyX1, rfl, by decide, rfl, lay_1, (mw (i := 393) (by decide +kernel) rfl), tyX1_ok, nmX1, tyX1_ok 3 (by decide), rfl, by decide, by decide⟩
theorem fl_RX9_131 : Fl RX9 131 1 4 .int false := ⟨RX1, TX1, 12, tyX1, rfl, by decide, rfl, lay_1, (mw (i := 396) (by decide +kernel) rfl), tyX1_ok, nmX1, tyX1_ok 4 (by decide), rfl, by decide, by decide⟩
theorem fl_RX9_157 : Fl RX9 157 0 1 .int false := ⟨RX0, TX0, 8, tyX0, rfl, by decide, rfl, lay_0, (mw (i := 341) (by decide +kernel) rfl), tyX0_ok, nmX0, tyX0_ok 1 (by decide), rfl, by decide, by decide⟩
theorem fl_RX9_160 : Fl RX9 160 0 2 .int false := ⟨RX0, TX0, 8, tyX0, rfl, by decide, rfl, lay_0, (mw (i := 344) (by decide +kernel) rfl), tyX0_ok, nmX0, tyX0_ok 2 (by decide), rfl, by decide, by decide⟩
theorem fl_RX9_163 : Fl RX9 163 0 3 .int false := ⟨RX0, TX0, 8, tyX0, rfl, by decide, rfl, lay_0, (mw (i := 346) (by decide +kernel) rfl), tyX0_ok, nmX0, tyX0_ok 3 (by decide), rfl, by decide, by decide⟩
theorem fl_RX9_166 : Fl RX9 166 0 4 .int false := ⟨RX0, TX0, 8, tyX0, rfl, by decide, rfl, lay_0, (mw (i := 350) (by decide +kernel) rfl), tyX0_ok, nmX0, tyX0_ok 4 (by decide), rfl, by decide, by decide⟩
theorem fl_RX9_169 : Fl RX9 169 0 6 .int false := ⟨RX0, TX0, 8, tyX0, rfl, by decide, rfl, lay_0, (mw (i := 361) (by decide +kernel) rfl), tyX0_ok, nmX0, tyX0_ok 6 (by decide), rfl, by decide, by decide⟩
theorem fl_RX9_170 : Fl RX9 170 0 5 .int false := ⟨RX0, TX0, 8, tyX0, rfl, by decide, rfl, lay_0, (mw (i := 355) (by decide +kernel) rfl), tyX0_ok, nmX0, tyX0_ok 5 (by decide), rfl, by decide, by decide⟩
theorem fl_RX9_182 : Fl RX9 182 0 7 .int false := ⟨RX0, TX0, 8, tyX0, rfl, by decide, rfl, lay_0, (mw (i := 364) (by decide +kernel) rfl), tyX0_ok, nmX0, tyX0_ok 7 (by decide), rfl, by decide, by decide⟩
theorem fl_RX9_192 : Fg RX9 192 8 4 := ⟨RX8, TX8, 7, rfl, by decide, rfl, lay_8, (mw (i := 230) (by decide +kernel) rfl)⟩
theorem fl_RX9_198 : Fg RX9 198 8 5 := ⟨RX8, TX8, 7, rfl, by decide, rfl, lay_8, (mw (i := 234) (by decide +kernel) rfl)⟩
theorem fl_RX9_202 : Fg RX9 202 8 1 := ⟨RX8, TX8, 7, rfl, by decide, rfl, lay_8, (mw (i := 221) (by decide +kernel) rfl)⟩
theorem fl_RX9_228 : Fg RX9 228 1 10 := ⟨RX1, TX1, 12, rfl, by decide, rfl, lay_1, (mw (i := 409) (by decide +kernel) rfl)⟩
theorem fl_RX9_243 : Fl RX9 243 2 0 .int false := ⟨RX2, TX2, 4, tyX2, rfl, by decide, rfl, lay_2, (mw (i := 287) (by decide +kernel) rfl), tyX2_ok, nmX2, tyX2_ok 0 (by decide), rfl, by decide, by decide⟩
theorem fl_RX9_244 : Fl RX9 244 2 1 .int false := ⟨RX2, TX2, 4, tyX2, rfl, by decide, rfl, lay_2, (mw (i := 290) (by decide +kernel) rfl), tyX2_ok, nmX2, tyX2_ok 1 (by decide), rfl, by decide, by decide⟩
theorem fl_RX9_248 : Fl RX9 248 2 2 .int false := ⟨RX2, TX2, 4, tyX2, rfl, by decide, rfl, lay_2, (mw (i := 293) (by decide +kernel) rfl), tyX2_ok, nmX2, tyX2_ok 2 (by decide), rfl, by decide, by decide⟩
theorem fl_RX9_251 : Fl RX9 251 2 3 .int false := ⟨RX2, TX2, 4, tyX2, rfl, by decide, rfl, lay_2, (mw (i := 295) (by decide +kernel) rfl), tyX2_ok, nmX2, tyX2_ok 3 (by decide), rfl, by decide, by decide⟩
theorem fl_RX9_279 : Fl RX9 279 3 0 .int false := ⟨RX3, TX3, 5, tyX3, rfl, by decide, rfl, lay_3, (mw (i := 311) (by decide +kernel) rfl), tyX3_ok, nmX3, tyX3_ok 0 (by decide), rfl, by decide, by decide⟩
theorem fl_RX9_284 : Fl RX9 284 3 1 .int false := ⟨RX3, TX3, 5, tyX3, rfl, by decide, rfl, lay_3, (mw (i := 314) (by decide +kernel) rfl), tyX3_ok, nmX3, tyX3_ok 1 (by decide), rfl, by decide, by decide⟩
theorem fl_RX9_287 : Fl RX9 287 3 4 .int false := ⟨RX3, TX3, 5, tyX3, rfl, by decide, rfl, lay_3, (mw (i := 320) (by decide +kernel) rfl), tyX3_ok, nmX3, tyX3_ok 4 (by decide), rfl, by decide, by decide⟩
theorem fl_RX9_491 : Fl RX9 491 9 10 .int false := ⟨RX9, TX9, 15, tyX9, rfl, by decide, rfl, lay_9, (mw (i := 551) (by decide +kernel) rfl), tyX9_ok, nmX9, tyX9_ok 10 (by decide), rfl, by decide, by decide⟩
theorem fl_RX9_499 : Fl RX9 499 9 9 .int false := ⟨RX9, TX9, 15, tyX9, rfl, by decide, rfl, lay_9, (mw (i := 550) (by decide +kernel) rfl), tyX9_ok, nmX9, tyX9_ok 9 (by decide), rfl, by decide, by decide⟩
theorem fl_RX9_522 : Fg RX9 522 1 6 := ⟨RX1, TX1, 12, rfl, by decide, rfl, lay_1, (mw (i := 399) (by decide +kernel) rfl)⟩
theorem fl_RX9_530 : Fg RX9 530 1 7 := ⟨RX1, TX1, 12, rfl, by decide, rfl, lay_1, (mw (i := 401) (by decide +kernel) rfl)⟩
theorem lk_RX9_19 : LI RX9 19 yX1_init := ⟨(mw (i := 202) (by decide +kernel) rfl), (mw (i := 203) (by decide +kernel) rfl), rfl⟩
theorem lk_RX9_29 : LNI RX9 "NotaryBook" 29 yX5_init := ⟨(mn (i := 439) (by decide +kernel) rfl), (mw (i := 440) (by decide +kernel) rfl), rfl⟩
theorem lk_RX9_47 : LNI RX9 "NotaryBook" 47 yX4_init := ⟨(mn (i := 497) (by decide +kernel) rfl), (mw (i := 259) (by decide +kernel) rfl), rfl⟩
theorem lk_RX9_54 : LNI RX9 "NotaryBook" 54 yX6_init := ⟨(mn (i := 500) (by decide +kernel) rfl), (mw (i := 501) (by decide +kernel) rfl), rfl⟩
theorem lk_RX9_62 : LV RX9 62 yX9_putFourBytes := ⟨(mw (i := 591) (by decide +kernel) rfl), (mw (i := 593) (by decide +kernel) rfl), (mw (i := 0) (by decide +kernel) rfl)⟩
theorem lk_RX9_66 : LV RX9 66 yX9_requireBytes := ⟨(mw (i := 620) (by decide +kernel) rfl), (mw (i := 622) (by decide +kernel) rfl), (mw (i := 1) (by decide +kernel) rfl)⟩
theorem lk_RX9_69 : LV RX9 69 yX5_readText := ⟨(mw (i := 693) (by decide +kernel) rfl), (mw (i := 694) (by decide +kernel) rfl), (mw (i := 695) (by decide +kernel) rfl)⟩
theorem lk_RX9_89 : LV RX9 89 yX9_forgetPast := ⟨(mw (i := 1085) (by decide +kernel) rfl), (mw (i := 1087) (by decide +kernel) rfl), (mw (i := 24) (by decide +kernel) rfl)⟩
theorem lk_RX9_95 : LV RX9 95 yX9_requireBook := ⟨(mw (i := 1097) (by decide +kernel) rfl), (mw (i := 1099) (by decide +kernel) rfl), (mw (i := 25) (by decide +kernel) rfl)⟩
theorem lk_RX9_98 : LSt RX9 98 yX9_requireUpTo := ⟨(mw (i := 1117) (by decide +kernel) rfl), (mw (i := 1118) (by decide +kernel) rfl)⟩
theorem lk_RX9_124 : LV RX9 124 yX4_countOf := ⟨(mw (i := 1121) (by decide +kernel) rfl), (mw (i := 1122) (by decide +kernel) rfl), (mw (i := 1123) (by decide +kernel) rfl)⟩
theorem lk_RX9_134 : LV RX9 134 yX1_marksOfAll := ⟨(mw (i := 1125) (by decide +kernel) rfl), (mw (i := 1126) (by decide +kernel) rfl), (mw (i := 1127) (by decide +kernel) rfl)⟩
theorem lk_RX9_138 : LV RX9 138 yX8_standingFrom := ⟨(mw (i := 1129) (by decide +kernel) rfl), (mw (i := 979) (by decide +kernel) rfl), (mw (i := 980) (by decide +kernel) rfl)⟩
theorem lk_RX9_144 : LV RX9 144 yX1_actsAt := ⟨(mw (i := 1130) (by decide +kernel) rfl), (mw (i := 1131) (by decide +kernel) rfl), (mw (i := 1132) (by decide +kernel) rfl)⟩
theorem lk_RX9_147 : LV RX9 147 yX1_openNumber := ⟨(mw (i := 1134) (by decide +kernel) rfl), (mw (i := 1135) (by decide +kernel) rfl), (mw (i := 1136) (by decide +kernel) rfl)⟩
theorem lk_RX9_150 : LV RX9 150 yX1_unknownFrom := ⟨(mw (i := 1138) (by decide +kernel) rfl), (mw (i := 1139) (by decide +kernel) rfl), (mw (i := 1140) (by decide +kernel) rfl)⟩
theorem lk_RX9_153 : LV RX9 153 yX9_requireAct := ⟨(mw (i := 1149) (by decide +kernel) rfl), (mw (i := 1151) (by decide +kernel) rfl), (mw (i := 26) (by decide +kernel) rfl)⟩
theorem lk_RX9_173 : LV RX9 173 yX8_clausesFrom := ⟨(mw (i := 1154) (by decide +kernel) rfl), (mw (i := 1155) (by decide +kernel) rfl), (mw (i := 1156) (by decide +kernel) rfl)⟩
theorem lk_RX9_176 : LV RX9 176 yX8_greatestDepth := ⟨(mw (i := 1158) (by decide +kernel) rfl), (mw (i := 1159) (by decide +kernel) rfl), (mw (i := 1160) (by decide +kernel) rfl)⟩
theorem lk_RX9_179 : LV RX9 179 yX1_leafOf := ⟨(mw (i := 1163) (by decide +kernel) rfl), (mw (i := 1022) (by decide +kernel) rfl), (mw (i := 1023) (by decide +kernel) rfl)⟩
theorem lk_RX9_185 : LV RX9 185 yX1_copiesOf := ⟨(mw (i := 1164) (by decide +kernel) rfl), (mw (i := 1165) (by decide +kernel) rfl), (mw (i := 1166) (by decide +kernel) rfl)⟩
theorem lk_RX9_188 : LSt RX9 188 yX9_requireWord := ⟨(mw (i := 1175) (by decide +kernel) rfl), (mw (i := 1176) (by decide +kernel) rfl)⟩
theorem lk_RX9_195 : LV RX9 195 yX8_depthOf := ⟨(mw (i := 1179) (by decide +kernel) rfl), (mw (i := 931) (by decide +kernel) rfl), (mw (i := 932) (by decide +kernel) rfl)⟩
theorem lk_RX9_210 : LV RX9 210 yX1_isKnown := ⟨(mw (i := 1183) (by decide +kernel) rfl), (mw (i := 1018) (by decide +kernel) rfl), (mw (i := 1019) (by decide +kernel) rfl)⟩
theorem lk_RX9_214 : LV RX9 214 yX8_innermostOf := ⟨(mw (i := 1184) (by decide +kernel) rfl), (mw (i := 927) (by decide +kernel) rfl), (mw (i := 928) (by decide +kernel) rfl)⟩
theorem lk_RX9_217 : LV RX9 217 yX1_copiesWith := ⟨(mw (i := 1185) (by decide +kernel) rfl), (mw (i := 1026) (by decide +kernel) rfl), (mw (i := 1027) (by decide +kernel) rfl)⟩
theorem lk_RX9_220 : LSt RX9 220 yX9_letterOf := ⟨(mw (i := 1193) (by decide +kernel) rfl), (mw (i := 1194) (by decide +kernel) rfl)⟩
theorem lk_RX9_224 : LV RX9 224 yX8_insertOf := ⟨(mw (i := 1203) (by decide +kernel) rfl), (mw (i := 1204) (by decide +kernel) rfl), (mw (i := 1205) (by decide +kernel) rfl)⟩
theorem lk_RX9_232 : LV RX9 232 yX2_seek := ⟨(mw (i := 1214) (by decide +kernel) rfl), (mw (i := 935) (by decide +kernel) rfl), (mw (i := 936) (by decide +kernel) rfl)⟩
theorem lk_RX9_245 : LV RX9 245 yX8_unstruckFrom := ⟨(mw (i := 1216) (by decide +kernel) rfl), (mw (i := 914) (by decide +kernel) rfl), (mw (i := 915) (by decide +kernel) rfl)⟩
theorem lk_RX9_254 : LV RX9 254 yX9_requireLeaf := ⟨(mw (i := 1224) (by decide +kernel) rfl), (mw (i := 1226) (by decide +kernel) rfl), (mw (i := 27) (by decide +kernel) rfl)⟩
theorem lk_RX9_257 : LV RX9 257 yX4_stateOf := ⟨(mw (i := 1230) (by decide +kernel) rfl), (mw (i := 1231) (by decide +kernel) rfl), (mw (i := 1232) (by decide +kernel) rfl)⟩
theorem lk_RX9_260 : LV RX9 260 yX1_wordsOn := ⟨(mw (i := 1234) (by decide +kernel) rfl), (mw (i := 860) (by decide +kernel) rfl), (mw (i := 861) (by decide +kernel) rfl)⟩
theorem lk_RX9_263 : LV RX9 263 yX1_actsOn := ⟨(mw (i := 1235) (by decide +kernel) rfl), (mw (i := 1236) (by decide +kernel) rfl), (mw (i := 1237) (by decide +kernel) rfl)⟩
theorem lk_RX9_266 : LV RX9 266 yX4_mateOf := ⟨(mw (i := 1243) (by decide +kernel) rfl), (mw (i := 883) (by decide +kernel) rfl), (mw (i := 884) (by decide +kernel) rfl)⟩
theorem lk_RX9_269 : LV RX9 269 yX4_gatheringOf := ⟨(mw (i := 1244) (by decide +kernel) rfl), (mw (i := 887) (by decide +kernel) rfl), (mw (i := 888) (by decide +kernel) rfl)⟩
theorem lk_RX9_272 : LV RX9 272 yX1_firstActOn := ⟨(mw (i := 1245) (by decide +kernel) rfl), (mw (i := 1246) (by decide +kernel) rfl), (mw (i := 1247) (by decide +kernel) rfl)⟩
theorem lk_RX9_275 : LV RX9 275 yX9_requireCopy := ⟨(mw (i := 1256) (by decide +kernel) rfl), (mw (i := 1258) (by decide +kernel) rfl), (mw (i := 29) (by decide +kernel) rfl)⟩
theorem lk_RX9_288 : LV RX9 288 yX3_fee := ⟨(mw (i := 1261) (by decide +kernel) rfl), (mw (i := 1034) (by decide +kernel) rfl), (mw (i := 1035) (by decide +kernel) rfl)⟩
theorem lk_RX9_290 : LV RX9 290 yX1_knownByAlone := ⟨(mw (i := 1262) (by decide +kernel) rfl), (mw (i := 1263) (by decide +kernel) rfl), (mw (i := 1264) (by decide +kernel) rfl)⟩
theorem lk_RX9_294 : LV RX9 294 yX3_holds := ⟨(mw (i := 1273) (by decide +kernel) rfl), (mw (i := 1013) (by decide +kernel) rfl), (mw (i := 1014) (by decide +kernel) rfl)⟩
theorem lk_RX9_298 : LV RX9 298 yX1_wordsGap := ⟨(mw (i := 1295) (by decide +kernel) rfl), (mw (i := 1296) (by decide +kernel) rfl), (mw (i := 1297) (by decide +kernel) rfl)⟩
theorem lk_RX9_301 : LV RX9 301 yX1_standingGap := ⟨(mw (i := 1302) (by decide +kernel) rfl), (mw (i := 1303) (by decide +kernel) rfl), (mw (i := 1304) (by decide +kernel) rfl)⟩
theorem lk_RX9_304 : LV RX9 304 yX1_cashGap := ⟨(mw (i := 1311) (by decide +kernel) rfl), (mw (i := 1312) (by decide +kernel) rfl), (mw (i := 1313) (by decide +kernel) rfl)⟩
theorem lk_RX9_307 : LV RX9 307 yX1_numbersGap := ⟨(mw (i := 1315) (by decide +kernel) rfl), (mw (i := 1316) (by decide +kernel) rfl), (mw (i := 1317) (by decide +kernel) rfl)⟩
theorem lk_RX9_310 : LV RX9 310 yX1_sealReason := ⟨(mw (i := 1326) (by decide +kernel) rfl), (mw (i := 971) (by decide +kernel) rfl), (mw (i := 972) (by decide +kernel) rfl)⟩
theorem lk_RX9_534 : LV RX9 534 yX4_isThere := ⟨(mw (i := 1228) (by decide +kernel) rfl), (mw (i := 856) (by decide +kernel) rfl), (mw (i := 857) (by decide +kernel) rfl)⟩
theorem nw_RX9_17 : NW RX9 17 1 := ⟨RX1, TX1, 12, tyX1, rfl, rfl, lay_1, tyX1_ok, (mw (i := 200) (by decide +kernel) rfl), (mw (i := 201) (by decide +kernel) rfl), (mw (i := 163) (by decide +kernel) rfl), by decide, dv_1⟩
theorem nw_RX9_27 : NW RX9 27 5 := ⟨RX5, TX5, 5, tyX5, rfl, rfl, lay_5, tyX5_ok, (mw (i := 437) (by decide +kernel) rfl), (mw (i := 438) (by decide +kernel) rfl), (mw (i := 169) (by decide +kernel) rfl), by decide, dv_5⟩
theorem nw_RX9_45 : NW RX9 45 4 := ⟨RX4, TX4, 4, tyX4, rfl, rfl, lay_4, tyX4_ok, (mw (i := 496) (by decide +kernel) rfl), (mw (i := 257) (by decide +kernel) rfl), (mw (i := 165) (by decide +kernel) rfl), by decide, dv_4⟩
theorem nw_RX9_52 : NW RX9 52 6 := ⟨RX6, TX6, 1, tyX6, rfl, rfl, lay_6, tyX6_ok, (mw (i := 498) (by decide +kernel) rfl), (mw (i := 499) (by decide +kernel) rfl), (mw (i := 171) (by decide +kernel) rfl), by decide, dv_6⟩
theorem tw_RX9_78_82 : TW RX9 78 82 2 := ⟨(mw (i := 1069) (by decide +kernel) rfl), (mw (i := 184) (by decide +kernel) rfl), tw_of (ids := [177, 646, 655, 661, 664, 666, 647, 648, 198, 199, 649, 654, 662, 682, 636, 683, 638, 684, 640, 650, 652, 642, 678, 679, 681, 642, 1080, 1081, 1082, 672, 628, 672, 673, 674, 675, 630, 675, 676, 677, 678, 632, 1079, 1070, 1071, 1072, 658, 1073, 1074, 1075, 1076, 645, 644, 1077]) (by decide +kernel) (by decide +kernel), by decide +kernel, by decide +kernel⟩
theorem tw_RX9_238_242 : TW RX9 238 242 1 := ⟨(mw (i := 624) (by decide +kernel) rfl), (mw (i := 180) (by decide +kernel) rfl), tw_of (ids := [177, 646, 655, 661, 664, 666, 647, 648, 198, 199, 649, 654, 662, 682, 636, 683, 638, 684, 640, 650, 652, 642, 678, 679, 681, 642, 669, 670, 671, 672, 628, 672, 673, 674, 675, 630, 675, 676, 677, 678, 632, 668, 625, 626, 633, 634, 635, 637, 639, 641, 645, 644, 643]) (by decide +kernel) (by decide +kernel), by decide +kernel, by decide +kernel⟩
theorem tw_RX9_494_498 : TW RX9 494 498 0 := ⟨(mw (i := 1101) (by decide +kernel) rfl), (mw (i := 185) (by decide +kernel) rfl), tw_of (ids := [177, 646, 655, 661, 664, 666, 647, 648, 198, 199, 649, 654, 662, 682, 636, 683, 638, 684, 640, 650, 652, 642, 678, 679, 681, 642, 1112, 1113, 1114, 672, 628, 672, 673, 674, 675, 630, 675, 676, 677, 678, 632, 1111, 1102, 1103, 1104, 659, 1105, 1106, 1107, 1108, 645, 644, 1109]) (by decide +kernel) (by decide +kernel), by decide +kernel, by decide +kernel⟩
theorem an_RX9_17 : Cond.classLink RX9 17 "NotaryBook$Book" ∈ ALLw ∧ Cond.arrayOver (.object "NotaryBook$Book") ∈ ALLn := ⟨(mw (i := 200) (by decide +kernel) rfl), (mn (i := 495) (by decide +kernel) rfl)⟩
theorem obj_RX9_1 : OBW RX9 1 := ⟨(mw (i := 197) (by decide +kernel) rfl), (mw (i := 198) (by decide +kernel) rfl), (mw (i := 199) (by decide +kernel) rfl)⟩
theorem dX9_init_0 : decode cX9_init 0 = .ok (.aload_n 0, 1) := by decide +kernel
theorem dX9_init_1 : decode cX9_init 1 = .ok (.invokespecial 1, 3) := by decide +kernel
theorem dX9_init_4 : decode cX9_init 4 = .ok (.aload_n 0, 1) := by decide +kernel
theorem dX9_init_5 : decode cX9_init 5 = .ok (.sipush 600, 3) := by decide +kernel
theorem dX9_init_8 : decode cX9_init 8 = .ok (.newarray .byte, 2) := by decide +kernel
theorem dX9_init_10 : decode cX9_init 10 = .ok (.putfield 9, 3) := by decide +kernel
theorem dX9_init_13 : decode cX9_init 13 = .ok (.aload_n 0, 1) := by decide +kernel
theorem dX9_init_14 : decode cX9_init 14 = .ok (.iconst (-1), 1) := by decide +kernel
theorem dX9_init_15 : decode cX9_init 15 = .ok (.putfield 13, 3) := by decide +kernel
theorem dX9_init_18 : decode cX9_init 18 = .ok (.aload_n 0, 1) := by decide +kernel
theorem dX9_init_19 : decode cX9_init 19 = .ok (.new 17, 3) := by decide +kernel
theorem dX9_init_22 : decode cX9_init 22 = .ok (.dup, 1) := by decide +kernel
theorem dX9_init_23 : decode cX9_init 23 = .ok (.invokespecial 19, 3) := by decide +kernel
theorem dX9_init_26 : decode cX9_init 26 = .ok (.putfield 20, 3) := by decide +kernel
theorem dX9_init_29 : decode cX9_init 29 = .ok (.aload_n 0, 1) := by decide +kernel
theorem dX9_init_30 : decode cX9_init 30 = .ok (.new 17, 3) := by decide +kernel
theorem dX9_init_33 : decode cX9_init 33 = .ok (.dup, 1) := by decide +kernel
theorem dX9_init_34 : decode cX9_init 34 = .ok (.invokespecial 19, 3) := by decide +kernel
theorem dX9_init_37 : decode cX9_init 37 = .ok (.putfield 24, 3) := by decide +kernel
theorem dX9_init_40 : decode cX9_init 40 = .ok (.aload_n 0, 1) := by decide +kernel
theorem dX9_init_41 : decode cX9_init 41 = .ok (.new 27, 3) := by decide +kernel
theorem dX9_init_44 : decode cX9_init 44 = .ok (.dup, 1) := by decide +kernel
theorem dX9_init_45 : decode cX9_init 45 = .ok (.invokespecial 29, 3) := by decide +kernel
theorem dX9_init_48 : decode cX9_init 48 = .ok (.putfield 30, 3) := by decide +kernel
theorem dX9_init_51 : decode cX9_init 51 = .ok (.aload_n 0, 1) := by decide +kernel
theorem dX9_init_52 : decode cX9_init 52 = .ok (.bipush 8, 2) := by decide +kernel
theorem dX9_init_54 : decode cX9_init 54 = .ok (.anewarray 17, 3) := by decide +kernel
theorem dX9_init_57 : decode cX9_init 57 = .ok (.putfield 34, 3) := by decide +kernel
theorem dX9_init_60 : decode cX9_init 60 = .ok (.aload_n 0, 1) := by decide +kernel
theorem dX9_init_61 : decode cX9_init 61 = .ok (.iconst 2, 1) := by decide +kernel
theorem dX9_init_62 : decode cX9_init 62 = .ok (.anewarray 17, 3) := by decide +kernel
theorem dX9_init_65 : decode cX9_init 65 = .ok (.putfield 38, 3) := by decide +kernel
theorem dX9_init_68 : decode cX9_init 68 = .ok (.aload_n 0, 1) := by decide +kernel
theorem dX9_init_69 : decode cX9_init 69 = .ok (.iconst 2, 1) := by decide +kernel
theorem dX9_init_70 : decode cX9_init 70 = .ok (.newarray .boolean, 2) := by decide +kernel
theorem dX9_init_72 : decode cX9_init 72 = .ok (.putfield 41, 3) := by decide +kernel
theorem dX9_init_75 : decode cX9_init 75 = .ok (.aload_n 0, 1) := by decide +kernel
theorem dX9_init_76 : decode cX9_init 76 = .ok (.new 45, 3) := by decide +kernel
theorem dX9_init_79 : decode cX9_init 79 = .ok (.dup, 1) := by decide +kernel
theorem dX9_init_80 : decode cX9_init 80 = .ok (.invokespecial 47, 3) := by decide +kernel
theorem dX9_init_83 : decode cX9_init 83 = .ok (.putfield 48, 3) := by decide +kernel
theorem dX9_init_86 : decode cX9_init 86 = .ok (.aload_n 0, 1) := by decide +kernel
theorem dX9_init_87 : decode cX9_init 87 = .ok (.new 52, 3) := by decide +kernel
theorem dX9_init_90 : decode cX9_init 90 = .ok (.dup, 1) := by decide +kernel
theorem dX9_init_91 : decode cX9_init 91 = .ok (.invokespecial 54, 3) := by decide +kernel
theorem dX9_init_94 : decode cX9_init 94 = .ok (.putfield 55, 3) := by decide +kernel
theorem dX9_init_97 : decode cX9_init 97 = .ok (.return_, 1) := by decide +kernel
theorem dX9_putFourBytes_0 : decode cX9_putFourBytes 0 = .ok (.bipush 24, 2) := by decide +kernel
theorem dX9_putFourBytes_2 : decode cX9_putFourBytes 2 = .ok (.istore_n 2, 1) := by decide +kernel
theorem dX9_putFourBytes_3 : decode cX9_putFourBytes 3 = .ok (.iload_n 2, 1) := by decide +kernel
theorem dX9_putFourBytes_4 : decode cX9_putFourBytes 4 = .ok (.ifCond .lt 42, 3) := by decide +kernel
theorem dX9_putFourBytes_7 : decode cX9_putFourBytes 7 = .ok (.aload_n 0, 1) := by decide +kernel
theorem dX9_putFourBytes_8 : decode cX9_putFourBytes 8 = .ok (.getfield 59, 3) := by decide +kernel
theorem dX9_putFourBytes_11 : decode cX9_putFourBytes 11 = .ok (.sipush 600, 3) := by decide +kernel
theorem dX9_putFourBytes_14 : decode cX9_putFourBytes 14 = .ok (.if_icmp .ge 32, 3) := by decide +kernel
theorem dX9_putFourBytes_17 : decode cX9_putFourBytes 17 = .ok (.aload_n 0, 1) := by decide +kernel
theorem dX9_putFourBytes_18 : decode cX9_putFourBytes 18 = .ok (.getfield 9, 3) := by decide +kernel
theorem dX9_putFourBytes_21 : decode cX9_putFourBytes 21 = .ok (.aload_n 0, 1) := by decide +kernel
theorem dX9_putFourBytes_22 : decode cX9_putFourBytes 22 = .ok (.getfield 59, 3) := by decide +kernel
theorem dX9_putFourBytes_25 : decode cX9_putFourBytes 25 = .ok (.iload_n 1, 1) := by decide +kernel
theorem dX9_putFourBytes_26 : decode cX9_putFourBytes 26 = .ok (.iload_n 2, 1) := by decide +kernel
theorem dX9_putFourBytes_27 : decode cX9_putFourBytes 27 = .ok (.ishr, 1) := by decide +kernel
theorem dX9_putFourBytes_28 : decode cX9_putFourBytes 28 = .ok (.i2b, 1) := by decide +kernel
theorem dX9_putFourBytes_29 : decode cX9_putFourBytes 29 = .ok (.bastore, 1) := by decide +kernel
theorem dX9_putFourBytes_30 : decode cX9_putFourBytes 30 = .ok (.aload_n 0, 1) := by decide +kernel
theorem dX9_putFourBytes_31 : decode cX9_putFourBytes 31 = .ok (.dup, 1) := by decide +kernel
theorem dX9_putFourBytes_32 : decode cX9_putFourBytes 32 = .ok (.getfield 59, 3) := by decide +kernel
theorem dX9_putFourBytes_35 : decode cX9_putFourBytes 35 = .ok (.iconst 1, 1) := by decide +kernel
theorem dX9_putFourBytes_36 : decode cX9_putFourBytes 36 = .ok (.iadd, 1) := by decide +kernel
theorem dX9_putFourBytes_37 : decode cX9_putFourBytes 37 = .ok (.putfield 59, 3) := by decide +kernel
theorem dX9_putFourBytes_40 : decode cX9_putFourBytes 40 = .ok (.iinc 2 (-8), 3) := by decide +kernel
theorem dX9_putFourBytes_43 : decode cX9_putFourBytes 43 = .ok (.goto (-40), 3) := by decide +kernel
theorem dX9_putFourBytes_46 : decode cX9_putFourBytes 46 = .ok (.return_, 1) := by decide +kernel
theorem dX9_append_0 : decode cX9_append 0 = .ok (.aload_n 0, 1) := by decide +kernel
theorem dX9_append_1 : decode cX9_append 1 = .ok (.getfield 59, 3) := by decide +kernel
theorem dX9_append_4 : decode cX9_append 4 = .ok (.bipush 20, 2) := by decide +kernel
theorem dX9_append_6 : decode cX9_append 6 = .ok (.iadd, 1) := by decide +kernel
theorem dX9_append_7 : decode cX9_append 7 = .ok (.sipush 600, 3) := by decide +kernel
theorem dX9_append_10 : decode cX9_append 10 = .ok (.if_icmp .le 5, 3) := by decide +kernel
theorem dX9_append_13 : decode cX9_append 13 = .ok (.iconst (-1), 1) := by decide +kernel
theorem dX9_append_14 : decode cX9_append 14 = .ok (.ireturn, 1) := by decide +kernel
theorem dX9_append_15 : decode cX9_append 15 = .ok (.aload_n 0, 1) := by decide +kernel
theorem dX9_append_16 : decode cX9_append 16 = .ok (.iload_n 1, 1) := by decide +kernel
theorem dX9_append_17 : decode cX9_append 17 = .ok (.invokevirtual 62, 3) := by decide +kernel
theorem dX9_append_20 : decode cX9_append 20 = .ok (.aload_n 0, 1) := by decide +kernel
theorem dX9_append_21 : decode cX9_append 21 = .ok (.iload_n 2, 1) := by decide +kernel
theorem dX9_append_22 : decode cX9_append 22 = .ok (.invokevirtual 62, 3) := by decide +kernel
theorem dX9_append_25 : decode cX9_append 25 = .ok (.aload_n 0, 1) := by decide +kernel
theorem dX9_append_26 : decode cX9_append 26 = .ok (.iload_n 3, 1) := by decide +kernel
theorem dX9_append_27 : decode cX9_append 27 = .ok (.invokevirtual 62, 3) := by decide +kernel
theorem dX9_append_30 : decode cX9_append 30 = .ok (.aload_n 0, 1) := by decide +kernel
theorem dX9_append_31 : decode cX9_append 31 = .ok (.iload 4, 2) := by decide +kernel
theorem dX9_append_33 : decode cX9_append 33 = .ok (.invokevirtual 62, 3) := by decide +kernel
theorem dX9_append_36 : decode cX9_append 36 = .ok (.aload_n 0, 1) := by decide +kernel
theorem dX9_append_37 : decode cX9_append 37 = .ok (.iload 5, 2) := by decide +kernel
theorem dX9_append_39 : decode cX9_append 39 = .ok (.invokevirtual 62, 3) := by decide +kernel
theorem dX9_append_42 : decode cX9_append 42 = .ok (.aload_n 0, 1) := by decide +kernel
theorem dX9_append_43 : decode cX9_append 43 = .ok (.getfield 59, 3) := by decide +kernel
theorem dX9_append_46 : decode cX9_append 46 = .ok (.ireturn, 1) := by decide +kernel
theorem dX9_requireBytes_0 : decode cX9_requireBytes 0 = .ok (.iload_n 1, 1) := by decide +kernel
theorem dX9_requireBytes_1 : decode cX9_requireBytes 1 = .ok (.ifCond .lt 11, 3) := by decide +kernel
theorem dX9_requireBytes_4 : decode cX9_requireBytes 4 = .ok (.iload_n 1, 1) := by decide +kernel
theorem dX9_requireBytes_5 : decode cX9_requireBytes 5 = .ok (.aload_n 0, 1) := by decide +kernel
theorem dX9_requireBytes_6 : decode cX9_requireBytes 6 = .ok (.getfield 59, 3) := by decide +kernel
theorem dX9_requireBytes_9 : decode cX9_requireBytes 9 = .ok (.if_icmp .le 14, 3) := by decide +kernel
theorem dX9_requireBytes_12 : decode cX9_requireBytes 12 = .ok (.new 238, 3) := by decide +kernel
theorem dX9_requireBytes_15 : decode cX9_requireBytes 15 = .ok (.dup, 1) := by decide +kernel
theorem dX9_requireBytes_16 : decode cX9_requireBytes 16 = .ok (.ldc_w 516, 3) := by decide +kernel
theorem dX9_requireBytes_19 : decode cX9_requireBytes 19 = .ok (.invokespecial 242, 3) := by decide +kernel
theorem dX9_requireBytes_22 : decode cX9_requireBytes 22 = .ok (.athrow, 1) := by decide +kernel
theorem dX9_requireBytes_23 : decode cX9_requireBytes 23 = .ok (.return_, 1) := by decide +kernel
theorem dX9_forgetPast_0 : decode cX9_forgetPast 0 = .ok (.aload_n 0, 1) := by decide +kernel
theorem dX9_forgetPast_1 : decode cX9_forgetPast 1 = .ok (.iconst 0, 1) := by decide +kernel
theorem dX9_forgetPast_2 : decode cX9_forgetPast 2 = .ok (.putfield 499, 3) := by decide +kernel
theorem dX9_forgetPast_5 : decode cX9_forgetPast 5 = .ok (.aload_n 0, 1) := by decide +kernel
theorem dX9_forgetPast_6 : decode cX9_forgetPast 6 = .ok (.iconst 0, 1) := by decide +kernel
theorem dX9_forgetPast_7 : decode cX9_forgetPast 7 = .ok (.putfield 491, 3) := by decide +kernel
theorem dX9_forgetPast_10 : decode cX9_forgetPast 10 = .ok (.return_, 1) := by decide +kernel
theorem dX9_load_0 : decode cX9_load 0 = .ok (.aload_n 0, 1) := by decide +kernel
theorem dX9_load_1 : decode cX9_load 1 = .ok (.iload_n 1, 1) := by decide +kernel
theorem dX9_load_2 : decode cX9_load 2 = .ok (.invokevirtual 66, 3) := by decide +kernel
theorem dX9_load_5 : decode cX9_load 5 = .ok (.aload_n 0, 1) := by decide +kernel
theorem dX9_load_6 : decode cX9_load 6 = .ok (.iconst 0, 1) := by decide +kernel
theorem dX9_load_7 : decode cX9_load 7 = .ok (.putfield 59, 3) := by decide +kernel
theorem dX9_load_10 : decode cX9_load 10 = .ok (.aload_n 0, 1) := by decide +kernel
theorem dX9_load_11 : decode cX9_load 11 = .ok (.getfield 30, 3) := by decide +kernel
theorem dX9_load_14 : decode cX9_load 14 = .ok (.aload_n 0, 1) := by decide +kernel
theorem dX9_load_15 : decode cX9_load 15 = .ok (.getfield 9, 3) := by decide +kernel
theorem dX9_load_18 : decode cX9_load 18 = .ok (.iload_n 1, 1) := by decide +kernel
theorem dX9_load_19 : decode cX9_load 19 = .ok (.aload_n 0, 1) := by decide +kernel
theorem dX9_load_20 : decode cX9_load 20 = .ok (.getfield 24, 3) := by decide +kernel
theorem dX9_load_23 : decode cX9_load 23 = .ok (.invokevirtual 69, 3) := by decide +kernel
theorem dX9_load_26 : decode cX9_load 26 = .ok (.istore_n 2, 1) := by decide +kernel
theorem dX9_load_27 : decode cX9_load 27 = .ok (.aload_n 0, 1) := by decide +kernel
theorem dX9_load_28 : decode cX9_load 28 = .ok (.iload_n 2, 1) := by decide +kernel
theorem dX9_load_29 : decode cX9_load 29 = .ok (.ifCond .eq 7, 3) := by decide +kernel
theorem dX9_load_32 : decode cX9_load 32 = .ok (.iconst 0, 1) := by decide +kernel
theorem dX9_load_33 : decode cX9_load 33 = .ok (.goto 10, 3) := by decide +kernel
theorem dX9_load_36 : decode cX9_load 36 = .ok (.aload_n 0, 1) := by decide +kernel
theorem dX9_load_37 : decode cX9_load 37 = .ok (.getfield 30, 3) := by decide +kernel
theorem dX9_load_40 : decode cX9_load 40 = .ok (.getfield 73, 3) := by decide +kernel
theorem dX9_load_43 : decode cX9_load 43 = .ok (.putfield 76, 3) := by decide +kernel
theorem dX9_load_46 : decode cX9_load 46 = .ok (.aload_n 0, 1) := by decide +kernel
theorem dX9_load_47 : decode cX9_load 47 = .ok (.iload_n 2, 1) := by decide +kernel
theorem dX9_load_48 : decode cX9_load 48 = .ok (.ifCond .eq 7, 3) := by decide +kernel
theorem dX9_load_51 : decode cX9_load 51 = .ok (.iconst (-1), 1) := by decide +kernel
theorem dX9_load_52 : decode cX9_load 52 = .ok (.goto 10, 3) := by decide +kernel
theorem dX9_load_55 : decode cX9_load 55 = .ok (.aload_n 0, 1) := by decide +kernel
theorem dX9_load_56 : decode cX9_load 56 = .ok (.getfield 30, 3) := by decide +kernel
theorem dX9_load_59 : decode cX9_load 59 = .ok (.getfield 77, 3) := by decide +kernel
theorem dX9_load_62 : decode cX9_load 62 = .ok (.putfield 13, 3) := by decide +kernel
theorem dX9_load_65 : decode cX9_load 65 = .ok (.iload_n 2, 1) := by decide +kernel
theorem dX9_load_66 : decode cX9_load 66 = .ok (.ifCond .ne 13, 3) := by decide +kernel
theorem dX9_load_69 : decode cX9_load 69 = .ok (.new 78, 3) := by decide +kernel
theorem dX9_load_72 : decode cX9_load 72 = .ok (.dup, 1) := by decide +kernel
theorem dX9_load_73 : decode cX9_load 73 = .ok (.ldc 80, 2) := by decide +kernel
theorem dX9_load_75 : decode cX9_load 75 = .ok (.invokespecial 82, 3) := by decide +kernel
theorem dX9_load_78 : decode cX9_load 78 = .ok (.athrow, 1) := by decide +kernel
theorem dX9_load_79 : decode cX9_load 79 = .ok (.aload_n 0, 1) := by decide +kernel
theorem dX9_load_80 : decode cX9_load 80 = .ok (.getfield 20, 3) := by decide +kernel
theorem dX9_load_83 : decode cX9_load 83 = .ok (.astore_n 3, 1) := by decide +kernel
theorem dX9_load_84 : decode cX9_load 84 = .ok (.aload_n 0, 1) := by decide +kernel
theorem dX9_load_85 : decode cX9_load 85 = .ok (.aload_n 0, 1) := by decide +kernel
theorem dX9_load_86 : decode cX9_load 86 = .ok (.getfield 24, 3) := by decide +kernel
theorem dX9_load_89 : decode cX9_load 89 = .ok (.putfield 20, 3) := by decide +kernel
theorem dX9_load_92 : decode cX9_load 92 = .ok (.aload_n 0, 1) := by decide +kernel
theorem dX9_load_93 : decode cX9_load 93 = .ok (.aload_n 3, 1) := by decide +kernel
theorem dX9_load_94 : decode cX9_load 94 = .ok (.putfield 24, 3) := by decide +kernel
theorem dX9_load_97 : decode cX9_load 97 = .ok (.aload_n 0, 1) := by decide +kernel
theorem dX9_load_98 : decode cX9_load 98 = .ok (.iconst 1, 1) := by decide +kernel
theorem dX9_load_99 : decode cX9_load 99 = .ok (.putfield 85, 3) := by decide +kernel
theorem dX9_load_102 : decode cX9_load 102 = .ok (.aload_n 0, 1) := by decide +kernel
theorem dX9_load_103 : decode cX9_load 103 = .ok (.invokevirtual 89, 3) := by decide +kernel
theorem dX9_load_106 : decode cX9_load 106 = .ok (.iconst 0, 1) := by decide +kernel
theorem dX9_load_107 : decode cX9_load 107 = .ok (.istore 4, 2) := by decide +kernel
theorem dX9_load_109 : decode cX9_load 109 = .ok (.iload 4, 2) := by decide +kernel
theorem dX9_load_111 : decode cX9_load 111 = .ok (.iconst 2, 1) := by decide +kernel
theorem dX9_load_112 : decode cX9_load 112 = .ok (.if_icmp .ge 17, 3) := by decide +kernel
theorem dX9_load_115 : decode cX9_load 115 = .ok (.aload_n 0, 1) := by decide +kernel
theorem dX9_load_116 : decode cX9_load 116 = .ok (.getfield 41, 3) := by decide +kernel
theorem dX9_load_119 : decode cX9_load 119 = .ok (.iload 4, 2) := by decide +kernel
theorem dX9_load_121 : decode cX9_load 121 = .ok (.iconst 0, 1) := by decide +kernel
theorem dX9_load_122 : decode cX9_load 122 = .ok (.bastore, 1) := by decide +kernel
theorem dX9_load_123 : decode cX9_load 123 = .ok (.iinc 4 1, 3) := by decide +kernel
theorem dX9_load_126 : decode cX9_load 126 = .ok (.goto (-17), 3) := by decide +kernel
theorem dX9_load_129 : decode cX9_load 129 = .ok (.aload_n 0, 1) := by decide +kernel
theorem dX9_load_130 : decode cX9_load 130 = .ok (.getfield 20, 3) := by decide +kernel
theorem dX9_load_133 : decode cX9_load 133 = .ok (.getfield 92, 3) := by decide +kernel
theorem dX9_load_136 : decode cX9_load 136 = .ok (.ireturn, 1) := by decide +kernel
theorem dX9_parseError_0 : decode cX9_parseError 0 = .ok (.aload_n 0, 1) := by decide +kernel
theorem dX9_parseError_1 : decode cX9_parseError 1 = .ok (.getfield 76, 3) := by decide +kernel
theorem dX9_parseError_4 : decode cX9_parseError 4 = .ok (.ireturn, 1) := by decide +kernel
theorem dX9_errorPosition_0 : decode cX9_errorPosition 0 = .ok (.aload_n 0, 1) := by decide +kernel
theorem dX9_errorPosition_1 : decode cX9_errorPosition 1 = .ok (.getfield 13, 3) := by decide +kernel
theorem dX9_errorPosition_4 : decode cX9_errorPosition 4 = .ok (.ireturn, 1) := by decide +kernel
theorem dX9_buffered_0 : decode cX9_buffered 0 = .ok (.aload_n 0, 1) := by decide +kernel
theorem dX9_buffered_1 : decode cX9_buffered 1 = .ok (.getfield 59, 3) := by decide +kernel
theorem dX9_buffered_4 : decode cX9_buffered 4 = .ok (.ireturn, 1) := by decide +kernel
theorem dX9_requireBook_0 : decode cX9_requireBook 0 = .ok (.aload_n 0, 1) := by decide +kernel
theorem dX9_requireBook_1 : decode cX9_requireBook 1 = .ok (.getfield 85, 3) := by decide +kernel
theorem dX9_requireBook_4 : decode cX9_requireBook 4 = .ok (.ifCond .ne 14, 3) := by decide +kernel
theorem dX9_requireBook_7 : decode cX9_requireBook 7 = .ok (.new 494, 3) := by decide +kernel
theorem dX9_requireBook_10 : decode cX9_requireBook 10 = .ok (.dup, 1) := by decide +kernel
theorem dX9_requireBook_11 : decode cX9_requireBook 11 = .ok (.ldc_w 514, 3) := by decide +kernel
theorem dX9_requireBook_14 : decode cX9_requireBook 14 = .ok (.invokespecial 498, 3) := by decide +kernel
theorem dX9_requireBook_17 : decode cX9_requireBook 17 = .ok (.athrow, 1) := by decide +kernel
theorem dX9_requireBook_18 : decode cX9_requireBook 18 = .ok (.return_, 1) := by decide +kernel
theorem dX9_requireUpTo_0 : decode cX9_requireUpTo 0 = .ok (.iload_n 0, 1) := by decide +kernel
theorem dX9_requireUpTo_1 : decode cX9_requireUpTo 1 = .ok (.ifCond .lt 8, 3) := by decide +kernel
theorem dX9_requireUpTo_4 : decode cX9_requireUpTo 4 = .ok (.iload_n 0, 1) := by decide +kernel
theorem dX9_requireUpTo_5 : decode cX9_requireUpTo 5 = .ok (.iload_n 1, 1) := by decide +kernel
theorem dX9_requireUpTo_6 : decode cX9_requireUpTo 6 = .ok (.if_icmp .le 14, 3) := by decide +kernel
theorem dX9_requireUpTo_9 : decode cX9_requireUpTo 9 = .ok (.new 78, 3) := by decide +kernel
theorem dX9_requireUpTo_12 : decode cX9_requireUpTo 12 = .ok (.dup, 1) := by decide +kernel
theorem dX9_requireUpTo_13 : decode cX9_requireUpTo 13 = .ok (.ldc_w 518, 3) := by decide +kernel
theorem dX9_requireUpTo_16 : decode cX9_requireUpTo 16 = .ok (.invokespecial 82, 3) := by decide +kernel
theorem dX9_requireUpTo_19 : decode cX9_requireUpTo 19 = .ok (.athrow, 1) := by decide +kernel
theorem dX9_requireUpTo_20 : decode cX9_requireUpTo 20 = .ok (.return_, 1) := by decide +kernel
theorem dX9_count_0 : decode cX9_count 0 = .ok (.aload_n 0, 1) := by decide +kernel
theorem dX9_count_1 : decode cX9_count 1 = .ok (.invokevirtual 95, 3) := by decide +kernel
theorem dX9_count_4 : decode cX9_count 4 = .ok (.iload_n 1, 1) := by decide +kernel
theorem dX9_count_5 : decode cX9_count 5 = .ok (.bipush 15, 2) := by decide +kernel
theorem dX9_count_7 : decode cX9_count 7 = .ok (.invokestatic 98, 3) := by decide +kernel
theorem dX9_count_10 : decode cX9_count 10 = .ok (.iload_n 1, 1) := by decide +kernel
theorem dX9_count_11 : decode cX9_count 11 = .ok (.tableswitch 226 0 14 #[73, 81, 89, 100, 108, 119, 130, 142, 154, 162, 170, 178, 200, 209, 218], 73) := by decide +kernel
theorem dX9_count_84 : decode cX9_count 84 = .ok (.aload_n 0, 1) := by decide +kernel
theorem dX9_count_85 : decode cX9_count 85 = .ok (.getfield 20, 3) := by decide +kernel
theorem dX9_count_88 : decode cX9_count 88 = .ok (.getfield 102, 3) := by decide +kernel
theorem dX9_count_91 : decode cX9_count 91 = .ok (.ireturn, 1) := by decide +kernel
theorem dX9_count_92 : decode cX9_count 92 = .ok (.aload_n 0, 1) := by decide +kernel
theorem dX9_count_93 : decode cX9_count 93 = .ok (.getfield 20, 3) := by decide +kernel
theorem dX9_count_96 : decode cX9_count 96 = .ok (.getfield 105, 3) := by decide +kernel
theorem dX9_count_99 : decode cX9_count 99 = .ok (.ireturn, 1) := by decide +kernel
theorem dX9_count_100 : decode cX9_count 100 = .ok (.aload_n 0, 1) := by decide +kernel
theorem dX9_count_101 : decode cX9_count 101 = .ok (.getfield 20, 3) := by decide +kernel
theorem dX9_count_104 : decode cX9_count 104 = .ok (.getfield 108, 3) := by decide +kernel
theorem dX9_count_107 : decode cX9_count 107 = .ok (.getfield 111, 3) := by decide +kernel
theorem dX9_count_110 : decode cX9_count 110 = .ok (.ireturn, 1) := by decide +kernel
theorem dX9_count_111 : decode cX9_count 111 = .ok (.aload_n 0, 1) := by decide +kernel
theorem dX9_count_112 : decode cX9_count 112 = .ok (.getfield 20, 3) := by decide +kernel
theorem dX9_count_115 : decode cX9_count 115 = .ok (.getfield 92, 3) := by decide +kernel
theorem dX9_count_118 : decode cX9_count 118 = .ok (.ireturn, 1) := by decide +kernel
theorem dX9_count_119 : decode cX9_count 119 = .ok (.aload_n 0, 1) := by decide +kernel
theorem dX9_count_120 : decode cX9_count 120 = .ok (.getfield 20, 3) := by decide +kernel
theorem dX9_count_123 : decode cX9_count 123 = .ok (.getfield 114, 3) := by decide +kernel
theorem dX9_count_126 : decode cX9_count 126 = .ok (.getfield 118, 3) := by decide +kernel
theorem dX9_count_129 : decode cX9_count 129 = .ok (.ireturn, 1) := by decide +kernel
theorem dX9_count_130 : decode cX9_count 130 = .ok (.aload_n 0, 1) := by decide +kernel
theorem dX9_count_131 : decode cX9_count 131 = .ok (.getfield 20, 3) := by decide +kernel
theorem dX9_count_134 : decode cX9_count 134 = .ok (.getfield 108, 3) := by decide +kernel
theorem dX9_count_137 : decode cX9_count 137 = .ok (.getfield 123, 3) := by decide +kernel
theorem dX9_count_140 : decode cX9_count 140 = .ok (.ireturn, 1) := by decide +kernel
theorem dX9_count_141 : decode cX9_count 141 = .ok (.aload_n 0, 1) := by decide +kernel
theorem dX9_count_142 : decode cX9_count 142 = .ok (.getfield 20, 3) := by decide +kernel
theorem dX9_count_145 : decode cX9_count 145 = .ok (.getfield 108, 3) := by decide +kernel
theorem dX9_count_148 : decode cX9_count 148 = .ok (.iconst 2, 1) := by decide +kernel
theorem dX9_count_149 : decode cX9_count 149 = .ok (.invokevirtual 124, 3) := by decide +kernel
theorem dX9_count_152 : decode cX9_count 152 = .ok (.ireturn, 1) := by decide +kernel
theorem dX9_count_153 : decode cX9_count 153 = .ok (.aload_n 0, 1) := by decide +kernel
theorem dX9_count_154 : decode cX9_count 154 = .ok (.getfield 20, 3) := by decide +kernel
theorem dX9_count_157 : decode cX9_count 157 = .ok (.getfield 108, 3) := by decide +kernel
theorem dX9_count_160 : decode cX9_count 160 = .ok (.iconst 1, 1) := by decide +kernel
theorem dX9_count_161 : decode cX9_count 161 = .ok (.invokevirtual 124, 3) := by decide +kernel
theorem dX9_count_164 : decode cX9_count 164 = .ok (.ireturn, 1) := by decide +kernel
theorem dX9_count_165 : decode cX9_count 165 = .ok (.aload_n 0, 1) := by decide +kernel
theorem dX9_count_166 : decode cX9_count 166 = .ok (.getfield 20, 3) := by decide +kernel
theorem dX9_count_169 : decode cX9_count 169 = .ok (.getfield 128, 3) := by decide +kernel
theorem dX9_count_172 : decode cX9_count 172 = .ok (.ireturn, 1) := by decide +kernel
theorem dX9_count_173 : decode cX9_count 173 = .ok (.aload_n 0, 1) := by decide +kernel
theorem dX9_count_174 : decode cX9_count 174 = .ok (.getfield 20, 3) := by decide +kernel
theorem dX9_count_177 : decode cX9_count 177 = .ok (.getfield 131, 3) := by decide +kernel
theorem dX9_count_180 : decode cX9_count 180 = .ok (.ireturn, 1) := by decide +kernel
theorem dX9_count_181 : decode cX9_count 181 = .ok (.aload_n 0, 1) := by decide +kernel
theorem dX9_count_182 : decode cX9_count 182 = .ok (.getfield 20, 3) := by decide +kernel
theorem dX9_count_185 : decode cX9_count 185 = .ok (.invokevirtual 134, 3) := by decide +kernel
theorem dX9_count_188 : decode cX9_count 188 = .ok (.ireturn, 1) := by decide +kernel
theorem dX9_count_189 : decode cX9_count 189 = .ok (.aload_n 0, 1) := by decide +kernel
theorem dX9_count_190 : decode cX9_count 190 = .ok (.getfield 20, 3) := by decide +kernel
theorem dX9_count_193 : decode cX9_count 193 = .ok (.getfield 114, 3) := by decide +kernel
theorem dX9_count_196 : decode cX9_count 196 = .ok (.iconst 0, 1) := by decide +kernel
theorem dX9_count_197 : decode cX9_count 197 = .ok (.aload_n 0, 1) := by decide +kernel
theorem dX9_count_198 : decode cX9_count 198 = .ok (.getfield 20, 3) := by decide +kernel
theorem dX9_count_201 : decode cX9_count 201 = .ok (.getfield 114, 3) := by decide +kernel
theorem dX9_count_204 : decode cX9_count 204 = .ok (.getfield 118, 3) := by decide +kernel
theorem dX9_count_207 : decode cX9_count 207 = .ok (.invokevirtual 138, 3) := by decide +kernel
theorem dX9_count_210 : decode cX9_count 210 = .ok (.ireturn, 1) := by decide +kernel
theorem dX9_count_211 : decode cX9_count 211 = .ok (.aload_n 0, 1) := by decide +kernel
theorem dX9_count_212 : decode cX9_count 212 = .ok (.getfield 20, 3) := by decide +kernel
theorem dX9_count_215 : decode cX9_count 215 = .ok (.iconst 1, 1) := by decide +kernel
theorem dX9_count_216 : decode cX9_count 216 = .ok (.invokevirtual 144, 3) := by decide +kernel
theorem dX9_count_219 : decode cX9_count 219 = .ok (.ireturn, 1) := by decide +kernel
theorem dX9_count_220 : decode cX9_count 220 = .ok (.aload_n 0, 1) := by decide +kernel
theorem dX9_count_221 : decode cX9_count 221 = .ok (.getfield 20, 3) := by decide +kernel
theorem dX9_count_224 : decode cX9_count 224 = .ok (.iconst 2, 1) := by decide +kernel
theorem dX9_count_225 : decode cX9_count 225 = .ok (.invokevirtual 144, 3) := by decide +kernel
theorem dX9_count_228 : decode cX9_count 228 = .ok (.ireturn, 1) := by decide +kernel
theorem dX9_count_229 : decode cX9_count 229 = .ok (.aload_n 0, 1) := by decide +kernel
theorem dX9_count_230 : decode cX9_count 230 = .ok (.getfield 20, 3) := by decide +kernel
theorem dX9_count_233 : decode cX9_count 233 = .ok (.invokevirtual 147, 3) := by decide +kernel
theorem dX9_count_236 : decode cX9_count 236 = .ok (.ireturn, 1) := by decide +kernel
theorem dX9_count_237 : decode cX9_count 237 = .ok (.aload_n 0, 1) := by decide +kernel
theorem dX9_count_238 : decode cX9_count 238 = .ok (.getfield 20, 3) := by decide +kernel
theorem dX9_count_241 : decode cX9_count 241 = .ok (.iconst 0, 1) := by decide +kernel
theorem dX9_count_242 : decode cX9_count 242 = .ok (.aload_n 0, 1) := by decide +kernel
theorem dX9_count_243 : decode cX9_count 243 = .ok (.getfield 20, 3) := by decide +kernel
theorem dX9_count_246 : decode cX9_count 246 = .ok (.getfield 114, 3) := by decide +kernel
theorem dX9_count_249 : decode cX9_count 249 = .ok (.getfield 118, 3) := by decide +kernel
theorem dX9_count_252 : decode cX9_count 252 = .ok (.invokevirtual 150, 3) := by decide +kernel
theorem dX9_count_255 : decode cX9_count 255 = .ok (.ireturn, 1) := by decide +kernel
theorem dX9_requireAct_0 : decode cX9_requireAct 0 = .ok (.iload_n 1, 1) := by decide +kernel
theorem dX9_requireAct_1 : decode cX9_requireAct 1 = .ok (.iconst 1, 1) := by decide +kernel
theorem dX9_requireAct_2 : decode cX9_requireAct 2 = .ok (.if_icmp .lt 14, 3) := by decide +kernel
theorem dX9_requireAct_5 : decode cX9_requireAct 5 = .ok (.iload_n 1, 1) := by decide +kernel
theorem dX9_requireAct_6 : decode cX9_requireAct 6 = .ok (.aload_n 0, 1) := by decide +kernel
theorem dX9_requireAct_7 : decode cX9_requireAct 7 = .ok (.getfield 20, 3) := by decide +kernel
theorem dX9_requireAct_10 : decode cX9_requireAct 10 = .ok (.getfield 92, 3) := by decide +kernel
theorem dX9_requireAct_13 : decode cX9_requireAct 13 = .ok (.if_icmp .le 14, 3) := by decide +kernel
theorem dX9_requireAct_16 : decode cX9_requireAct 16 = .ok (.new 238, 3) := by decide +kernel
theorem dX9_requireAct_19 : decode cX9_requireAct 19 = .ok (.dup, 1) := by decide +kernel
theorem dX9_requireAct_20 : decode cX9_requireAct 20 = .ok (.ldc_w 520, 3) := by decide +kernel
theorem dX9_requireAct_23 : decode cX9_requireAct 23 = .ok (.invokespecial 242, 3) := by decide +kernel
theorem dX9_requireAct_26 : decode cX9_requireAct 26 = .ok (.athrow, 1) := by decide +kernel
theorem dX9_requireAct_27 : decode cX9_requireAct 27 = .ok (.aload_n 0, 1) := by decide +kernel
theorem dX9_requireAct_28 : decode cX9_requireAct 28 = .ok (.getfield 20, 3) := by decide +kernel
theorem dX9_requireAct_31 : decode cX9_requireAct 31 = .ok (.getfield 522, 3) := by decide +kernel
theorem dX9_requireAct_34 : decode cX9_requireAct 34 = .ok (.iload_n 1, 1) := by decide +kernel
theorem dX9_requireAct_35 : decode cX9_requireAct 35 = .ok (.iconst 1, 1) := by decide +kernel
theorem dX9_requireAct_36 : decode cX9_requireAct 36 = .ok (.isub, 1) := by decide +kernel
theorem dX9_requireAct_37 : decode cX9_requireAct 37 = .ok (.aaload, 1) := by decide +kernel
theorem dX9_requireAct_38 : decode cX9_requireAct 38 = .ok (.areturn, 1) := by decide +kernel
theorem dX9_act_0 : decode cX9_act 0 = .ok (.aload_n 0, 1) := by decide +kernel
theorem dX9_act_1 : decode cX9_act 1 = .ok (.invokevirtual 95, 3) := by decide +kernel
theorem dX9_act_4 : decode cX9_act 4 = .ok (.aload_n 0, 1) := by decide +kernel
theorem dX9_act_5 : decode cX9_act 5 = .ok (.iload_n 1, 1) := by decide +kernel
theorem dX9_act_6 : decode cX9_act 6 = .ok (.invokevirtual 153, 3) := by decide +kernel
theorem dX9_act_9 : decode cX9_act 9 = .ok (.astore_n 3, 1) := by decide +kernel
theorem dX9_act_10 : decode cX9_act 10 = .ok (.iload_n 2, 1) := by decide +kernel
theorem dX9_act_11 : decode cX9_act 11 = .ok (.bipush 11, 2) := by decide +kernel
theorem dX9_act_13 : decode cX9_act 13 = .ok (.invokestatic 98, 3) := by decide +kernel
theorem dX9_act_16 : decode cX9_act 16 = .ok (.iload_n 2, 1) := by decide +kernel
theorem dX9_act_17 : decode cX9_act 17 = .ok (.tableswitch 177 0 10 #[59, 64, 69, 74, 79, 84, 103, 122, 141, 153, 172], 59) := by decide +kernel
theorem dX9_act_76 : decode cX9_act 76 = .ok (.aload_n 3, 1) := by decide +kernel
theorem dX9_act_77 : decode cX9_act 77 = .ok (.getfield 157, 3) := by decide +kernel
theorem dX9_act_80 : decode cX9_act 80 = .ok (.ireturn, 1) := by decide +kernel
theorem dX9_act_81 : decode cX9_act 81 = .ok (.aload_n 3, 1) := by decide +kernel
theorem dX9_act_82 : decode cX9_act 82 = .ok (.getfield 160, 3) := by decide +kernel
theorem dX9_act_85 : decode cX9_act 85 = .ok (.ireturn, 1) := by decide +kernel
theorem dX9_act_86 : decode cX9_act 86 = .ok (.aload_n 3, 1) := by decide +kernel
theorem dX9_act_87 : decode cX9_act 87 = .ok (.getfield 163, 3) := by decide +kernel
theorem dX9_act_90 : decode cX9_act 90 = .ok (.ireturn, 1) := by decide +kernel
theorem dX9_act_91 : decode cX9_act 91 = .ok (.aload_n 3, 1) := by decide +kernel
theorem dX9_act_92 : decode cX9_act 92 = .ok (.getfield 166, 3) := by decide +kernel
theorem dX9_act_95 : decode cX9_act 95 = .ok (.ireturn, 1) := by decide +kernel
theorem dX9_act_96 : decode cX9_act 96 = .ok (.aload_n 3, 1) := by decide +kernel
theorem dX9_act_97 : decode cX9_act 97 = .ok (.getfield 169, 3) := by decide +kernel
theorem dX9_act_100 : decode cX9_act 100 = .ok (.ireturn, 1) := by decide +kernel
theorem dX9_act_101 : decode cX9_act 101 = .ok (.aload_n 0, 1) := by decide +kernel
theorem dX9_act_102 : decode cX9_act 102 = .ok (.getfield 20, 3) := by decide +kernel
theorem dX9_act_105 : decode cX9_act 105 = .ok (.getfield 114, 3) := by decide +kernel
theorem dX9_act_108 : decode cX9_act 108 = .ok (.aload_n 3, 1) := by decide +kernel
theorem dX9_act_109 : decode cX9_act 109 = .ok (.getfield 170, 3) := by decide +kernel
theorem dX9_act_112 : decode cX9_act 112 = .ok (.aload_n 3, 1) := by decide +kernel
theorem dX9_act_113 : decode cX9_act 113 = .ok (.getfield 169, 3) := by decide +kernel
theorem dX9_act_116 : decode cX9_act 116 = .ok (.invokevirtual 138, 3) := by decide +kernel
theorem dX9_act_119 : decode cX9_act 119 = .ok (.ireturn, 1) := by decide +kernel
theorem dX9_act_120 : decode cX9_act 120 = .ok (.aload_n 0, 1) := by decide +kernel
theorem dX9_act_121 : decode cX9_act 121 = .ok (.getfield 20, 3) := by decide +kernel
theorem dX9_act_124 : decode cX9_act 124 = .ok (.getfield 114, 3) := by decide +kernel
theorem dX9_act_127 : decode cX9_act 127 = .ok (.aload_n 3, 1) := by decide +kernel
theorem dX9_act_128 : decode cX9_act 128 = .ok (.getfield 170, 3) := by decide +kernel
theorem dX9_act_131 : decode cX9_act 131 = .ok (.aload_n 3, 1) := by decide +kernel
theorem dX9_act_132 : decode cX9_act 132 = .ok (.getfield 169, 3) := by decide +kernel
theorem dX9_act_135 : decode cX9_act 135 = .ok (.invokevirtual 173, 3) := by decide +kernel
theorem dX9_act_138 : decode cX9_act 138 = .ok (.ireturn, 1) := by decide +kernel
theorem dX9_act_139 : decode cX9_act 139 = .ok (.aload_n 0, 1) := by decide +kernel
theorem dX9_act_140 : decode cX9_act 140 = .ok (.getfield 20, 3) := by decide +kernel
theorem dX9_act_143 : decode cX9_act 143 = .ok (.getfield 114, 3) := by decide +kernel
theorem dX9_act_146 : decode cX9_act 146 = .ok (.aload_n 3, 1) := by decide +kernel
theorem dX9_act_147 : decode cX9_act 147 = .ok (.getfield 170, 3) := by decide +kernel
theorem dX9_act_150 : decode cX9_act 150 = .ok (.aload_n 3, 1) := by decide +kernel
theorem dX9_act_151 : decode cX9_act 151 = .ok (.getfield 169, 3) := by decide +kernel
theorem dX9_act_154 : decode cX9_act 154 = .ok (.invokevirtual 176, 3) := by decide +kernel
theorem dX9_act_157 : decode cX9_act 157 = .ok (.ireturn, 1) := by decide +kernel
theorem dX9_act_158 : decode cX9_act 158 = .ok (.aload_n 0, 1) := by decide +kernel
theorem dX9_act_159 : decode cX9_act 159 = .ok (.getfield 20, 3) := by decide +kernel
theorem dX9_act_162 : decode cX9_act 162 = .ok (.aload_n 3, 1) := by decide +kernel
theorem dX9_act_163 : decode cX9_act 163 = .ok (.getfield 170, 3) := by decide +kernel
theorem dX9_act_166 : decode cX9_act 166 = .ok (.invokevirtual 179, 3) := by decide +kernel
theorem dX9_act_169 : decode cX9_act 169 = .ok (.ireturn, 1) := by decide +kernel
theorem dX9_act_170 : decode cX9_act 170 = .ok (.aload_n 0, 1) := by decide +kernel
theorem dX9_act_171 : decode cX9_act 171 = .ok (.getfield 20, 3) := by decide +kernel
theorem dX9_act_174 : decode cX9_act 174 = .ok (.aload_n 3, 1) := by decide +kernel
theorem dX9_act_175 : decode cX9_act 175 = .ok (.getfield 170, 3) := by decide +kernel
theorem dX9_act_178 : decode cX9_act 178 = .ok (.aload_n 3, 1) := by decide +kernel
theorem dX9_act_179 : decode cX9_act 179 = .ok (.getfield 169, 3) := by decide +kernel
theorem dX9_act_182 : decode cX9_act 182 = .ok (.iadd, 1) := by decide +kernel
theorem dX9_act_183 : decode cX9_act 183 = .ok (.iconst 1, 1) := by decide +kernel
theorem dX9_act_184 : decode cX9_act 184 = .ok (.isub, 1) := by decide +kernel
theorem dX9_act_185 : decode cX9_act 185 = .ok (.invokevirtual 179, 3) := by decide +kernel
theorem dX9_act_188 : decode cX9_act 188 = .ok (.ireturn, 1) := by decide +kernel
theorem dX9_act_189 : decode cX9_act 189 = .ok (.aload_n 3, 1) := by decide +kernel
theorem dX9_act_190 : decode cX9_act 190 = .ok (.getfield 182, 3) := by decide +kernel
theorem dX9_act_193 : decode cX9_act 193 = .ok (.ireturn, 1) := by decide +kernel
theorem dX9_act_194 : decode cX9_act 194 = .ok (.aload_n 0, 1) := by decide +kernel
theorem dX9_act_195 : decode cX9_act 195 = .ok (.getfield 20, 3) := by decide +kernel
theorem dX9_act_198 : decode cX9_act 198 = .ok (.iload_n 1, 1) := by decide +kernel
theorem dX9_act_199 : decode cX9_act 199 = .ok (.invokevirtual 185, 3) := by decide +kernel
theorem dX9_act_202 : decode cX9_act 202 = .ok (.ireturn, 1) := by decide +kernel
theorem dX9_requireWord_0 : decode cX9_requireWord 0 = .ok (.iload_n 1, 1) := by decide +kernel
theorem dX9_requireWord_1 : decode cX9_requireWord 1 = .ok (.ifCond .lt 11, 3) := by decide +kernel
theorem dX9_requireWord_4 : decode cX9_requireWord 4 = .ok (.iload_n 1, 1) := by decide +kernel
theorem dX9_requireWord_5 : decode cX9_requireWord 5 = .ok (.aload_n 0, 1) := by decide +kernel
theorem dX9_requireWord_6 : decode cX9_requireWord 6 = .ok (.getfield 169, 3) := by decide +kernel
theorem dX9_requireWord_9 : decode cX9_requireWord 9 = .ok (.if_icmp .lt 14, 3) := by decide +kernel
theorem dX9_requireWord_12 : decode cX9_requireWord 12 = .ok (.new 238, 3) := by decide +kernel
theorem dX9_requireWord_15 : decode cX9_requireWord 15 = .ok (.dup, 1) := by decide +kernel
theorem dX9_requireWord_16 : decode cX9_requireWord 16 = .ok (.ldc_w 526, 3) := by decide +kernel
theorem dX9_requireWord_19 : decode cX9_requireWord 19 = .ok (.invokespecial 242, 3) := by decide +kernel
theorem dX9_requireWord_22 : decode cX9_requireWord 22 = .ok (.athrow, 1) := by decide +kernel
theorem dX9_requireWord_23 : decode cX9_requireWord 23 = .ok (.aload_n 0, 1) := by decide +kernel
theorem dX9_requireWord_24 : decode cX9_requireWord 24 = .ok (.getfield 170, 3) := by decide +kernel
theorem dX9_requireWord_27 : decode cX9_requireWord 27 = .ok (.iload_n 1, 1) := by decide +kernel
theorem dX9_requireWord_28 : decode cX9_requireWord 28 = .ok (.iadd, 1) := by decide +kernel
theorem dX9_requireWord_29 : decode cX9_requireWord 29 = .ok (.ireturn, 1) := by decide +kernel
theorem dX9_word_0 : decode cX9_word 0 = .ok (.aload_n 0, 1) := by decide +kernel
theorem dX9_word_1 : decode cX9_word 1 = .ok (.invokevirtual 95, 3) := by decide +kernel
theorem dX9_word_4 : decode cX9_word 4 = .ok (.aload_n 0, 1) := by decide +kernel
theorem dX9_word_5 : decode cX9_word 5 = .ok (.iload_n 1, 1) := by decide +kernel
theorem dX9_word_6 : decode cX9_word 6 = .ok (.invokevirtual 153, 3) := by decide +kernel
theorem dX9_word_9 : decode cX9_word 9 = .ok (.astore 4, 2) := by decide +kernel
theorem dX9_word_11 : decode cX9_word 11 = .ok (.aload 4, 2) := by decide +kernel
theorem dX9_word_13 : decode cX9_word 13 = .ok (.iload_n 2, 1) := by decide +kernel
theorem dX9_word_14 : decode cX9_word 14 = .ok (.invokestatic 188, 3) := by decide +kernel
theorem dX9_word_17 : decode cX9_word 17 = .ok (.istore 5, 2) := by decide +kernel
theorem dX9_word_19 : decode cX9_word 19 = .ok (.iload_n 3, 1) := by decide +kernel
theorem dX9_word_20 : decode cX9_word 20 = .ok (.bipush 7, 2) := by decide +kernel
theorem dX9_word_22 : decode cX9_word 22 = .ok (.invokestatic 98, 3) := by decide +kernel
theorem dX9_word_25 : decode cX9_word 25 = .ok (.aload_n 0, 1) := by decide +kernel
theorem dX9_word_26 : decode cX9_word 26 = .ok (.getfield 20, 3) := by decide +kernel
theorem dX9_word_29 : decode cX9_word 29 = .ok (.getfield 114, 3) := by decide +kernel
theorem dX9_word_32 : decode cX9_word 32 = .ok (.astore 6, 2) := by decide +kernel
theorem dX9_word_34 : decode cX9_word 34 = .ok (.iload_n 3, 1) := by decide +kernel
theorem dX9_word_35 : decode cX9_word 35 = .ok (.tableswitch 133 0 6 #[41, 51, 68, 81, 90, 102, 120], 41) := by decide +kernel
theorem dX9_word_76 : decode cX9_word 76 = .ok (.aload_n 0, 1) := by decide +kernel
theorem dX9_word_77 : decode cX9_word 77 = .ok (.getfield 20, 3) := by decide +kernel
theorem dX9_word_80 : decode cX9_word 80 = .ok (.iload 5, 2) := by decide +kernel
theorem dX9_word_82 : decode cX9_word 82 = .ok (.invokevirtual 179, 3) := by decide +kernel
theorem dX9_word_85 : decode cX9_word 85 = .ok (.ireturn, 1) := by decide +kernel
theorem dX9_word_86 : decode cX9_word 86 = .ok (.aload 6, 2) := by decide +kernel
theorem dX9_word_88 : decode cX9_word 88 = .ok (.getfield 192, 3) := by decide +kernel
theorem dX9_word_91 : decode cX9_word 91 = .ok (.iload 5, 2) := by decide +kernel
theorem dX9_word_93 : decode cX9_word 93 = .ok (.baload, 1) := by decide +kernel
theorem dX9_word_94 : decode cX9_word 94 = .ok (.ifCond .eq 7, 3) := by decide +kernel
theorem dX9_word_97 : decode cX9_word 97 = .ok (.iconst 1, 1) := by decide +kernel
theorem dX9_word_98 : decode cX9_word 98 = .ok (.goto 4, 3) := by decide +kernel
theorem dX9_word_101 : decode cX9_word 101 = .ok (.iconst 0, 1) := by decide +kernel
theorem dX9_word_102 : decode cX9_word 102 = .ok (.ireturn, 1) := by decide +kernel
theorem dX9_word_103 : decode cX9_word 103 = .ok (.aload 6, 2) := by decide +kernel
theorem dX9_word_105 : decode cX9_word 105 = .ok (.aload 4, 2) := by decide +kernel
theorem dX9_word_107 : decode cX9_word 107 = .ok (.getfield 170, 3) := by decide +kernel
theorem dX9_word_110 : decode cX9_word 110 = .ok (.iload 5, 2) := by decide +kernel
theorem dX9_word_112 : decode cX9_word 112 = .ok (.invokevirtual 195, 3) := by decide +kernel
theorem dX9_word_115 : decode cX9_word 115 = .ok (.ireturn, 1) := by decide +kernel
theorem dX9_word_116 : decode cX9_word 116 = .ok (.aload 6, 2) := by decide +kernel
theorem dX9_word_118 : decode cX9_word 118 = .ok (.getfield 198, 3) := by decide +kernel
theorem dX9_word_121 : decode cX9_word 121 = .ok (.iload 5, 2) := by decide +kernel
theorem dX9_word_123 : decode cX9_word 123 = .ok (.iaload, 1) := by decide +kernel
theorem dX9_word_124 : decode cX9_word 124 = .ok (.ireturn, 1) := by decide +kernel
theorem dX9_word_125 : decode cX9_word 125 = .ok (.aload 6, 2) := by decide +kernel
theorem dX9_word_127 : decode cX9_word 127 = .ok (.getfield 202, 3) := by decide +kernel
theorem dX9_word_130 : decode cX9_word 130 = .ok (.iload 5, 2) := by decide +kernel
theorem dX9_word_132 : decode cX9_word 132 = .ok (.laload, 1) := by decide +kernel
theorem dX9_word_133 : decode cX9_word 133 = .ok (.invokestatic 206, 3) := by decide +kernel
theorem dX9_word_136 : decode cX9_word 136 = .ok (.ireturn, 1) := by decide +kernel
theorem dX9_word_137 : decode cX9_word 137 = .ok (.aload_n 0, 1) := by decide +kernel
theorem dX9_word_138 : decode cX9_word 138 = .ok (.getfield 20, 3) := by decide +kernel
theorem dX9_word_141 : decode cX9_word 141 = .ok (.iload 5, 2) := by decide +kernel
theorem dX9_word_143 : decode cX9_word 143 = .ok (.invokevirtual 210, 3) := by decide +kernel
theorem dX9_word_146 : decode cX9_word 146 = .ok (.ifCond .eq 7, 3) := by decide +kernel
theorem dX9_word_149 : decode cX9_word 149 = .ok (.iconst 1, 1) := by decide +kernel
theorem dX9_word_150 : decode cX9_word 150 = .ok (.goto 4, 3) := by decide +kernel
theorem dX9_word_153 : decode cX9_word 153 = .ok (.iconst 0, 1) := by decide +kernel
theorem dX9_word_154 : decode cX9_word 154 = .ok (.ireturn, 1) := by decide +kernel
theorem dX9_word_155 : decode cX9_word 155 = .ok (.aload 6, 2) := by decide +kernel
theorem dX9_word_157 : decode cX9_word 157 = .ok (.aload 4, 2) := by decide +kernel
theorem dX9_word_159 : decode cX9_word 159 = .ok (.getfield 170, 3) := by decide +kernel
theorem dX9_word_162 : decode cX9_word 162 = .ok (.iload 5, 2) := by decide +kernel
theorem dX9_word_164 : decode cX9_word 164 = .ok (.invokevirtual 214, 3) := by decide +kernel
theorem dX9_word_167 : decode cX9_word 167 = .ok (.ireturn, 1) := by decide +kernel
theorem dX9_word_168 : decode cX9_word 168 = .ok (.aload_n 0, 1) := by decide +kernel
theorem dX9_word_169 : decode cX9_word 169 = .ok (.getfield 20, 3) := by decide +kernel
theorem dX9_word_172 : decode cX9_word 172 = .ok (.iload 5, 2) := by decide +kernel
theorem dX9_word_174 : decode cX9_word 174 = .ok (.invokevirtual 217, 3) := by decide +kernel
theorem dX9_word_177 : decode cX9_word 177 = .ok (.ireturn, 1) := by decide +kernel
theorem dX9_letter_0 : decode cX9_letter 0 = .ok (.aload_n 0, 1) := by decide +kernel
theorem dX9_letter_1 : decode cX9_letter 1 = .ok (.invokevirtual 95, 3) := by decide +kernel
theorem dX9_letter_4 : decode cX9_letter 4 = .ok (.aload_n 0, 1) := by decide +kernel
theorem dX9_letter_5 : decode cX9_letter 5 = .ok (.iload_n 1, 1) := by decide +kernel
theorem dX9_letter_6 : decode cX9_letter 6 = .ok (.invokevirtual 153, 3) := by decide +kernel
theorem dX9_letter_9 : decode cX9_letter 9 = .ok (.iload_n 2, 1) := by decide +kernel
theorem dX9_letter_10 : decode cX9_letter 10 = .ok (.invokestatic 188, 3) := by decide +kernel
theorem dX9_letter_13 : decode cX9_letter 13 = .ok (.istore 4, 2) := by decide +kernel
theorem dX9_letter_15 : decode cX9_letter 15 = .ok (.aload_n 0, 1) := by decide +kernel
theorem dX9_letter_16 : decode cX9_letter 16 = .ok (.getfield 20, 3) := by decide +kernel
theorem dX9_letter_19 : decode cX9_letter 19 = .ok (.getfield 114, 3) := by decide +kernel
theorem dX9_letter_22 : decode cX9_letter 22 = .ok (.getfield 202, 3) := by decide +kernel
theorem dX9_letter_25 : decode cX9_letter 25 = .ok (.iload 4, 2) := by decide +kernel
theorem dX9_letter_27 : decode cX9_letter 27 = .ok (.laload, 1) := by decide +kernel
theorem dX9_letter_28 : decode cX9_letter 28 = .ok (.iload_n 3, 1) := by decide +kernel
theorem dX9_letter_29 : decode cX9_letter 29 = .ok (.invokestatic 220, 3) := by decide +kernel
theorem dX9_letter_32 : decode cX9_letter 32 = .ok (.ireturn, 1) := by decide +kernel
theorem dX9_innerLetter_0 : decode cX9_innerLetter 0 = .ok (.aload_n 0, 1) := by decide +kernel
theorem dX9_innerLetter_1 : decode cX9_innerLetter 1 = .ok (.invokevirtual 95, 3) := by decide +kernel
theorem dX9_innerLetter_4 : decode cX9_innerLetter 4 = .ok (.aload_n 0, 1) := by decide +kernel
theorem dX9_innerLetter_5 : decode cX9_innerLetter 5 = .ok (.iload_n 1, 1) := by decide +kernel
theorem dX9_innerLetter_6 : decode cX9_innerLetter 6 = .ok (.invokevirtual 153, 3) := by decide +kernel
theorem dX9_innerLetter_9 : decode cX9_innerLetter 9 = .ok (.iload_n 2, 1) := by decide +kernel
theorem dX9_innerLetter_10 : decode cX9_innerLetter 10 = .ok (.invokestatic 188, 3) := by decide +kernel
theorem dX9_innerLetter_13 : decode cX9_innerLetter 13 = .ok (.istore 5, 2) := by decide +kernel
theorem dX9_innerLetter_15 : decode cX9_innerLetter 15 = .ok (.aload_n 0, 1) := by decide +kernel
theorem dX9_innerLetter_16 : decode cX9_innerLetter 16 = .ok (.getfield 20, 3) := by decide +kernel
theorem dX9_innerLetter_19 : decode cX9_innerLetter 19 = .ok (.getfield 114, 3) := by decide +kernel
theorem dX9_innerLetter_22 : decode cX9_innerLetter 22 = .ok (.iload 5, 2) := by decide +kernel
theorem dX9_innerLetter_24 : decode cX9_innerLetter 24 = .ok (.iload_n 3, 1) := by decide +kernel
theorem dX9_innerLetter_25 : decode cX9_innerLetter 25 = .ok (.invokevirtual 224, 3) := by decide +kernel
theorem dX9_innerLetter_28 : decode cX9_innerLetter 28 = .ok (.iload 4, 2) := by decide +kernel
theorem dX9_innerLetter_30 : decode cX9_innerLetter 30 = .ok (.invokestatic 220, 3) := by decide +kernel
theorem dX9_innerLetter_33 : decode cX9_innerLetter 33 = .ok (.ireturn, 1) := by decide +kernel
theorem dX9_clause_0 : decode cX9_clause 0 = .ok (.aload_n 0, 1) := by decide +kernel
theorem dX9_clause_1 : decode cX9_clause 1 = .ok (.invokevirtual 95, 3) := by decide +kernel
theorem dX9_clause_4 : decode cX9_clause 4 = .ok (.aload_n 0, 1) := by decide +kernel
theorem dX9_clause_5 : decode cX9_clause 5 = .ok (.iload_n 1, 1) := by decide +kernel
theorem dX9_clause_6 : decode cX9_clause 6 = .ok (.invokevirtual 153, 3) := by decide +kernel
theorem dX9_clause_9 : decode cX9_clause 9 = .ok (.astore 4, 2) := by decide +kernel
theorem dX9_clause_11 : decode cX9_clause 11 = .ok (.aload_n 0, 1) := by decide +kernel
theorem dX9_clause_12 : decode cX9_clause 12 = .ok (.getfield 20, 3) := by decide +kernel
theorem dX9_clause_15 : decode cX9_clause 15 = .ok (.getfield 228, 3) := by decide +kernel
theorem dX9_clause_18 : decode cX9_clause 18 = .ok (.astore 5, 2) := by decide +kernel
theorem dX9_clause_20 : decode cX9_clause 20 = .ok (.aload 5, 2) := by decide +kernel
theorem dX9_clause_22 : decode cX9_clause 22 = .ok (.aload_n 0, 1) := by decide +kernel
theorem dX9_clause_23 : decode cX9_clause 23 = .ok (.getfield 20, 3) := by decide +kernel
theorem dX9_clause_26 : decode cX9_clause 26 = .ok (.getfield 114, 3) := by decide +kernel
theorem dX9_clause_29 : decode cX9_clause 29 = .ok (.aload 4, 2) := by decide +kernel
theorem dX9_clause_31 : decode cX9_clause 31 = .ok (.iload_n 2, 1) := by decide +kernel
theorem dX9_clause_32 : decode cX9_clause 32 = .ok (.invokevirtual 232, 3) := by decide +kernel
theorem dX9_clause_35 : decode cX9_clause 35 = .ok (.ifCond .ne 13, 3) := by decide +kernel
theorem dX9_clause_38 : decode cX9_clause 38 = .ok (.new 238, 3) := by decide +kernel
theorem dX9_clause_41 : decode cX9_clause 41 = .ok (.dup, 1) := by decide +kernel
theorem dX9_clause_42 : decode cX9_clause 42 = .ok (.ldc 240, 2) := by decide +kernel
theorem dX9_clause_44 : decode cX9_clause 44 = .ok (.invokespecial 242, 3) := by decide +kernel
theorem dX9_clause_47 : decode cX9_clause 47 = .ok (.athrow, 1) := by decide +kernel
theorem dX9_clause_48 : decode cX9_clause 48 = .ok (.iload_n 3, 1) := by decide +kernel
theorem dX9_clause_49 : decode cX9_clause 49 = .ok (.iconst 5, 1) := by decide +kernel
theorem dX9_clause_50 : decode cX9_clause 50 = .ok (.invokestatic 98, 3) := by decide +kernel
theorem dX9_clause_53 : decode cX9_clause 53 = .ok (.iload_n 3, 1) := by decide +kernel
theorem dX9_clause_54 : decode cX9_clause 54 = .ok (.tableswitch 99 0 4 #[34, 46, 66, 72, 93], 34) := by decide +kernel
theorem dX9_clause_88 : decode cX9_clause 88 = .ok (.aload 5, 2) := by decide +kernel
theorem dX9_clause_90 : decode cX9_clause 90 = .ok (.getfield 243, 3) := by decide +kernel
theorem dX9_clause_93 : decode cX9_clause 93 = .ok (.aload 4, 2) := by decide +kernel
theorem dX9_clause_95 : decode cX9_clause 95 = .ok (.getfield 170, 3) := by decide +kernel
theorem dX9_clause_98 : decode cX9_clause 98 = .ok (.isub, 1) := by decide +kernel
theorem dX9_clause_99 : decode cX9_clause 99 = .ok (.ireturn, 1) := by decide +kernel
theorem dX9_clause_100 : decode cX9_clause 100 = .ok (.aload 5, 2) := by decide +kernel
theorem dX9_clause_102 : decode cX9_clause 102 = .ok (.getfield 243, 3) := by decide +kernel
theorem dX9_clause_105 : decode cX9_clause 105 = .ok (.aload 5, 2) := by decide +kernel
theorem dX9_clause_107 : decode cX9_clause 107 = .ok (.getfield 244, 3) := by decide +kernel
theorem dX9_clause_110 : decode cX9_clause 110 = .ok (.iadd, 1) := by decide +kernel
theorem dX9_clause_111 : decode cX9_clause 111 = .ok (.iconst 1, 1) := by decide +kernel
theorem dX9_clause_112 : decode cX9_clause 112 = .ok (.isub, 1) := by decide +kernel
theorem dX9_clause_113 : decode cX9_clause 113 = .ok (.aload 4, 2) := by decide +kernel
theorem dX9_clause_115 : decode cX9_clause 115 = .ok (.getfield 170, 3) := by decide +kernel
theorem dX9_clause_118 : decode cX9_clause 118 = .ok (.isub, 1) := by decide +kernel
theorem dX9_clause_119 : decode cX9_clause 119 = .ok (.ireturn, 1) := by decide +kernel
theorem dX9_clause_120 : decode cX9_clause 120 = .ok (.aload 5, 2) := by decide +kernel
theorem dX9_clause_122 : decode cX9_clause 122 = .ok (.getfield 244, 3) := by decide +kernel
theorem dX9_clause_125 : decode cX9_clause 125 = .ok (.ireturn, 1) := by decide +kernel
theorem dX9_clause_126 : decode cX9_clause 126 = .ok (.aload_n 0, 1) := by decide +kernel
theorem dX9_clause_127 : decode cX9_clause 127 = .ok (.getfield 20, 3) := by decide +kernel
theorem dX9_clause_130 : decode cX9_clause 130 = .ok (.getfield 114, 3) := by decide +kernel
theorem dX9_clause_133 : decode cX9_clause 133 = .ok (.aload 5, 2) := by decide +kernel
theorem dX9_clause_135 : decode cX9_clause 135 = .ok (.getfield 243, 3) := by decide +kernel
theorem dX9_clause_138 : decode cX9_clause 138 = .ok (.aload 5, 2) := by decide +kernel
theorem dX9_clause_140 : decode cX9_clause 140 = .ok (.getfield 244, 3) := by decide +kernel
theorem dX9_clause_143 : decode cX9_clause 143 = .ok (.invokevirtual 245, 3) := by decide +kernel
theorem dX9_clause_146 : decode cX9_clause 146 = .ok (.ireturn, 1) := by decide +kernel
theorem dX9_clause_147 : decode cX9_clause 147 = .ok (.aload 5, 2) := by decide +kernel
theorem dX9_clause_149 : decode cX9_clause 149 = .ok (.getfield 248, 3) := by decide +kernel
theorem dX9_clause_152 : decode cX9_clause 152 = .ok (.ireturn, 1) := by decide +kernel
theorem dX9_clause_153 : decode cX9_clause 153 = .ok (.aload 5, 2) := by decide +kernel
theorem dX9_clause_155 : decode cX9_clause 155 = .ok (.getfield 251, 3) := by decide +kernel
theorem dX9_clause_158 : decode cX9_clause 158 = .ok (.ireturn, 1) := by decide +kernel
theorem dX9_requireLeaf_0 : decode cX9_requireLeaf 0 = .ok (.aload_n 0, 1) := by decide +kernel
theorem dX9_requireLeaf_1 : decode cX9_requireLeaf 1 = .ok (.getfield 20, 3) := by decide +kernel
theorem dX9_requireLeaf_4 : decode cX9_requireLeaf 4 = .ok (.getfield 108, 3) := by decide +kernel
theorem dX9_requireLeaf_7 : decode cX9_requireLeaf 7 = .ok (.iload_n 1, 1) := by decide +kernel
theorem dX9_requireLeaf_8 : decode cX9_requireLeaf 8 = .ok (.invokevirtual 534, 3) := by decide +kernel
theorem dX9_requireLeaf_11 : decode cX9_requireLeaf 11 = .ok (.ifCond .ne 14, 3) := by decide +kernel
theorem dX9_requireLeaf_14 : decode cX9_requireLeaf 14 = .ok (.new 238, 3) := by decide +kernel
theorem dX9_requireLeaf_17 : decode cX9_requireLeaf 17 = .ok (.dup, 1) := by decide +kernel
theorem dX9_requireLeaf_18 : decode cX9_requireLeaf 18 = .ok (.ldc_w 537, 3) := by decide +kernel
theorem dX9_requireLeaf_21 : decode cX9_requireLeaf 21 = .ok (.invokespecial 242, 3) := by decide +kernel
theorem dX9_requireLeaf_24 : decode cX9_requireLeaf 24 = .ok (.athrow, 1) := by decide +kernel
theorem dX9_requireLeaf_25 : decode cX9_requireLeaf 25 = .ok (.return_, 1) := by decide +kernel
theorem dX9_leaf_0 : decode cX9_leaf 0 = .ok (.aload_n 0, 1) := by decide +kernel
theorem dX9_leaf_1 : decode cX9_leaf 1 = .ok (.invokevirtual 95, 3) := by decide +kernel
theorem dX9_leaf_4 : decode cX9_leaf 4 = .ok (.aload_n 0, 1) := by decide +kernel
theorem dX9_leaf_5 : decode cX9_leaf 5 = .ok (.iload_n 1, 1) := by decide +kernel
theorem dX9_leaf_6 : decode cX9_leaf 6 = .ok (.invokevirtual 254, 3) := by decide +kernel
theorem dX9_leaf_9 : decode cX9_leaf 9 = .ok (.iload_n 2, 1) := by decide +kernel
theorem dX9_leaf_10 : decode cX9_leaf 10 = .ok (.iconst 5, 1) := by decide +kernel
theorem dX9_leaf_11 : decode cX9_leaf 11 = .ok (.invokestatic 98, 3) := by decide +kernel
theorem dX9_leaf_14 : decode cX9_leaf 14 = .ok (.iload_n 2, 1) := by decide +kernel
theorem dX9_leaf_15 : decode cX9_leaf 15 = .ok (.tableswitch 87 0 4 #[33, 45, 54, 63, 75], 33) := by decide +kernel
theorem dX9_leaf_48 : decode cX9_leaf 48 = .ok (.aload_n 0, 1) := by decide +kernel
theorem dX9_leaf_49 : decode cX9_leaf 49 = .ok (.getfield 20, 3) := by decide +kernel
theorem dX9_leaf_52 : decode cX9_leaf 52 = .ok (.getfield 108, 3) := by decide +kernel
theorem dX9_leaf_55 : decode cX9_leaf 55 = .ok (.iload_n 1, 1) := by decide +kernel
theorem dX9_leaf_56 : decode cX9_leaf 56 = .ok (.invokevirtual 257, 3) := by decide +kernel
theorem dX9_leaf_59 : decode cX9_leaf 59 = .ok (.ireturn, 1) := by decide +kernel
theorem dX9_leaf_60 : decode cX9_leaf 60 = .ok (.aload_n 0, 1) := by decide +kernel
theorem dX9_leaf_61 : decode cX9_leaf 61 = .ok (.getfield 20, 3) := by decide +kernel
theorem dX9_leaf_64 : decode cX9_leaf 64 = .ok (.iload_n 1, 1) := by decide +kernel
theorem dX9_leaf_65 : decode cX9_leaf 65 = .ok (.invokevirtual 260, 3) := by decide +kernel
theorem dX9_leaf_68 : decode cX9_leaf 68 = .ok (.ireturn, 1) := by decide +kernel
theorem dX9_leaf_69 : decode cX9_leaf 69 = .ok (.aload_n 0, 1) := by decide +kernel
theorem dX9_leaf_70 : decode cX9_leaf 70 = .ok (.getfield 20, 3) := by decide +kernel
theorem dX9_leaf_73 : decode cX9_leaf 73 = .ok (.iload_n 1, 1) := by decide +kernel
theorem dX9_leaf_74 : decode cX9_leaf 74 = .ok (.invokevirtual 263, 3) := by decide +kernel
theorem dX9_leaf_77 : decode cX9_leaf 77 = .ok (.ireturn, 1) := by decide +kernel
theorem dX9_leaf_78 : decode cX9_leaf 78 = .ok (.aload_n 0, 1) := by decide +kernel
theorem dX9_leaf_79 : decode cX9_leaf 79 = .ok (.getfield 20, 3) := by decide +kernel
theorem dX9_leaf_82 : decode cX9_leaf 82 = .ok (.getfield 108, 3) := by decide +kernel
theorem dX9_leaf_85 : decode cX9_leaf 85 = .ok (.iload_n 1, 1) := by decide +kernel
theorem dX9_leaf_86 : decode cX9_leaf 86 = .ok (.invokevirtual 266, 3) := by decide +kernel
theorem dX9_leaf_89 : decode cX9_leaf 89 = .ok (.ireturn, 1) := by decide +kernel
theorem dX9_leaf_90 : decode cX9_leaf 90 = .ok (.aload_n 0, 1) := by decide +kernel
theorem dX9_leaf_91 : decode cX9_leaf 91 = .ok (.getfield 20, 3) := by decide +kernel
theorem dX9_leaf_94 : decode cX9_leaf 94 = .ok (.getfield 108, 3) := by decide +kernel
theorem dX9_leaf_97 : decode cX9_leaf 97 = .ok (.iload_n 1, 1) := by decide +kernel
theorem dX9_leaf_98 : decode cX9_leaf 98 = .ok (.invokevirtual 269, 3) := by decide +kernel
theorem dX9_leaf_101 : decode cX9_leaf 101 = .ok (.ireturn, 1) := by decide +kernel
theorem dX9_leaf_102 : decode cX9_leaf 102 = .ok (.aload_n 0, 1) := by decide +kernel
theorem dX9_leaf_103 : decode cX9_leaf 103 = .ok (.getfield 20, 3) := by decide +kernel
theorem dX9_leaf_106 : decode cX9_leaf 106 = .ok (.iload_n 1, 1) := by decide +kernel
theorem dX9_leaf_107 : decode cX9_leaf 107 = .ok (.invokevirtual 272, 3) := by decide +kernel
theorem dX9_leaf_110 : decode cX9_leaf 110 = .ok (.ireturn, 1) := by decide +kernel
theorem dX9_requireCopy_0 : decode cX9_requireCopy 0 = .ok (.iload_n 1, 1) := by decide +kernel
theorem dX9_requireCopy_1 : decode cX9_requireCopy 1 = .ok (.ifCond .lt 14, 3) := by decide +kernel
theorem dX9_requireCopy_4 : decode cX9_requireCopy 4 = .ok (.iload_n 1, 1) := by decide +kernel
theorem dX9_requireCopy_5 : decode cX9_requireCopy 5 = .ok (.aload_n 0, 1) := by decide +kernel
theorem dX9_requireCopy_6 : decode cX9_requireCopy 6 = .ok (.getfield 20, 3) := by decide +kernel
theorem dX9_requireCopy_9 : decode cX9_requireCopy 9 = .ok (.getfield 128, 3) := by decide +kernel
theorem dX9_requireCopy_12 : decode cX9_requireCopy 12 = .ok (.if_icmp .lt 14, 3) := by decide +kernel
theorem dX9_requireCopy_15 : decode cX9_requireCopy 15 = .ok (.new 238, 3) := by decide +kernel
theorem dX9_requireCopy_18 : decode cX9_requireCopy 18 = .ok (.dup, 1) := by decide +kernel
theorem dX9_requireCopy_19 : decode cX9_requireCopy 19 = .ok (.ldc_w 528, 3) := by decide +kernel
theorem dX9_requireCopy_22 : decode cX9_requireCopy 22 = .ok (.invokespecial 242, 3) := by decide +kernel
theorem dX9_requireCopy_25 : decode cX9_requireCopy 25 = .ok (.athrow, 1) := by decide +kernel
theorem dX9_requireCopy_26 : decode cX9_requireCopy 26 = .ok (.aload_n 0, 1) := by decide +kernel
theorem dX9_requireCopy_27 : decode cX9_requireCopy 27 = .ok (.getfield 20, 3) := by decide +kernel
theorem dX9_requireCopy_30 : decode cX9_requireCopy 30 = .ok (.getfield 530, 3) := by decide +kernel
theorem dX9_requireCopy_33 : decode cX9_requireCopy 33 = .ok (.iload_n 1, 1) := by decide +kernel
theorem dX9_requireCopy_34 : decode cX9_requireCopy 34 = .ok (.aaload, 1) := by decide +kernel
theorem dX9_requireCopy_35 : decode cX9_requireCopy 35 = .ok (.areturn, 1) := by decide +kernel
theorem dX9_copy_0 : decode cX9_copy 0 = .ok (.aload_n 0, 1) := by decide +kernel
theorem dX9_copy_1 : decode cX9_copy 1 = .ok (.invokevirtual 95, 3) := by decide +kernel
theorem dX9_copy_4 : decode cX9_copy 4 = .ok (.aload_n 0, 1) := by decide +kernel
theorem dX9_copy_5 : decode cX9_copy 5 = .ok (.iload_n 1, 1) := by decide +kernel
theorem dX9_copy_6 : decode cX9_copy 6 = .ok (.invokevirtual 275, 3) := by decide +kernel
theorem dX9_copy_9 : decode cX9_copy 9 = .ok (.astore_n 3, 1) := by decide +kernel
theorem dX9_copy_10 : decode cX9_copy 10 = .ok (.iload_n 2, 1) := by decide +kernel
theorem dX9_copy_11 : decode cX9_copy 11 = .ok (.iconst 4, 1) := by decide +kernel
theorem dX9_copy_12 : decode cX9_copy 12 = .ok (.invokestatic 98, 3) := by decide +kernel
theorem dX9_copy_15 : decode cX9_copy 15 = .ok (.iload_n 2, 1) := by decide +kernel
theorem dX9_copy_16 : decode cX9_copy 16 = .ok (.tableswitch 52 0 3 #[32, 37, 42, 47], 32) := by decide +kernel
theorem dX9_copy_48 : decode cX9_copy 48 = .ok (.aload_n 3, 1) := by decide +kernel
theorem dX9_copy_49 : decode cX9_copy 49 = .ok (.getfield 279, 3) := by decide +kernel
theorem dX9_copy_52 : decode cX9_copy 52 = .ok (.ireturn, 1) := by decide +kernel
theorem dX9_copy_53 : decode cX9_copy 53 = .ok (.aload_n 3, 1) := by decide +kernel
theorem dX9_copy_54 : decode cX9_copy 54 = .ok (.getfield 284, 3) := by decide +kernel
theorem dX9_copy_57 : decode cX9_copy 57 = .ok (.ireturn, 1) := by decide +kernel
theorem dX9_copy_58 : decode cX9_copy 58 = .ok (.aload_n 3, 1) := by decide +kernel
theorem dX9_copy_59 : decode cX9_copy 59 = .ok (.getfield 287, 3) := by decide +kernel
theorem dX9_copy_62 : decode cX9_copy 62 = .ok (.ireturn, 1) := by decide +kernel
theorem dX9_copy_63 : decode cX9_copy 63 = .ok (.aload_n 3, 1) := by decide +kernel
theorem dX9_copy_64 : decode cX9_copy 64 = .ok (.invokevirtual 288, 3) := by decide +kernel
theorem dX9_copy_67 : decode cX9_copy 67 = .ok (.ireturn, 1) := by decide +kernel
theorem dX9_copy_68 : decode cX9_copy 68 = .ok (.aload_n 0, 1) := by decide +kernel
theorem dX9_copy_69 : decode cX9_copy 69 = .ok (.getfield 20, 3) := by decide +kernel
theorem dX9_copy_72 : decode cX9_copy 72 = .ok (.aload_n 3, 1) := by decide +kernel
theorem dX9_copy_73 : decode cX9_copy 73 = .ok (.invokevirtual 290, 3) := by decide +kernel
theorem dX9_copy_76 : decode cX9_copy 76 = .ok (.ireturn, 1) := by decide +kernel
theorem dX9_has_0 : decode cX9_has 0 = .ok (.aload_n 0, 1) := by decide +kernel
theorem dX9_has_1 : decode cX9_has 1 = .ok (.invokevirtual 95, 3) := by decide +kernel
theorem dX9_has_4 : decode cX9_has 4 = .ok (.aload_n 0, 1) := by decide +kernel
theorem dX9_has_5 : decode cX9_has 5 = .ok (.iload_n 1, 1) := by decide +kernel
theorem dX9_has_6 : decode cX9_has 6 = .ok (.invokevirtual 275, 3) := by decide +kernel
theorem dX9_has_9 : decode cX9_has 9 = .ok (.astore_n 3, 1) := by decide +kernel
theorem dX9_has_10 : decode cX9_has 10 = .ok (.aload_n 0, 1) := by decide +kernel
theorem dX9_has_11 : decode cX9_has 11 = .ok (.aload_n 3, 1) := by decide +kernel
theorem dX9_has_12 : decode cX9_has 12 = .ok (.getfield 279, 3) := by decide +kernel
theorem dX9_has_15 : decode cX9_has 15 = .ok (.invokevirtual 153, 3) := by decide +kernel
theorem dX9_has_18 : decode cX9_has 18 = .ok (.iload_n 2, 1) := by decide +kernel
theorem dX9_has_19 : decode cX9_has 19 = .ok (.invokestatic 188, 3) := by decide +kernel
theorem dX9_has_22 : decode cX9_has 22 = .ok (.istore 4, 2) := by decide +kernel
theorem dX9_has_24 : decode cX9_has 24 = .ok (.aload_n 3, 1) := by decide +kernel
theorem dX9_has_25 : decode cX9_has 25 = .ok (.aload_n 0, 1) := by decide +kernel
theorem dX9_has_26 : decode cX9_has 26 = .ok (.getfield 20, 3) := by decide +kernel
theorem dX9_has_29 : decode cX9_has 29 = .ok (.getfield 114, 3) := by decide +kernel
theorem dX9_has_32 : decode cX9_has 32 = .ok (.iload 4, 2) := by decide +kernel
theorem dX9_has_34 : decode cX9_has 34 = .ok (.invokevirtual 294, 3) := by decide +kernel
theorem dX9_has_37 : decode cX9_has 37 = .ok (.ireturn, 1) := by decide +kernel
theorem dX9_known_0 : decode cX9_known 0 = .ok (.aload_n 0, 1) := by decide +kernel
theorem dX9_known_1 : decode cX9_known 1 = .ok (.invokevirtual 95, 3) := by decide +kernel
theorem dX9_known_4 : decode cX9_known 4 = .ok (.aload_n 0, 1) := by decide +kernel
theorem dX9_known_5 : decode cX9_known 5 = .ok (.iload_n 1, 1) := by decide +kernel
theorem dX9_known_6 : decode cX9_known 6 = .ok (.invokevirtual 153, 3) := by decide +kernel
theorem dX9_known_9 : decode cX9_known 9 = .ok (.astore_n 2, 1) := by decide +kernel
theorem dX9_known_10 : decode cX9_known 10 = .ok (.aload_n 2, 1) := by decide +kernel
theorem dX9_known_11 : decode cX9_known 11 = .ok (.getfield 169, 3) := by decide +kernel
theorem dX9_known_14 : decode cX9_known 14 = .ok (.aload_n 0, 1) := by decide +kernel
theorem dX9_known_15 : decode cX9_known 15 = .ok (.getfield 20, 3) := by decide +kernel
theorem dX9_known_18 : decode cX9_known 18 = .ok (.aload_n 2, 1) := by decide +kernel
theorem dX9_known_19 : decode cX9_known 19 = .ok (.getfield 170, 3) := by decide +kernel
theorem dX9_known_22 : decode cX9_known 22 = .ok (.aload_n 2, 1) := by decide +kernel
theorem dX9_known_23 : decode cX9_known 23 = .ok (.getfield 169, 3) := by decide +kernel
theorem dX9_known_26 : decode cX9_known 26 = .ok (.invokevirtual 150, 3) := by decide +kernel
theorem dX9_known_29 : decode cX9_known 29 = .ok (.isub, 1) := by decide +kernel
theorem dX9_known_30 : decode cX9_known 30 = .ok (.ireturn, 1) := by decide +kernel
theorem dX9_firstUnknown_0 : decode cX9_firstUnknown 0 = .ok (.aload_n 0, 1) := by decide +kernel
theorem dX9_firstUnknown_1 : decode cX9_firstUnknown 1 = .ok (.invokevirtual 95, 3) := by decide +kernel
theorem dX9_firstUnknown_4 : decode cX9_firstUnknown 4 = .ok (.aload_n 0, 1) := by decide +kernel
theorem dX9_firstUnknown_5 : decode cX9_firstUnknown 5 = .ok (.iload_n 1, 1) := by decide +kernel
theorem dX9_firstUnknown_6 : decode cX9_firstUnknown 6 = .ok (.invokevirtual 153, 3) := by decide +kernel
theorem dX9_firstUnknown_9 : decode cX9_firstUnknown 9 = .ok (.astore_n 2, 1) := by decide +kernel
theorem dX9_firstUnknown_10 : decode cX9_firstUnknown 10 = .ok (.iconst 0, 1) := by decide +kernel
theorem dX9_firstUnknown_11 : decode cX9_firstUnknown 11 = .ok (.istore_n 3, 1) := by decide +kernel
theorem dX9_firstUnknown_12 : decode cX9_firstUnknown 12 = .ok (.iload_n 3, 1) := by decide +kernel
theorem dX9_firstUnknown_13 : decode cX9_firstUnknown 13 = .ok (.aload_n 2, 1) := by decide +kernel
theorem dX9_firstUnknown_14 : decode cX9_firstUnknown 14 = .ok (.getfield 169, 3) := by decide +kernel
theorem dX9_firstUnknown_17 : decode cX9_firstUnknown 17 = .ok (.if_icmp .ge 27, 3) := by decide +kernel
theorem dX9_firstUnknown_20 : decode cX9_firstUnknown 20 = .ok (.aload_n 0, 1) := by decide +kernel
theorem dX9_firstUnknown_21 : decode cX9_firstUnknown 21 = .ok (.getfield 20, 3) := by decide +kernel
theorem dX9_firstUnknown_24 : decode cX9_firstUnknown 24 = .ok (.aload_n 2, 1) := by decide +kernel
theorem dX9_firstUnknown_25 : decode cX9_firstUnknown 25 = .ok (.getfield 170, 3) := by decide +kernel
theorem dX9_firstUnknown_28 : decode cX9_firstUnknown 28 = .ok (.iload_n 3, 1) := by decide +kernel
theorem dX9_firstUnknown_29 : decode cX9_firstUnknown 29 = .ok (.iadd, 1) := by decide +kernel
theorem dX9_firstUnknown_30 : decode cX9_firstUnknown 30 = .ok (.invokevirtual 210, 3) := by decide +kernel
theorem dX9_firstUnknown_33 : decode cX9_firstUnknown 33 = .ok (.ifCond .ne 5, 3) := by decide +kernel
theorem dX9_firstUnknown_36 : decode cX9_firstUnknown 36 = .ok (.iload_n 3, 1) := by decide +kernel
theorem dX9_firstUnknown_37 : decode cX9_firstUnknown 37 = .ok (.ireturn, 1) := by decide +kernel
theorem dX9_firstUnknown_38 : decode cX9_firstUnknown 38 = .ok (.iinc 3 1, 3) := by decide +kernel
theorem dX9_firstUnknown_41 : decode cX9_firstUnknown 41 = .ok (.goto (-29), 3) := by decide +kernel
theorem dX9_firstUnknown_44 : decode cX9_firstUnknown 44 = .ok (.iconst (-1), 1) := by decide +kernel
theorem dX9_firstUnknown_45 : decode cX9_firstUnknown 45 = .ok (.ireturn, 1) := by decide +kernel
theorem dX9_gap_0 : decode cX9_gap 0 = .ok (.aload_n 0, 1) := by decide +kernel
theorem dX9_gap_1 : decode cX9_gap 1 = .ok (.invokevirtual 95, 3) := by decide +kernel
theorem dX9_gap_4 : decode cX9_gap 4 = .ok (.aload_n 0, 1) := by decide +kernel
theorem dX9_gap_5 : decode cX9_gap 5 = .ok (.getfield 20, 3) := by decide +kernel
theorem dX9_gap_8 : decode cX9_gap 8 = .ok (.invokevirtual 298, 3) := by decide +kernel
theorem dX9_gap_11 : decode cX9_gap 11 = .ok (.aload_n 0, 1) := by decide +kernel
theorem dX9_gap_12 : decode cX9_gap 12 = .ok (.getfield 20, 3) := by decide +kernel
theorem dX9_gap_15 : decode cX9_gap 15 = .ok (.invokevirtual 301, 3) := by decide +kernel
theorem dX9_gap_18 : decode cX9_gap 18 = .ok (.iadd, 1) := by decide +kernel
theorem dX9_gap_19 : decode cX9_gap 19 = .ok (.aload_n 0, 1) := by decide +kernel
theorem dX9_gap_20 : decode cX9_gap 20 = .ok (.getfield 20, 3) := by decide +kernel
theorem dX9_gap_23 : decode cX9_gap 23 = .ok (.invokevirtual 304, 3) := by decide +kernel
theorem dX9_gap_26 : decode cX9_gap 26 = .ok (.iadd, 1) := by decide +kernel
theorem dX9_gap_27 : decode cX9_gap 27 = .ok (.aload_n 0, 1) := by decide +kernel
theorem dX9_gap_28 : decode cX9_gap 28 = .ok (.getfield 20, 3) := by decide +kernel
theorem dX9_gap_31 : decode cX9_gap 31 = .ok (.invokevirtual 307, 3) := by decide +kernel
theorem dX9_gap_34 : decode cX9_gap 34 = .ok (.iadd, 1) := by decide +kernel
theorem dX9_gap_35 : decode cX9_gap 35 = .ok (.ireturn, 1) := by decide +kernel
theorem dX9_whyNotSeal_0 : decode cX9_whyNotSeal 0 = .ok (.aload_n 0, 1) := by decide +kernel
theorem dX9_whyNotSeal_1 : decode cX9_whyNotSeal 1 = .ok (.invokevirtual 95, 3) := by decide +kernel
theorem dX9_whyNotSeal_4 : decode cX9_whyNotSeal 4 = .ok (.iload_n 1, 1) := by decide +kernel
theorem dX9_whyNotSeal_5 : decode cX9_whyNotSeal 5 = .ok (.bipush 9, 2) := by decide +kernel
theorem dX9_whyNotSeal_7 : decode cX9_whyNotSeal 7 = .ok (.invokestatic 98, 3) := by decide +kernel
theorem dX9_whyNotSeal_10 : decode cX9_whyNotSeal 10 = .ok (.iload_n 2, 1) := by decide +kernel
theorem dX9_whyNotSeal_11 : decode cX9_whyNotSeal 11 = .ok (.bipush 99, 2) := by decide +kernel
theorem dX9_whyNotSeal_13 : decode cX9_whyNotSeal 13 = .ok (.invokestatic 98, 3) := by decide +kernel
theorem dX9_whyNotSeal_16 : decode cX9_whyNotSeal 16 = .ok (.aload_n 0, 1) := by decide +kernel
theorem dX9_whyNotSeal_17 : decode cX9_whyNotSeal 17 = .ok (.getfield 20, 3) := by decide +kernel
theorem dX9_whyNotSeal_20 : decode cX9_whyNotSeal 20 = .ok (.iload_n 1, 1) := by decide +kernel
theorem dX9_whyNotSeal_21 : decode cX9_whyNotSeal 21 = .ok (.iload_n 2, 1) := by decide +kernel
theorem dX9_whyNotSeal_22 : decode cX9_whyNotSeal 22 = .ok (.invokevirtual 310, 3) := by decide +kernel
theorem dX9_whyNotSeal_25 : decode cX9_whyNotSeal 25 = .ok (.ireturn, 1) := by decide +kernel
set_option maxRecDepth 100000 in
set_option maxHeartbeats 4000000 in
theorem cX9_initc {l : Launch} {v0 : Option Nat} {σ : HpT} {o : Except Nat (Unit)} {σ' : HpT} {a b : Nat} (h : fX9_init v0 σ = some (o, σ', a, b)) : IsK σ v0 9 ∧ Ct l yX9_init cX9_init 1 none 4 82 [va_rf v0] σ (oU o) σ' a b := by
  unfold fX9_init at h
  replace h := bnP_s h
  obtain ⟨u, hk, h⟩ := h
  replace hk := isK_s hk
  refine ⟨hk, ?_⟩
  refine ct_start mi_X9_init.1 rfl (al_le (al_1 (rf_cat _) al_n) (Nat.le_of_ble_eq_true rfl)) (ag_1 (rf_cat _) ag_n) (fun Δ Γ B hE hnm => ?_)
  have hka : 0 + a = a := Nat.zero_add a
  have hkb : 0 + b = b := Nat.zero_add b
  have hla : a ≤ a := Nat.le_refl a
  have hlb : b ≤ b := Nat.le_refl b
  refine g_aload_n B 0 dX9_init_0 rfl rfl ?_
  refine g_objInit9 B hk obj_RX9_1 (by decide) (Nat.le_of_ble_eq_true rfl) dX9_init_1 ?_
  refine g_aload_n B 0 dX9_init_4 rfl rfl ?_
  refine g_sipush (v := 600) B dX9_init_5 (by decide) ?_
  replace h := bnA_s h
  rcases h with ⟨e9, h2, e8⟩ | ⟨x1, s3, a4, b5, a6, b7, h2, h, ea, eb⟩
  · exact absurd h2 (by simp [nwA, nwR]; try (split <;> simp))
  · subst ea; subst eb
    have hka := bk hka
    have hkb := bk hkb
    refine g_newarr B (Or.inr (Or.inr (Or.inl ⟨rfl, rfl⟩))) na_byte dX9_init_8 h2 (Nat.le_trans (bm hka) hla) (Nat.le_trans (bm hkb) hlb) ?_
    replace h := bnP_s h
    obtain ⟨s10, h9, h⟩ := h
    refine g_putRF B fl_RX9_9 (by decide) (Or.inr ⟨_, rfl⟩) hnm dX9_init_10 h9 ?_
    refine g_aload_n B 0 dX9_init_13 rfl rfl ?_
    refine g_iconst (v := (-1)) B dX9_init_14 (by decide) ?_
    replace h := bnP_s h
    obtain ⟨s13, h12, h⟩ := h
    refine g_putI B fl_RX9_13 (by decide) dX9_init_15 h12 ?_
    refine g_aload_n B 0 dX9_init_18 rfl rfl ?_
    replace h := bnA_s h
    rcases h with ⟨e9, h15, e8⟩ | ⟨x14, s16, a17, b18, a19, b20, h15, h, ea, eb⟩
    · exact absurd h15 (by simp [nwA, nwR]; try (split <;> simp))
    · subst ea; subst eb
      have hka := bk hka
      have hkb := bk hkb
      refine g_new B nw_RX9_17 dX9_init_19 h15 (Nat.le_trans (bm hka) hla) (Nat.le_trans (bm hkb) hlb) ?_
      refine g_dup B dX9_init_22 (rf_cat _) ?_
      replace h := bnA_s h
      rcases h with ⟨e9, h22, e8⟩ | ⟨x21, s23, a24, b25, a26, b27, h22, h, ea, eb⟩
      · subst e8
        exact g_callIx (st := [va_rf x14, va_rf v0]) B (cX1_initc (o := .error e9) h22) mi_X1_init lk_RX9_19 ⟨Nat.le_of_ble_eq_true rfl, Nat.le_of_ble_eq_true rfl⟩ rfl rfl (Nat.le_of_ble_eq_true rfl) dX9_init_23 (Nat.le_trans (Nat.le_of_eq hka) hla) (Nat.le_trans (Nat.le_of_eq hkb) hlb) hE
      · subst ea; subst eb
        have hka := bk hka
        have hkb := bk hkb
        refine g_callIvA (st := [va_rf x14, va_rf v0]) B (cX1_initc (o := .ok x21) h22) mi_X1_init lk_RX9_19 ⟨Nat.le_of_ble_eq_true rfl, Nat.le_of_ble_eq_true rfl⟩ rfl rfl (Nat.le_of_ble_eq_true rfl) dX9_init_23 (Nat.le_trans (bm hka) hla) (Nat.le_trans (bm hkb) hlb) ?_
        replace h := bnP_s h
        obtain ⟨s30, h29, h⟩ := h
        refine g_putR B fl_RX9_20 (by decide) (Or.inl ⟨_, rfl⟩) dX9_init_26 h29 ?_
        refine g_aload_n B 0 dX9_init_29 rfl rfl ?_
        replace h := bnA_s h
        rcases h with ⟨e9, h32, e8⟩ | ⟨x31, s33, a34, b35, a36, b37, h32, h, ea, eb⟩
        · exact absurd h32 (by simp [nwA, nwR]; try (split <;> simp))
        · subst ea; subst eb
          have hka := bk hka
          have hkb := bk hkb
          refine g_new B nw_RX9_17 dX9_init_30 h32 (Nat.le_trans (bm hka) hla) (Nat.le_trans (bm hkb) hlb) ?_
          refine g_dup B dX9_init_33 (rf_cat _) ?_
          replace h := bnA_s h
          rcases h with ⟨e9, h39, e8⟩ | ⟨x38, s40, a41, b42, a43, b44, h39, h, ea, eb⟩
          · subst e8
            exact g_callIx (st := [va_rf x31, va_rf v0]) B (cX1_initc (o := .error e9) h39) mi_X1_init lk_RX9_19 ⟨Nat.le_of_ble_eq_true rfl, Nat.le_of_ble_eq_true rfl⟩ rfl rfl (Nat.le_of_ble_eq_true rfl) dX9_init_34 (Nat.le_trans (Nat.le_of_eq hka) hla) (Nat.le_trans (Nat.le_of_eq hkb) hlb) hE
          · subst ea; subst eb
            have hka := bk hka
            have hkb := bk hkb
            refine g_callIvA (st := [va_rf x31, va_rf v0]) B (cX1_initc (o := .ok x38) h39) mi_X1_init lk_RX9_19 ⟨Nat.le_of_ble_eq_true rfl, Nat.le_of_ble_eq_true rfl⟩ rfl rfl (Nat.le_of_ble_eq_true rfl) dX9_init_34 (Nat.le_trans (bm hka) hla) (Nat.le_trans (bm hkb) hlb) ?_
            replace h := bnP_s h
            obtain ⟨s47, h46, h⟩ := h
            refine g_putR B fl_RX9_24 (by decide) (Or.inl ⟨_, rfl⟩) dX9_init_37 h46 ?_
            refine g_aload_n B 0 dX9_init_40 rfl rfl ?_
            replace h := bnA_s h
            rcases h with ⟨e9, h49, e8⟩ | ⟨x48, s50, a51, b52, a53, b54, h49, h, ea, eb⟩
            · exact absurd h49 (by simp [nwA, nwR]; try (split <;> simp))
            · subst ea; subst eb
              have hka := bk hka
              have hkb := bk hkb
              refine g_new B nw_RX9_27 dX9_init_41 h49 (Nat.le_trans (bm hka) hla) (Nat.le_trans (bm hkb) hlb) ?_
              refine g_dup B dX9_init_44 (rf_cat _) ?_
              replace h := bnA_s h
              rcases h with ⟨e9, h56, e8⟩ | ⟨x55, s57, a58, b59, a60, b61, h56, h, ea, eb⟩
              · subst e8
                exact g_callNIx (st := [va_rf x48, va_rf v0]) B (cX5_initc (o := .error e9) h56) mi_X5_init lk_RX9_29 ⟨Nat.le_of_ble_eq_true rfl, Nat.le_of_ble_eq_true rfl⟩ rfl rfl (Nat.le_of_ble_eq_true rfl) dX9_init_45 (Nat.le_trans (Nat.le_of_eq hka) hla) (Nat.le_trans (Nat.le_of_eq hkb) hlb) hE
              · subst ea; subst eb
                have hka := bk hka
                have hkb := bk hkb
                refine g_callNIvA (st := [va_rf x48, va_rf v0]) B (cX5_initc (o := .ok x55) h56) mi_X5_init lk_RX9_29 ⟨Nat.le_of_ble_eq_true rfl, Nat.le_of_ble_eq_true rfl⟩ rfl rfl (Nat.le_of_ble_eq_true rfl) dX9_init_45 (Nat.le_trans (bm hka) hla) (Nat.le_trans (bm hkb) hlb) ?_
                replace h := bnP_s h
                obtain ⟨s64, h63, h⟩ := h
                refine g_putRF B fl_RX9_30 (by decide) (Or.inl ⟨_, rfl⟩) hnm dX9_init_48 h63 ?_
                refine g_aload_n B 0 dX9_init_51 rfl rfl ?_
                refine g_bipush (v := 8) B dX9_init_52 (by decide) ?_
                replace h := bnA_s h
                rcases h with ⟨e9, h66, e8⟩ | ⟨x65, s67, a68, b69, a70, b71, h66, h, ea, eb⟩
                · exact absurd h66 (by simp [nwA, nwR]; try (split <;> simp))
                · subst ea; subst eb
                  have hka := bk hka
                  have hkb := bk hkb
                  refine g_anew B (κ := 27) (by decide) an_RX9_17.1 an_RX9_17.2 (fun _ => rfl) (by decide +kernel : _ = "[LNotaryBook$Book;") dX9_init_54 h66 (Nat.le_trans (bm hka) hla) (Nat.le_trans (bm hkb) hlb) ?_
                  replace h := bnP_s h
                  obtain ⟨s74, h73, h⟩ := h
                  refine g_putRF B fl_RX9_34 (by decide) (Or.inr ⟨_, rfl⟩) hnm dX9_init_57 h73 ?_
                  refine g_aload_n B 0 dX9_init_60 rfl rfl ?_
                  refine g_iconst (v := 2) B dX9_init_61 (by decide) ?_
                  replace h := bnA_s h
                  rcases h with ⟨e9, h76, e8⟩ | ⟨x75, s77, a78, b79, a80, b81, h76, h, ea, eb⟩
                  · exact absurd h76 (by simp [nwA, nwR]; try (split <;> simp))
                  · subst ea; subst eb
                    have hka := bk hka
                    have hkb := bk hkb
                    refine g_anew B (κ := 27) (by decide) an_RX9_17.1 an_RX9_17.2 (fun _ => rfl) (by decide +kernel : _ = "[LNotaryBook$Book;") dX9_init_62 h76 (Nat.le_trans (bm hka) hla) (Nat.le_trans (bm hkb) hlb) ?_
                    replace h := bnP_s h
                    obtain ⟨s84, h83, h⟩ := h
                    refine g_putRF B fl_RX9_38 (by decide) (Or.inr ⟨_, rfl⟩) hnm dX9_init_65 h83 ?_
                    refine g_aload_n B 0 dX9_init_68 rfl rfl ?_
                    refine g_iconst (v := 2) B dX9_init_69 (by decide) ?_
                    replace h := bnA_s h
                    rcases h with ⟨e9, h86, e8⟩ | ⟨x85, s87, a88, b89, a90, b91, h86, h, ea, eb⟩
                    · exact absurd h86 (by simp [nwA, nwR]; try (split <;> simp))
                    · subst ea; subst eb
                      have hka := bk hka
                      have hkb := bk hkb
                      refine g_newarr B (Or.inr (Or.inr (Or.inr (Or.inl ⟨rfl, rfl⟩)))) na_boolean dX9_init_70 h86 (Nat.le_trans (bm hka) hla) (Nat.le_trans (bm hkb) hlb) ?_
                      replace h := bnP_s h
                      obtain ⟨s94, h93, h⟩ := h
                      refine g_putRF B fl_RX9_41 (by decide) (Or.inr ⟨_, rfl⟩) hnm dX9_init_72 h93 ?_
                      refine g_aload_n B 0 dX9_init_75 rfl rfl ?_
                      replace h := bnA_s h
                      rcases h with ⟨e9, h96, e8⟩ | ⟨x95, s97, a98, b99, a100, b101, h96, h, ea, eb⟩
                      · exact absurd h96 (by simp [nwA, nwR]; try (split <;> simp))
                      · subst ea; subst eb
                        have hka := bk hka
                        have hkb := bk hkb
                        refine g_new B nw_RX9_45 dX9_init_76 h96 (Nat.le_trans (bm hka) hla) (Nat.le_trans (bm hkb) hlb) ?_
                        refine g_dup B dX9_init_79 (rf_cat _) ?_
                        replace h := bnA_s h
                        rcases h with ⟨e9, h103, e8⟩ | ⟨x102, s104, a105, b106, a107, b108, h103, h, ea, eb⟩
                        · subst e8
                          exact g_callNIx (st := [va_rf x95, va_rf v0]) B (cX4_initc (o := .error e9) h103) mi_X4_init lk_RX9_47 ⟨Nat.le_of_ble_eq_true rfl, Nat.le_of_ble_eq_true rfl⟩ rfl rfl (Nat.le_of_ble_eq_true rfl) dX9_init_80 (Nat.le_trans (Nat.le_of_eq hka) hla) (Nat.le_trans (Nat.le_of_eq hkb) hlb) hE
                        · subst ea; subst eb
                          have hka := bk hka
                          have hkb := bk hkb
                          refine g_callNIvA (st := [va_rf x95, va_rf v0]) B (cX4_initc (o := .ok x102) h103) mi_X4_init lk_RX9_47 ⟨Nat.le_of_ble_eq_true rfl, Nat.le_of_ble_eq_true rfl⟩ rfl rfl (Nat.le_of_ble_eq_true rfl) dX9_init_80 (Nat.le_trans (bm hka) hla) (Nat.le_trans (bm hkb) hlb) ?_
                          replace h := bnP_s h
                          obtain ⟨s111, h110, h⟩ := h
                          refine g_putRF B fl_RX9_48 (by decide) (Or.inl ⟨_, rfl⟩) hnm dX9_init_83 h110 ?_
                          refine g_aload_n B 0 dX9_init_86 rfl rfl ?_
                          replace h := bnA_s h
                          rcases h with ⟨e9, h113, e8⟩ | ⟨x112, s114, a115, b116, a117, b118, h113, h, ea, eb⟩
                          · exact absurd h113 (by simp [nwA, nwR]; try (split <;> simp))
                          · subst ea; subst eb
                            have hka := bk hka
                            have hkb := bk hkb
                            refine g_new B nw_RX9_52 dX9_init_87 h113 (Nat.le_trans (bm hka) hla) (Nat.le_trans (bm hkb) hlb) ?_
                            refine g_dup B dX9_init_90 (rf_cat _) ?_
                            replace h := bnA_s h
                            rcases h with ⟨e9, h120, e8⟩ | ⟨x119, s121, a122, b123, a124, b125, h120, h, ea, eb⟩
                            · subst e8
                              exact g_callNIx (st := [va_rf x112, va_rf v0]) B (cX6_initc (o := .error e9) h120) mi_X6_init lk_RX9_54 ⟨Nat.le_of_ble_eq_true rfl, Nat.le_of_ble_eq_true rfl⟩ rfl rfl (Nat.le_of_ble_eq_true rfl) dX9_init_91 (Nat.le_trans (Nat.le_of_eq hka) hla) (Nat.le_trans (Nat.le_of_eq hkb) hlb) hE
                            · subst ea; subst eb
                              have hka := bk hka
                              have hkb := bk hkb
                              refine g_callNIvA (st := [va_rf x112, va_rf v0]) B (cX6_initc (o := .ok x119) h120) mi_X6_init lk_RX9_54 ⟨Nat.le_of_ble_eq_true rfl, Nat.le_of_ble_eq_true rfl⟩ rfl rfl (Nat.le_of_ble_eq_true rfl) dX9_init_91 (Nat.le_trans (bm hka) hla) (Nat.le_trans (bm hkb) hlb) ?_
                              replace h := bnP_s h
                              obtain ⟨s128, h127, h⟩ := h
                              refine g_putRF B fl_RX9_55 (by decide) (Or.inl ⟨_, rfl⟩) hnm dX9_init_94 h127 ?_
                              obtain ⟨w1, w2, w3, w4⟩ := inA h
                              clear h
                              subst w1
                              subst w2
                              subst w3
                              subst w4
                              exact g_vret B hE (Nat.le_trans (Nat.le_of_eq hka) hla) (Nat.le_trans (Nat.le_of_eq hkb) hlb) dX9_init_97
set_option maxRecDepth 100000 in
set_option maxHeartbeats 4000000 in
theorem cX9_putFourBytesc {l : Launch} {v0 : Option Nat} {v1 : Int32} {σ : HpT} {σ' : HpT} (h : fX9_putFourBytes v0 v1 σ = some σ') : IsK σ v0 9 ∧ Ct l yX9_putFourBytes cX9_putFourBytes 3 none 0 0 [va_rf v0, .int v1] σ (.ok none) σ' 0 0 := by
  unfold fX9_putFourBytes at h
  replace h := bnP_s h
  obtain ⟨u, hk, h⟩ := h
  replace hk := isK_s hk
  refine ⟨hk, ?_⟩
  refine ct_start mi_X9_putFourBytes.1 rfl (al_le (al_1 (rf_cat _) (al_1 rfl al_n)) (Nat.le_of_ble_eq_true rfl)) (ag_1 (rf_cat _) (ag_1 rfl ag_n)) (fun Δ Γ B hE hnm => ?_)
  refine g_bipush (v := 24) B dX9_putFourBytes_0 (by decide) ?_
  refine g_istore_n B dX9_putFourBytes_2 rfl (Nat.le_of_ble_eq_true rfl) (s1_c (f1_k rfl (f1_1 rfl rfl f1_n))) ?_
  replace h := bnS_s h
  obtain ⟨r2, s25, h3, h⟩ := h
  have kE4 : GW Δ Γ (0) (0) 46 [] [] s25 := by
    replace h := Option.some.inj h
    subst h
    exact g_vret B hE (Nat.zero_le _) (Nat.zero_le _) dX9_putFourBytes_46
  clear h
  refine g_sub [1, 2, 0] rfl ?_
  refine lpS_w (I := fun q1 s10 => GW Δ Γ (0) (0) 3 [(0, va_rf v0), (1, .int v1), (2, .int q1)] [] s10) (r := r2) (σr := s25) ?_ FUEL 24 σ h3
  intro q1 s10 x8 s9 h hI6 hR7
  unfold fX9_putFourBytes_l1 at h
  refine g_iload_n B 2 dX9_putFourBytes_3 rfl rfl ?_
  refine g_if_lt B 46 dX9_putFourBytes_4 (by decide) (fun hc => ?_) (fun hc => ?_)
  · replace h := ifp hc h
    obtain ⟨w1, w2⟩ := inS h
    clear h
    subst w1
    subst w2
    obtain ⟨e8, e7⟩ := hR7 _ rfl
    subst e8
    subst e7
    exact g_sub [] rfl kE4
  · replace h := ifn hc h
    refine g_aload_n B 0 dX9_putFourBytes_7 rfl rfl ?_
    replace h := bnP_s h
    obtain ⟨x11, h12, h⟩ := h
    refine g_getI B fl_RX9_59 (by decide) dX9_putFourBytes_8 h12 ?_
    refine g_sipush (v := 600) B dX9_putFourBytes_11 (by decide) ?_
    refine g_icmp_ge B 46 dX9_putFourBytes_14 (by decide) (fun hc => ?_) (fun hc => ?_)
    · replace h := ifp hc h
      obtain ⟨w1, w2⟩ := inS h
      clear h
      subst w1
      subst w2
      obtain ⟨e8, e7⟩ := hR7 _ rfl
      subst e8
      subst e7
      exact g_sub [] rfl kE4
    · replace h := ifn hc h
      refine g_aload_n B 0 dX9_putFourBytes_17 rfl rfl ?_
      replace h := bnP_s h
      obtain ⟨x13, h14, h⟩ := h
      refine g_getR B fl_RX9_9 (by decide) dX9_putFourBytes_18 h14 ?_
      refine g_aload_n B 0 dX9_putFourBytes_21 rfl rfl ?_
      replace h := bnP_s h
      obtain ⟨x15, h16, h⟩ := h
      refine g_getI B fl_RX9_59 (by decide) dX9_putFourBytes_22 h16 ?_
      refine g_iload_n B 1 dX9_putFourBytes_25 rfl rfl ?_
      refine g_iload_n B 2 dX9_putFourBytes_26 rfl rfl ?_
      refine g_ishr B dX9_putFourBytes_27 ?_
      refine g_i2b B dX9_putFourBytes_28 ?_
      replace h := bnP_s h
      obtain ⟨s19, h18, h⟩ := h
      refine g_bast B dX9_putFourBytes_29 h18 ?_
      refine g_aload_n B 0 dX9_putFourBytes_30 rfl rfl ?_
      refine g_dup B dX9_putFourBytes_31 (rf_cat _) ?_
      replace h := bnP_s h
      obtain ⟨x20, h21, h⟩ := h
      refine g_getI B fl_RX9_59 (by decide) dX9_putFourBytes_32 h21 ?_
      refine g_iconst (v := 1) B dX9_putFourBytes_35 (by decide) ?_
      refine g_iadd B dX9_putFourBytes_36 ?_
      replace h := bnP_s h
      obtain ⟨s24, h23, h⟩ := h
      refine g_putI B fl_RX9_59 (by decide) dX9_putFourBytes_37 h23 ?_
      refine g_iinc (v := (q1 + (-8))) B 2 dX9_putFourBytes_40 rfl (by first | rfl | (congr 1; decide)) (Nat.le_of_ble_eq_true rfl) (s1_c (f1_k rfl (f1_1 rfl rfl (f1_x f1_n)))) ?_
      refine g_goto B 3 dX9_putFourBytes_43 (by decide) ?_
      obtain ⟨w1, w2⟩ := inS h
      clear h
      subst w1
      subst w2
      exact g_sub [1, 2, 0] rfl (hI6 _ rfl)
set_option maxRecDepth 100000 in
set_option maxHeartbeats 4000000 in
theorem cX9_appendc {l : Launch} {v0 : Option Nat} {v1 : Int32} {v2 : Int32} {v3 : Int32} {v4 : Int32} {v5 : Int32} {σ : HpT} {r : Int32} {σ' : HpT} (h : fX9_append v0 v1 v2 v3 v4 v5 σ = some (r, σ')) : IsK σ v0 9 ∧ Ct l yX9_append cX9_append 6 (some .int) 1 22 [va_rf v0, .int v1, .int v2, .int v3, .int v4, .int v5] σ (.ok (some (.int r))) σ' 0 0 := by
  unfold fX9_append at h
  replace h := bnP_s h
  obtain ⟨u, hk, h⟩ := h
  replace hk := isK_s hk
  refine ⟨hk, ?_⟩
  refine ct_start mi_X9_append.1 rfl (al_le (al_1 (rf_cat _) (al_1 rfl (al_1 rfl (al_1 rfl (al_1 rfl (al_1 rfl al_n)))))) (Nat.le_of_ble_eq_true rfl)) (ag_1 (rf_cat _) (ag_1 rfl (ag_1 rfl (ag_1 rfl (ag_1 rfl (ag_1 rfl ag_n)))))) (fun Δ Γ B hE hnm => ?_)
  refine g_aload_n B 0 dX9_append_0 rfl rfl ?_
  replace h := bnP_s h
  obtain ⟨x1, h2, h⟩ := h
  refine g_getI B fl_RX9_59 (by decide) dX9_append_1 h2 ?_
  refine g_bipush (v := 20) B dX9_append_4 (by decide) ?_
  refine g_iadd B dX9_append_6 ?_
  refine g_sipush (v := 600) B dX9_append_7 (by decide) ?_
  refine g_icmp_le B 15 dX9_append_10 (by decide) (fun hc => ?_) (fun hc => ?_)
  · replace h := ifp hc h
    refine g_aload_n B 0 dX9_append_15 rfl rfl ?_
    refine g_iload_n B 1 dX9_append_16 rfl rfl ?_
    replace h := bnP_s h
    obtain ⟨s5, h4, h⟩ := h
    refine g_callVv0 (st := []) B (cX9_putFourBytesc h4) (Nat.le_of_ble_eq_true rfl) rfl rfl mi_X9_putFourBytes lk_RX9_62 ⟨Nat.le_of_ble_eq_true rfl, Nat.le_of_ble_eq_true rfl⟩ rfl rfl (Nat.le_of_ble_eq_true rfl) dX9_append_17 (Nat.zero_le _) (Nat.zero_le _) ?_
    refine g_aload_n B 0 dX9_append_20 rfl rfl ?_
    refine g_iload_n B 2 dX9_append_21 rfl rfl ?_
    replace h := bnP_s h
    obtain ⟨s8, h7, h⟩ := h
    refine g_callVv0 (st := []) B (cX9_putFourBytesc h7) (Nat.le_of_ble_eq_true rfl) rfl rfl mi_X9_putFourBytes lk_RX9_62 ⟨Nat.le_of_ble_eq_true rfl, Nat.le_of_ble_eq_true rfl⟩ rfl rfl (Nat.le_of_ble_eq_true rfl) dX9_append_22 (Nat.zero_le _) (Nat.zero_le _) ?_
    refine g_aload_n B 0 dX9_append_25 rfl rfl ?_
    refine g_iload_n B 3 dX9_append_26 rfl rfl ?_
    replace h := bnP_s h
    obtain ⟨s11, h10, h⟩ := h
    refine g_callVv0 (st := []) B (cX9_putFourBytesc h10) (Nat.le_of_ble_eq_true rfl) rfl rfl mi_X9_putFourBytes lk_RX9_62 ⟨Nat.le_of_ble_eq_true rfl, Nat.le_of_ble_eq_true rfl⟩ rfl rfl (Nat.le_of_ble_eq_true rfl) dX9_append_27 (Nat.zero_le _) (Nat.zero_le _) ?_
    refine g_aload_n B 0 dX9_append_30 rfl rfl ?_
    refine g_iload B 4 dX9_append_31 rfl ?_
    replace h := bnP_s h
    obtain ⟨s14, h13, h⟩ := h
    refine g_callVv0 (st := []) B (cX9_putFourBytesc h13) (Nat.le_of_ble_eq_true rfl) rfl rfl mi_X9_putFourBytes lk_RX9_62 ⟨Nat.le_of_ble_eq_true rfl, Nat.le_of_ble_eq_true rfl⟩ rfl rfl (Nat.le_of_ble_eq_true rfl) dX9_append_33 (Nat.zero_le _) (Nat.zero_le _) ?_
    refine g_aload_n B 0 dX9_append_36 rfl rfl ?_
    refine g_iload B 5 dX9_append_37 rfl ?_
    replace h := bnP_s h
    obtain ⟨s17, h16, h⟩ := h
    refine g_callVv0 (st := []) B (cX9_putFourBytesc h16) (Nat.le_of_ble_eq_true rfl) rfl rfl mi_X9_putFourBytes lk_RX9_62 ⟨Nat.le_of_ble_eq_true rfl, Nat.le_of_ble_eq_true rfl⟩ rfl rfl (Nat.le_of_ble_eq_true rfl) dX9_append_39 (Nat.zero_le _) (Nat.zero_le _) ?_
    refine g_aload_n B 0 dX9_append_42 rfl rfl ?_
    replace h := bnP_s h
    obtain ⟨x18, h19, h⟩ := h
    refine g_getI B fl_RX9_59 (by decide) dX9_append_43 h19 ?_
    obtain ⟨w1, w2⟩ := inS h
    clear h
    subst w1
    subst w2
    exact g_iret B hE (Nat.zero_le _) (Nat.zero_le _) dX9_append_46
  · replace h := ifn hc h
    refine g_iconst (v := (-1)) B dX9_append_13 (by decide) ?_
    obtain ⟨w1, w2⟩ := inS h
    clear h
    subst w1
    subst w2
    exact g_iret B hE (Nat.zero_le _) (Nat.zero_le _) dX9_append_14
set_option maxRecDepth 100000 in
set_option maxHeartbeats 4000000 in
theorem cX9_requireBytesc {l : Launch} {v0 : Option Nat} {v1 : Int32} {σ : HpT} {o : Except Nat (Unit)} (h : fX9_requireBytes v0 v1 σ = some o) : IsK σ v0 9 ∧ Ct l yX9_requireBytes cX9_requireBytes 2 none 6 90 [va_rf v0, .int v1] σ (oU o) σ (xc o) (xs o) := by
  unfold fX9_requireBytes at h
  replace h := bnP_s h
  obtain ⟨u, hk, h⟩ := h
  replace hk := isK_s hk
  refine ⟨hk, ?_⟩
  refine ct_start mi_X9_requireBytes.1 rfl (al_le (al_1 (rf_cat _) (al_1 rfl al_n)) (Nat.le_of_ble_eq_true rfl)) (ag_1 (rf_cat _) (ag_1 rfl ag_n)) (fun Δ Γ B hE hnm => ?_)
  refine g_iload_n B 1 dX9_requireBytes_0 rfl rfl ?_
  refine g_if_lt B 12 dX9_requireBytes_1 (by decide) (fun hc => ?_) (fun hc => ?_)
  · replace h := ifp hc h
    replace h := Option.some.inj h
    subst h
    exact g_throwW B tw_RX9_238_242 (j := 0) rfl hE (by decide) (Nat.le_of_ble_eq_true rfl) dX9_requireBytes_12 dX9_requireBytes_15 dX9_requireBytes_16 dX9_requireBytes_19 dX9_requireBytes_22 (Nat.le_refl 1) (Nat.le_refl 6)
  · replace h := ifn hc h
    refine g_iload_n B 1 dX9_requireBytes_4 rfl rfl ?_
    refine g_aload_n B 0 dX9_requireBytes_5 rfl rfl ?_
    replace h := bnP_s h
    obtain ⟨x1, h2, h⟩ := h
    refine g_getI B fl_RX9_59 (by decide) dX9_requireBytes_6 h2 ?_
    refine g_icmp_le B 23 dX9_requireBytes_9 (by decide) (fun hc => ?_) (fun hc => ?_)
    · replace h := ifp hc h
      replace h := Option.some.inj h
      subst h
      exact g_vret B hE (Nat.zero_le _) (Nat.zero_le _) dX9_requireBytes_23
    · replace h := ifn hc h
      replace h := Option.some.inj h
      subst h
      exact g_throwW B tw_RX9_238_242 (j := 0) rfl hE (by decide) (Nat.le_of_ble_eq_true rfl) dX9_requireBytes_12 dX9_requireBytes_15 dX9_requireBytes_16 dX9_requireBytes_19 dX9_requireBytes_22 (Nat.le_refl 1) (Nat.le_refl 6)
set_option maxRecDepth 100000 in
set_option maxHeartbeats 4000000 in
theorem cX9_forgetPastc {l : Launch} {v0 : Option Nat} {σ : HpT} {σ' : HpT} (h : fX9_forgetPast v0 σ = some σ') : IsK σ v0 9 ∧ Ct l yX9_forgetPast cX9_forgetPast 1 none 0 0 [va_rf v0] σ (.ok none) σ' 0 0 := by
  unfold fX9_forgetPast at h
  replace h := bnP_s h
  obtain ⟨u, hk, h⟩ := h
  replace hk := isK_s hk
  refine ⟨hk, ?_⟩
  refine ct_start mi_X9_forgetPast.1 rfl (al_le (al_1 (rf_cat _) al_n) (Nat.le_of_ble_eq_true rfl)) (ag_1 (rf_cat _) ag_n) (fun Δ Γ B hE hnm => ?_)
  refine g_aload_n B 0 dX9_forgetPast_0 rfl rfl ?_
  refine g_iconst (v := 0) B dX9_forgetPast_1 (by decide) ?_
  replace h := bnP_s h
  obtain ⟨s3, h2, h⟩ := h
  refine g_putI B fl_RX9_499 (by decide) dX9_forgetPast_2 h2 ?_
  refine g_aload_n B 0 dX9_forgetPast_5 rfl rfl ?_
  refine g_iconst (v := 0) B dX9_forgetPast_6 (by decide) ?_
  replace h := bnP_s h
  obtain ⟨s6, h5, h⟩ := h
  refine g_putI B fl_RX9_491 (by decide) dX9_forgetPast_7 h5 ?_
  replace h := Option.some.inj h
  subst h
  exact g_vret B hE (Nat.zero_le _) (Nat.zero_le _) dX9_forgetPast_10
set_option maxRecDepth 100000 in
set_option maxHeartbeats 4000000 in
theorem cX9_loadc {l : Launch} {v0 : Option Nat} {v1 : Int32} {σ : HpT} {o : Except Nat (Int32)} {σ' : HpT} {a b : Nat} (h : fX9_load v0 v1 σ = some (o, σ', a, b)) : IsK σ v0 9 ∧ Ct l yX9_load cX9_load 5 (some .int) 10 214 [va_rf v0, .int v1] σ (oI o) σ' a b := by
  unfold fX9_load at h
  replace h := bnP_s h
  obtain ⟨u, hk, h⟩ := h
  replace hk := isK_s hk
  refine ⟨hk, ?_⟩
  refine ct_start mi_X9_load.1 rfl (al_le (al_1 (rf_cat _) (al_1 rfl al_n)) (Nat.le_of_ble_eq_true rfl)) (ag_1 (rf_cat _) (ag_1 rfl ag_n)) (fun Δ Γ B hE hnm => ?_)
  have hka : 0 + a = a := Nat.zero_add a
  have hkb : 0 + b = b := Nat.zero_add b
  have hla : a ≤ a := Nat.le_refl a
  have hlb : b ≤ b := Nat.le_refl b
  refine g_aload_n B 0 dX9_load_0 rfl rfl ?_
  refine g_iload_n B 1 dX9_load_1 rfl rfl ?_
  replace h := bnXA_s h
  rcases h with ⟨e9, h2, e8, e7, e6, e5⟩ | ⟨x1, h2, h⟩
  · subst e8; subst e7; subst e6; subst e5
    exact g_callVx (st := []) B (cX9_requireBytesc (o := .error e9) h2) (Nat.le_of_ble_eq_true rfl) rfl rfl mi_X9_requireBytes lk_RX9_66 ⟨Nat.le_of_ble_eq_true rfl, Nat.le_of_ble_eq_true rfl⟩ rfl rfl (Nat.le_of_ble_eq_true rfl) dX9_load_2 (Nat.le_trans (Nat.le_of_eq hka) hla) (Nat.le_trans (Nat.le_of_eq hkb) hlb) hE
  · skip
    refine g_callVv0 (st := []) B (cX9_requireBytesc (o := .ok x1) h2) (Nat.le_of_ble_eq_true rfl) rfl rfl mi_X9_requireBytes lk_RX9_66 ⟨Nat.le_of_ble_eq_true rfl, Nat.le_of_ble_eq_true rfl⟩ rfl rfl (Nat.le_of_ble_eq_true rfl) dX9_load_2 (Nat.le_trans (bm hka) hla) (Nat.le_trans (bm hkb) hlb) ?_
    refine g_aload_n B 0 dX9_load_5 rfl rfl ?_
    refine g_iconst (v := 0) B dX9_load_6 (by decide) ?_
    replace h := bnP_s h
    obtain ⟨s5, h4, h⟩ := h
    refine g_putI B fl_RX9_59 (by decide) dX9_load_7 h4 ?_
    refine g_aload_n B 0 dX9_load_10 rfl rfl ?_
    replace h := bnP_s h
    obtain ⟨x6, h7, h⟩ := h
    refine g_getR B fl_RX9_30 (by decide) dX9_load_11 h7 ?_
    refine g_aload_n B 0 dX9_load_14 rfl rfl ?_
    replace h := bnP_s h
    obtain ⟨x8, h9, h⟩ := h
    refine g_getR B fl_RX9_9 (by decide) dX9_load_15 h9 ?_
    refine g_iload_n B 1 dX9_load_18 rfl rfl ?_
    refine g_aload_n B 0 dX9_load_19 rfl rfl ?_
    replace h := bnP_s h
    obtain ⟨x10, h11, h⟩ := h
    refine g_getR B fl_RX9_24 (by decide) dX9_load_20 h11 ?_
    replace h := bnS_s h
    obtain ⟨x12, s14, h13, h⟩ := h
    refine g_callVs0 (st := []) B (cX5_readTextc h13) (Nat.le_of_ble_eq_true rfl) rfl rfl mi_X5_readText lk_RX9_69 ⟨Nat.le_of_ble_eq_true rfl, Nat.le_of_ble_eq_true rfl⟩ rfl rfl (Nat.le_of_ble_eq_true rfl) dX9_load_23 (Nat.le_trans (bm hka) hla) (Nat.le_trans (bm hkb) hlb) ?_
    refine g_istore_n B dX9_load_26 rfl (Nat.le_of_ble_eq_true rfl) (s1_c (f1_k rfl (f1_1 rfl rfl f1_n))) ?_
    refine g_aload_n B 1 dX9_load_27 rfl rfl ?_
    refine g_iload_n B 0 dX9_load_28 rfl rfl ?_
    replace h := bnP_s h
    obtain ⟨j15, h16, h⟩ := h
    have k18 : GW Δ Γ (0) (0) 43 [(0, va_rf v0), (2, .int (bI x12))] [.int j15.2, va_rf j15.1] s14 := by
      replace h := bnP_s h
      obtain ⟨s26, h25, h⟩ := h
      refine g_putI B fl_RX9_76 (by decide) dX9_load_43 h25 ?_
      refine g_aload_n B 0 dX9_load_46 rfl rfl ?_
      refine g_iload_n B 1 dX9_load_47 rfl rfl ?_
      replace h := bnP_s h
      obtain ⟨j27, h28, h⟩ := h
      have k30 : GW Δ Γ (0) (0) 62 [(0, va_rf v0), (2, .int (bI x12))] [.int j27.2, va_rf j27.1] s26 := by
        replace h := bnP_s h
        obtain ⟨s38, h37, h⟩ := h
        refine g_putI B fl_RX9_13 (by decide) dX9_load_62 h37 ?_
        refine g_iload_n B 1 dX9_load_65 rfl rfl ?_
        refine g_if_ne B 79 dX9_load_66 (by decide) (fun hc => ?_) (fun hc => ?_)
        · replace h := ifp (bI1 hc) h
          refine g_aload_n B 0 dX9_load_79 rfl rfl ?_
          replace h := bnP_s h
          obtain ⟨x39, h40, h⟩ := h
          refine g_getR B fl_RX9_20 (by decide) dX9_load_80 h40 ?_
          refine g_astore_n B dX9_load_83 rfl (Nat.le_of_ble_eq_true rfl) (s1_c (f1_k rfl (f1_1 rfl rfl f1_n))) ?_
          refine g_aload_n B 1 dX9_load_84 rfl rfl ?_
          refine g_aload_n B 1 dX9_load_85 rfl rfl ?_
          replace h := bnP_s h
          obtain ⟨x41, h42, h⟩ := h
          refine g_getR B fl_RX9_24 (by decide) dX9_load_86 h42 ?_
          replace h := bnP_s h
          obtain ⟨s45, h44, h⟩ := h
          refine g_putR B fl_RX9_20 (by decide) (Or.inl ⟨_, rfl⟩) dX9_load_89 h44 ?_
          refine g_aload_n B 1 dX9_load_92 rfl rfl ?_
          refine g_aload_n B 0 dX9_load_93 rfl rfl ?_
          replace h := bnP_s h
          obtain ⟨s48, h47, h⟩ := h
          refine g_putR B fl_RX9_24 (by decide) (Or.inl ⟨_, rfl⟩) dX9_load_94 h47 ?_
          refine g_aload_n B 1 dX9_load_97 rfl rfl ?_
          refine g_iconst (v := 1) B dX9_load_98 (by decide) ?_
          replace h := bnP_s h
          obtain ⟨s51, h50, h⟩ := h
          refine g_putZ B fl_RX9_85 (by decide) dX9_load_99 h50 ?_
          refine g_aload_n B 1 dX9_load_102 rfl rfl ?_
          replace h := bnP_s h
          obtain ⟨s54, h53, h⟩ := h
          refine g_callVv0 (st := []) B (cX9_forgetPastc h53) (Nat.le_of_ble_eq_true rfl) rfl rfl mi_X9_forgetPast lk_RX9_89 ⟨Nat.le_of_ble_eq_true rfl, Nat.le_of_ble_eq_true rfl⟩ rfl rfl (Nat.le_of_ble_eq_true rfl) dX9_load_103 (Nat.le_trans (bm hka) hla) (Nat.le_trans (bm hkb) hlb) ?_
          refine g_iconst (v := 0) B dX9_load_106 (by decide) ?_
          refine g_istore B dX9_load_107 (Nat.le_of_ble_eq_true rfl) (s1_c (f1_1 rfl (rf_cat _) (f1_k rfl (f1_k rfl f1_n)))) ?_
          replace h := bnS_s h
          obtain ⟨r56, s70, h57, h⟩ := h
          have kE58 : GW Δ Γ (0) (0) 129 [(0, va_rf v0)] [] s70 := by
            refine g_aload_n B 0 dX9_load_129 rfl rfl ?_
            replace h := bnP_s h
            obtain ⟨x71, h72, h⟩ := h
            refine g_getR B fl_RX9_20 (by decide) dX9_load_130 h72 ?_
            replace h := bnP_s h
            obtain ⟨x73, h74, h⟩ := h
            refine g_getI B fl_RX9_92 (by decide) dX9_load_133 h74 ?_
            obtain ⟨w1, w2, w3, w4⟩ := inA h
            clear h
            subst w1
            subst w2
            subst w3
            subst w4
            exact g_iret B hE (Nat.le_trans (Nat.le_of_eq hka) hla) (Nat.le_trans (Nat.le_of_eq hkb) hlb) dX9_load_136
          clear h
          refine g_sub [2, 0] rfl ?_
          refine lpS_w (I := fun q55 s64 => GW Δ Γ (0) (0) 109 [(0, va_rf v0), (4, .int q55)] [] s64) (r := r56) (σr := s70) ?_ FUEL 0 s54 h57
          intro q55 s64 x62 s9 h hI60 hR61
          unfold fX9_load_l1 at h
          refine g_iload B 1 dX9_load_109 rfl ?_
          refine g_iconst (v := 2) B dX9_load_111 (by decide) ?_
          refine g_icmp_ge B 129 dX9_load_112 (by decide) (fun hc => ?_) (fun hc => ?_)
          · replace h := ifp hc h
            obtain ⟨w1, w2⟩ := inS h
            clear h
            subst w1
            subst w2
            obtain ⟨e8, e7⟩ := hR61 _ rfl
            subst e8
            subst e7
            exact g_sub [0] rfl kE58
          · replace h := ifn hc h
            refine g_aload_n B 0 dX9_load_115 rfl rfl ?_
            replace h := bnP_s h
            obtain ⟨x65, h66, h⟩ := h
            refine g_getR B fl_RX9_41 (by decide) dX9_load_116 h66 ?_
            refine g_iload B 1 dX9_load_119 rfl ?_
            refine g_iconst (v := 0) B dX9_load_121 (by decide) ?_
            replace h := bnP_s h
            obtain ⟨s69, h68, h⟩ := h
            refine g_zast B dX9_load_122 h68 ?_
            refine g_iinc (v := (q55 + 1)) B 1 dX9_load_123 rfl (by first | rfl | (congr 1; decide)) (Nat.le_of_ble_eq_true rfl) (s1_c (f1_k rfl (f1_x f1_n))) ?_
            refine g_goto B 109 dX9_load_126 (by decide) ?_
            obtain ⟨w1, w2⟩ := inS h
            clear h
            subst w1
            subst w2
            exact g_sub [1, 0] rfl (hI60 _ rfl)
        · replace h := ifn (bI0 hc) h
          obtain ⟨w1, w2, w3, w4⟩ := inA h
          clear h
          subst w1
          subst w2
          subst w3
          subst w4
          exact g_throw B tw_RX9_78_82 (j := 16) rfl hE (by decide) (Nat.le_of_ble_eq_true rfl) dX9_load_69 dX9_load_72 dX9_load_73 dX9_load_75 dX9_load_78 (Nat.le_trans (Nat.le_of_eq hka) hla) (Nat.le_trans (Nat.le_of_eq hkb) hlb)
      clear h
      have h := h28
      clear h28
      refine g_if_eq B 55 dX9_load_48 (by decide) (fun hc => ?_) (fun hc => ?_)
      · replace h := ifn (bI0 hc) h
        refine g_aload_n B 0 dX9_load_55 rfl rfl ?_
        replace h := bnP_s h
        obtain ⟨x32, h33, h⟩ := h
        refine g_getR B fl_RX9_30 (by decide) dX9_load_56 h33 ?_
        replace h := bnP_s h
        obtain ⟨x34, h35, h⟩ := h
        refine g_getI B fl_RX9_77 (by decide) dX9_load_59 h35 ?_
        replace h := Option.some.inj h
        subst h
        exact g_sub [0, 1] rfl k30
      · replace h := ifp (bI1 hc) h
        refine g_iconst (v := (-1)) B dX9_load_51 (by decide) ?_
        refine g_goto B 62 dX9_load_52 (by decide) ?_
        replace h := Option.some.inj h
        subst h
        exact g_sub [0, 1] rfl k30
    clear h
    have h := h16
    clear h16
    refine g_if_eq B 36 dX9_load_29 (by decide) (fun hc => ?_) (fun hc => ?_)
    · replace h := ifn (bI0 hc) h
      refine g_aload_n B 1 dX9_load_36 rfl rfl ?_
      replace h := bnP_s h
      obtain ⟨x20, h21, h⟩ := h
      refine g_getR B fl_RX9_30 (by decide) dX9_load_37 h21 ?_
      replace h := bnP_s h
      obtain ⟨x22, h23, h⟩ := h
      refine g_getI B fl_RX9_73 (by decide) dX9_load_40 h23 ?_
      replace h := Option.some.inj h
      subst h
      exact g_sub [1, 0] rfl k18
    · replace h := ifp (bI1 hc) h
      refine g_iconst (v := 0) B dX9_load_32 (by decide) ?_
      refine g_goto B 43 dX9_load_33 (by decide) ?_
      replace h := Option.some.inj h
      subst h
      exact g_sub [1, 0] rfl k18
set_option maxRecDepth 100000 in
set_option maxHeartbeats 4000000 in
theorem cX9_parseErrorc {l : Launch} {v0 : Option Nat} {σ : HpT} {r : Int32} (h : fX9_parseError v0 σ = some r) : IsK σ v0 9 ∧ Ct l yX9_parseError cX9_parseError 1 (some .int) 0 0 [va_rf v0] σ (.ok (some (.int r))) σ 0 0 := by
  unfold fX9_parseError at h
  replace h := bnP_s h
  obtain ⟨u, hk, h⟩ := h
  replace hk := isK_s hk
  refine ⟨hk, ?_⟩
  refine ct_start mi_X9_parseError.1 rfl (al_le (al_1 (rf_cat _) al_n) (Nat.le_of_ble_eq_true rfl)) (ag_1 (rf_cat _) ag_n) (fun Δ Γ B hE hnm => ?_)
  refine g_aload_n B 0 dX9_parseError_0 rfl rfl ?_
  replace h := bnP_s h
  obtain ⟨x1, h2, h⟩ := h
  refine g_getI B fl_RX9_76 (by decide) dX9_parseError_1 h2 ?_
  replace h := Option.some.inj h
  subst h
  exact g_iret B hE (Nat.zero_le _) (Nat.zero_le _) dX9_parseError_4
set_option maxRecDepth 100000 in
set_option maxHeartbeats 4000000 in
theorem cX9_errorPositionc {l : Launch} {v0 : Option Nat} {σ : HpT} {r : Int32} (h : fX9_errorPosition v0 σ = some r) : IsK σ v0 9 ∧ Ct l yX9_errorPosition cX9_errorPosition 1 (some .int) 0 0 [va_rf v0] σ (.ok (some (.int r))) σ 0 0 := by
  unfold fX9_errorPosition at h
  replace h := bnP_s h
  obtain ⟨u, hk, h⟩ := h
  replace hk := isK_s hk
  refine ⟨hk, ?_⟩
  refine ct_start mi_X9_errorPosition.1 rfl (al_le (al_1 (rf_cat _) al_n) (Nat.le_of_ble_eq_true rfl)) (ag_1 (rf_cat _) ag_n) (fun Δ Γ B hE hnm => ?_)
  refine g_aload_n B 0 dX9_errorPosition_0 rfl rfl ?_
  replace h := bnP_s h
  obtain ⟨x1, h2, h⟩ := h
  refine g_getI B fl_RX9_13 (by decide) dX9_errorPosition_1 h2 ?_
  replace h := Option.some.inj h
  subst h
  exact g_iret B hE (Nat.zero_le _) (Nat.zero_le _) dX9_errorPosition_4
set_option maxRecDepth 100000 in
set_option maxHeartbeats 4000000 in
theorem cX9_bufferedc {l : Launch} {v0 : Option Nat} {σ : HpT} {r : Int32} (h : fX9_buffered v0 σ = some r) : IsK σ v0 9 ∧ Ct l yX9_buffered cX9_buffered 1 (some .int) 0 0 [va_rf v0] σ (.ok (some (.int r))) σ 0 0 := by
  unfold fX9_buffered at h
  replace h := bnP_s h
  obtain ⟨u, hk, h⟩ := h
  replace hk := isK_s hk
  refine ⟨hk, ?_⟩
  refine ct_start mi_X9_buffered.1 rfl (al_le (al_1 (rf_cat _) al_n) (Nat.le_of_ble_eq_true rfl)) (ag_1 (rf_cat _) ag_n) (fun Δ Γ B hE hnm => ?_)
  refine g_aload_n B 0 dX9_buffered_0 rfl rfl ?_
  replace h := bnP_s h
  obtain ⟨x1, h2, h⟩ := h
  refine g_getI B fl_RX9_59 (by decide) dX9_buffered_1 h2 ?_
  replace h := Option.some.inj h
  subst h
  exact g_iret B hE (Nat.zero_le _) (Nat.zero_le _) dX9_buffered_4
set_option maxRecDepth 100000 in
set_option maxHeartbeats 4000000 in
theorem cX9_requireBookc {l : Launch} {v0 : Option Nat} {σ : HpT} {o : Except Nat (Unit)} (h : fX9_requireBook v0 σ = some o) : IsK σ v0 9 ∧ Ct l yX9_requireBook cX9_requireBook 1 none 6 90 [va_rf v0] σ (oU o) σ (xc o) (xs o) := by
  unfold fX9_requireBook at h
  replace h := bnP_s h
  obtain ⟨u, hk, h⟩ := h
  replace hk := isK_s hk
  refine ⟨hk, ?_⟩
  refine ct_start mi_X9_requireBook.1 rfl (al_le (al_1 (rf_cat _) al_n) (Nat.le_of_ble_eq_true rfl)) (ag_1 (rf_cat _) ag_n) (fun Δ Γ B hE hnm => ?_)
  refine g_aload_n B 0 dX9_requireBook_0 rfl rfl ?_
  replace h := bnP_s h
  obtain ⟨x1, h2, h⟩ := h
  refine g_getI B fl_RX9_85 (by decide) dX9_requireBook_1 h2 ?_
  refine g_if_ne B 18 dX9_requireBook_4 (by decide) (fun hc => ?_) (fun hc => ?_)
  · replace h := ifn hc h
    replace h := Option.some.inj h
    subst h
    exact g_vret B hE (Nat.zero_le _) (Nat.zero_le _) dX9_requireBook_18
  · replace h := ifp hc h
    replace h := Option.some.inj h
    subst h
    exact g_throwW B tw_RX9_494_498 (j := 17) rfl hE (by decide) (Nat.le_of_ble_eq_true rfl) dX9_requireBook_7 dX9_requireBook_10 dX9_requireBook_11 dX9_requireBook_14 dX9_requireBook_17 (Nat.le_refl 1) (Nat.le_refl 6)
set_option maxRecDepth 100000 in
set_option maxHeartbeats 4000000 in
theorem cX9_requireUpToc {l : Launch} {v0 : Int32} {v1 : Int32} {σ : HpT} {o : Except Nat (Unit)} (h : fX9_requireUpTo v0 v1 σ = some o) : Ct l yX9_requireUpTo cX9_requireUpTo 2 none 6 90 [.int v0, .int v1] σ (oU o) σ (xc o) (xs o) := by
  unfold fX9_requireUpTo at h
  refine ct_start mi_X9_requireUpTo.1 rfl (al_le (al_1 rfl (al_1 rfl al_n)) (Nat.le_of_ble_eq_true rfl)) (ag_1 rfl (ag_1 rfl ag_n)) (fun Δ Γ B hE hnm => ?_)
  refine g_iload_n B 0 dX9_requireUpTo_0 rfl rfl ?_
  refine g_if_lt B 9 dX9_requireUpTo_1 (by decide) (fun hc => ?_) (fun hc => ?_)
  · replace h := ifp hc h
    replace h := Option.some.inj h
    subst h
    exact g_throwW B tw_RX9_78_82 (j := 18) rfl hE (by decide) (Nat.le_of_ble_eq_true rfl) dX9_requireUpTo_9 dX9_requireUpTo_12 dX9_requireUpTo_13 dX9_requireUpTo_16 dX9_requireUpTo_19 (Nat.le_refl 1) (Nat.le_refl 6)
  · replace h := ifn hc h
    refine g_iload_n B 0 dX9_requireUpTo_4 rfl rfl ?_
    refine g_iload_n B 1 dX9_requireUpTo_5 rfl rfl ?_
    refine g_icmp_le B 20 dX9_requireUpTo_6 (by decide) (fun hc => ?_) (fun hc => ?_)
    · replace h := ifp hc h
      replace h := Option.some.inj h
      subst h
      exact g_vret B hE (Nat.zero_le _) (Nat.zero_le _) dX9_requireUpTo_20
    · replace h := ifn hc h
      replace h := Option.some.inj h
      subst h
      exact g_throwW B tw_RX9_78_82 (j := 18) rfl hE (by decide) (Nat.le_of_ble_eq_true rfl) dX9_requireUpTo_9 dX9_requireUpTo_12 dX9_requireUpTo_13 dX9_requireUpTo_16 dX9_requireUpTo_19 (Nat.le_refl 1) (Nat.le_refl 6)
set_option maxRecDepth 100000 in
set_option maxHeartbeats 4000000 in
theorem cX9_countc {l : Launch} {v0 : Option Nat} {v1 : Int32} {σ : HpT} {o : Except Nat (Int32)} (h : fX9_count v0 v1 σ = some o) : IsK σ v0 9 ∧ Ct l yX9_count cX9_count 2 (some .int) 7 111 [va_rf v0, .int v1] σ (oI o) σ (xc o) (xs o) := by
  unfold fX9_count at h
  replace h := bnP_s h
  obtain ⟨u, hk, h⟩ := h
  replace hk := isK_s hk
  refine ⟨hk, ?_⟩
  refine ct_start mi_X9_count.1 rfl (al_le (al_1 (rf_cat _) (al_1 rfl al_n)) (Nat.le_of_ble_eq_true rfl)) (ag_1 (rf_cat _) (ag_1 rfl ag_n)) (fun Δ Γ B hE hnm => ?_)
  refine g_aload_n B 0 dX9_count_0 rfl rfl ?_
  replace h := bnX_s h
  rcases h with ⟨e9, h2, e8⟩ | ⟨x1, h2, h⟩
  · subst e8
    exact g_callVx (st := []) B (cX9_requireBookc (o := .error e9) h2) (Nat.le_of_ble_eq_true rfl) rfl rfl mi_X9_requireBook lk_RX9_95 ⟨Nat.le_of_ble_eq_true rfl, Nat.le_of_ble_eq_true rfl⟩ rfl rfl (Nat.le_of_ble_eq_true rfl) dX9_count_1 (Nat.le_of_eq rfl) (Nat.le_of_eq rfl) hE
  · skip
    refine g_callVv0 (st := []) B (cX9_requireBookc (o := .ok x1) h2) (Nat.le_of_ble_eq_true rfl) rfl rfl mi_X9_requireBook lk_RX9_95 ⟨Nat.le_of_ble_eq_true rfl, Nat.le_of_ble_eq_true rfl⟩ rfl rfl (Nat.le_of_ble_eq_true rfl) dX9_count_1 (Nat.zero_le _) (Nat.zero_le _) ?_
    refine g_iload_n B 1 dX9_count_4 rfl rfl ?_
    refine g_bipush (v := 15) B dX9_count_5 (by decide) ?_
    replace h := bnX_s h
    rcases h with ⟨e9, h4, e8⟩ | ⟨x3, h4, h⟩
    · subst e8
      exact g_callSx (st := []) B (cX9_requireUpToc (o := .error e9) h4) mi_X9_requireUpTo lk_RX9_98 ⟨Nat.le_of_ble_eq_true rfl, Nat.le_of_ble_eq_true rfl⟩ rfl rfl (Nat.le_of_ble_eq_true rfl) dX9_count_7 (Nat.le_of_eq rfl) (Nat.le_of_eq rfl) hE
    · skip
      refine g_callSv0 (st := []) B (cX9_requireUpToc (o := .ok x3) h4) mi_X9_requireUpTo lk_RX9_98 ⟨Nat.le_of_ble_eq_true rfl, Nat.le_of_ble_eq_true rfl⟩ rfl rfl (Nat.le_of_ble_eq_true rfl) dX9_count_7 (Nat.zero_le _) (Nat.zero_le _) ?_
      refine g_iload_n B 1 dX9_count_10 rfl rfl ?_
      by_cases n0 : v1 = 0
      · replace h := ifp n0 h
        rw [n0]
        refine g_tableIn B 84 dX9_count_11 (by decide) (by decide) rfl (by decide) ?_
        refine g_aload_n B 0 dX9_count_84 rfl rfl ?_
        replace h := bnP_s h
        obtain ⟨x15, h16, h⟩ := h
        refine g_getR B fl_RX9_20 (by decide) dX9_count_85 h16 ?_
        replace h := bnP_s h
        obtain ⟨x17, h18, h⟩ := h
        refine g_getI B fl_RX9_102 (by decide) dX9_count_88 h18 ?_
        replace h := Option.some.inj h
        subst h
        exact g_iret B hE (Nat.zero_le _) (Nat.zero_le _) dX9_count_91
      replace h := ifn n0 h
      by_cases n1 : v1 = 1
      · replace h := ifp n1 h
        rw [n1]
        refine g_tableIn B 92 dX9_count_11 (by decide) (by decide) rfl (by decide) ?_
        refine g_aload_n B 0 dX9_count_92 rfl rfl ?_
        replace h := bnP_s h
        obtain ⟨x19, h20, h⟩ := h
        refine g_getR B fl_RX9_20 (by decide) dX9_count_93 h20 ?_
        replace h := bnP_s h
        obtain ⟨x21, h22, h⟩ := h
        refine g_getI B fl_RX9_105 (by decide) dX9_count_96 h22 ?_
        replace h := Option.some.inj h
        subst h
        exact g_iret B hE (Nat.zero_le _) (Nat.zero_le _) dX9_count_99
      replace h := ifn n1 h
      by_cases n2 : v1 = 2
      · replace h := ifp n2 h
        rw [n2]
        refine g_tableIn B 100 dX9_count_11 (by decide) (by decide) rfl (by decide) ?_
        refine g_aload_n B 0 dX9_count_100 rfl rfl ?_
        replace h := bnP_s h
        obtain ⟨x23, h24, h⟩ := h
        refine g_getR B fl_RX9_20 (by decide) dX9_count_101 h24 ?_
        replace h := bnP_s h
        obtain ⟨x25, h26, h⟩ := h
        refine g_getRg B fl_RX9_108 (by decide) dX9_count_104 h26 ?_
        replace h := bnP_s h
        obtain ⟨x27, h28, h⟩ := h
        refine g_getI B fl_RX9_111 (by decide) dX9_count_107 h28 ?_
        replace h := Option.some.inj h
        subst h
        exact g_iret B hE (Nat.zero_le _) (Nat.zero_le _) dX9_count_110
      replace h := ifn n2 h
      by_cases n3 : v1 = 3
      · replace h := ifp n3 h
        rw [n3]
        refine g_tableIn B 111 dX9_count_11 (by decide) (by decide) rfl (by decide) ?_
        refine g_aload_n B 0 dX9_count_111 rfl rfl ?_
        replace h := bnP_s h
        obtain ⟨x29, h30, h⟩ := h
        refine g_getR B fl_RX9_20 (by decide) dX9_count_112 h30 ?_
        replace h := bnP_s h
        obtain ⟨x31, h32, h⟩ := h
        refine g_getI B fl_RX9_92 (by decide) dX9_count_115 h32 ?_
        replace h := Option.some.inj h
        subst h
        exact g_iret B hE (Nat.zero_le _) (Nat.zero_le _) dX9_count_118
      replace h := ifn n3 h
      by_cases n4 : v1 = 4
      · replace h := ifp n4 h
        rw [n4]
        refine g_tableIn B 119 dX9_count_11 (by decide) (by decide) rfl (by decide) ?_
        refine g_aload_n B 0 dX9_count_119 rfl rfl ?_
        replace h := bnP_s h
        obtain ⟨x33, h34, h⟩ := h
        refine g_getR B fl_RX9_20 (by decide) dX9_count_120 h34 ?_
        replace h := bnP_s h
        obtain ⟨x35, h36, h⟩ := h
        refine g_getRg B fl_RX9_114 (by decide) dX9_count_123 h36 ?_
        replace h := bnP_s h
        obtain ⟨x37, h38, h⟩ := h
        refine g_getI B fl_RX9_118 (by decide) dX9_count_126 h38 ?_
        replace h := Option.some.inj h
        subst h
        exact g_iret B hE (Nat.zero_le _) (Nat.zero_le _) dX9_count_129
      replace h := ifn n4 h
      by_cases n5 : v1 = 5
      · replace h := ifp n5 h
        rw [n5]
        refine g_tableIn B 130 dX9_count_11 (by decide) (by decide) rfl (by decide) ?_
        refine g_aload_n B 0 dX9_count_130 rfl rfl ?_
        replace h := bnP_s h
        obtain ⟨x39, h40, h⟩ := h
        refine g_getR B fl_RX9_20 (by decide) dX9_count_131 h40 ?_
        replace h := bnP_s h
        obtain ⟨x41, h42, h⟩ := h
        refine g_getRg B fl_RX9_108 (by decide) dX9_count_134 h42 ?_
        replace h := bnP_s h
        obtain ⟨x43, h44, h⟩ := h
        refine g_getI B fl_RX9_123 (by decide) dX9_count_137 h44 ?_
        replace h := Option.some.inj h
        subst h
        exact g_iret B hE (Nat.zero_le _) (Nat.zero_le _) dX9_count_140
      replace h := ifn n5 h
      by_cases n6 : v1 = 6
      · replace h := ifp n6 h
        rw [n6]
        refine g_tableIn B 141 dX9_count_11 (by decide) (by decide) rfl (by decide) ?_
        refine g_aload_n B 0 dX9_count_141 rfl rfl ?_
        replace h := bnP_s h
        obtain ⟨x45, h46, h⟩ := h
        refine g_getR B fl_RX9_20 (by decide) dX9_count_142 h46 ?_
        replace h := bnP_s h
        obtain ⟨x47, h48, h⟩ := h
        refine g_getRg B fl_RX9_108 (by decide) dX9_count_145 h48 ?_
        refine g_iconst (v := 2) B dX9_count_148 (by decide) ?_
        replace h := bnP_s h
        obtain ⟨x49, h50, h⟩ := h
        refine g_callVs0 (st := []) B (cX4_countOfc h50) (Nat.le_of_ble_eq_true rfl) rfl rfl mi_X4_countOf lk_RX9_124 ⟨Nat.le_of_ble_eq_true rfl, Nat.le_of_ble_eq_true rfl⟩ rfl rfl (Nat.le_of_ble_eq_true rfl) dX9_count_149 (Nat.zero_le _) (Nat.zero_le _) ?_
        replace h := Option.some.inj h
        subst h
        exact g_iret B hE (Nat.zero_le _) (Nat.zero_le _) dX9_count_152
      replace h := ifn n6 h
      by_cases n7 : v1 = 7
      · replace h := ifp n7 h
        rw [n7]
        refine g_tableIn B 153 dX9_count_11 (by decide) (by decide) rfl (by decide) ?_
        refine g_aload_n B 0 dX9_count_153 rfl rfl ?_
        replace h := bnP_s h
        obtain ⟨x51, h52, h⟩ := h
        refine g_getR B fl_RX9_20 (by decide) dX9_count_154 h52 ?_
        replace h := bnP_s h
        obtain ⟨x53, h54, h⟩ := h
        refine g_getRg B fl_RX9_108 (by decide) dX9_count_157 h54 ?_
        refine g_iconst (v := 1) B dX9_count_160 (by decide) ?_
        replace h := bnP_s h
        obtain ⟨x55, h56, h⟩ := h
        refine g_callVs0 (st := []) B (cX4_countOfc h56) (Nat.le_of_ble_eq_true rfl) rfl rfl mi_X4_countOf lk_RX9_124 ⟨Nat.le_of_ble_eq_true rfl, Nat.le_of_ble_eq_true rfl⟩ rfl rfl (Nat.le_of_ble_eq_true rfl) dX9_count_161 (Nat.zero_le _) (Nat.zero_le _) ?_
        replace h := Option.some.inj h
        subst h
        exact g_iret B hE (Nat.zero_le _) (Nat.zero_le _) dX9_count_164
      replace h := ifn n7 h
      by_cases n8 : v1 = 8
      · replace h := ifp n8 h
        rw [n8]
        refine g_tableIn B 165 dX9_count_11 (by decide) (by decide) rfl (by decide) ?_
        refine g_aload_n B 0 dX9_count_165 rfl rfl ?_
        replace h := bnP_s h
        obtain ⟨x57, h58, h⟩ := h
        refine g_getR B fl_RX9_20 (by decide) dX9_count_166 h58 ?_
        replace h := bnP_s h
        obtain ⟨x59, h60, h⟩ := h
        refine g_getI B fl_RX9_128 (by decide) dX9_count_169 h60 ?_
        replace h := Option.some.inj h
        subst h
        exact g_iret B hE (Nat.zero_le _) (Nat.zero_le _) dX9_count_172
      replace h := ifn n8 h
      by_cases n9 : v1 = 9
      · replace h := ifp n9 h
        rw [n9]
        refine g_tableIn B 173 dX9_count_11 (by decide) (by decide) rfl (by decide) ?_
        refine g_aload_n B 0 dX9_count_173 rfl rfl ?_
        replace h := bnP_s h
        obtain ⟨x61, h62, h⟩ := h
        refine g_getR B fl_RX9_20 (by decide) dX9_count_174 h62 ?_
        replace h := bnP_s h
        obtain ⟨x63, h64, h⟩ := h
        refine g_getI B fl_RX9_131 (by decide) dX9_count_177 h64 ?_
        replace h := Option.some.inj h
        subst h
        exact g_iret B hE (Nat.zero_le _) (Nat.zero_le _) dX9_count_180
      replace h := ifn n9 h
      by_cases n10 : v1 = 10
      · replace h := ifp n10 h
        rw [n10]
        refine g_tableIn B 181 dX9_count_11 (by decide) (by decide) rfl (by decide) ?_
        refine g_aload_n B 0 dX9_count_181 rfl rfl ?_
        replace h := bnP_s h
        obtain ⟨x65, h66, h⟩ := h
        refine g_getR B fl_RX9_20 (by decide) dX9_count_182 h66 ?_
        replace h := bnP_s h
        obtain ⟨x67, h68, h⟩ := h
        refine g_callVs0 (st := []) B (cX1_marksOfAllc h68) (Nat.le_of_ble_eq_true rfl) rfl rfl mi_X1_marksOfAll lk_RX9_134 ⟨Nat.le_of_ble_eq_true rfl, Nat.le_of_ble_eq_true rfl⟩ rfl rfl (Nat.le_of_ble_eq_true rfl) dX9_count_185 (Nat.zero_le _) (Nat.zero_le _) ?_
        replace h := Option.some.inj h
        subst h
        exact g_iret B hE (Nat.zero_le _) (Nat.zero_le _) dX9_count_188
      replace h := ifn n10 h
      by_cases n11 : v1 = 11
      · replace h := ifp n11 h
        rw [n11]
        refine g_tableIn B 189 dX9_count_11 (by decide) (by decide) rfl (by decide) ?_
        refine g_aload_n B 0 dX9_count_189 rfl rfl ?_
        replace h := bnP_s h
        obtain ⟨x69, h70, h⟩ := h
        refine g_getR B fl_RX9_20 (by decide) dX9_count_190 h70 ?_
        replace h := bnP_s h
        obtain ⟨x71, h72, h⟩ := h
        refine g_getRg B fl_RX9_114 (by decide) dX9_count_193 h72 ?_
        refine g_iconst (v := 0) B dX9_count_196 (by decide) ?_
        refine g_aload_n B 0 dX9_count_197 rfl rfl ?_
        replace h := bnP_s h
        obtain ⟨x73, h74, h⟩ := h
        refine g_getR B fl_RX9_20 (by decide) dX9_count_198 h74 ?_
        replace h := bnP_s h
        obtain ⟨x75, h76, h⟩ := h
        refine g_getRg B fl_RX9_114 (by decide) dX9_count_201 h76 ?_
        replace h := bnP_s h
        obtain ⟨x77, h78, h⟩ := h
        refine g_getI B fl_RX9_118 (by decide) dX9_count_204 h78 ?_
        replace h := bnP_s h
        obtain ⟨x79, h80, h⟩ := h
        refine g_callVs0 (st := []) B (cX8_standingFromc h80) (Nat.le_of_ble_eq_true rfl) rfl rfl mi_X8_standingFrom lk_RX9_138 ⟨Nat.le_of_ble_eq_true rfl, Nat.le_of_ble_eq_true rfl⟩ rfl rfl (Nat.le_of_ble_eq_true rfl) dX9_count_207 (Nat.zero_le _) (Nat.zero_le _) ?_
        replace h := Option.some.inj h
        subst h
        exact g_iret B hE (Nat.zero_le _) (Nat.zero_le _) dX9_count_210
      replace h := ifn n11 h
      by_cases n12 : v1 = 12
      · replace h := ifp n12 h
        rw [n12]
        refine g_tableIn B 211 dX9_count_11 (by decide) (by decide) rfl (by decide) ?_
        refine g_aload_n B 0 dX9_count_211 rfl rfl ?_
        replace h := bnP_s h
        obtain ⟨x81, h82, h⟩ := h
        refine g_getR B fl_RX9_20 (by decide) dX9_count_212 h82 ?_
        refine g_iconst (v := 1) B dX9_count_215 (by decide) ?_
        replace h := bnP_s h
        obtain ⟨x83, h84, h⟩ := h
        refine g_callVs0 (st := []) B (cX1_actsAtc h84) (Nat.le_of_ble_eq_true rfl) rfl rfl mi_X1_actsAt lk_RX9_144 ⟨Nat.le_of_ble_eq_true rfl, Nat.le_of_ble_eq_true rfl⟩ rfl rfl (Nat.le_of_ble_eq_true rfl) dX9_count_216 (Nat.zero_le _) (Nat.zero_le _) ?_
        replace h := Option.some.inj h
        subst h
        exact g_iret B hE (Nat.zero_le _) (Nat.zero_le _) dX9_count_219
      replace h := ifn n12 h
      by_cases n13 : v1 = 13
      · replace h := ifp n13 h
        rw [n13]
        refine g_tableIn B 220 dX9_count_11 (by decide) (by decide) rfl (by decide) ?_
        refine g_aload_n B 0 dX9_count_220 rfl rfl ?_
        replace h := bnP_s h
        obtain ⟨x85, h86, h⟩ := h
        refine g_getR B fl_RX9_20 (by decide) dX9_count_221 h86 ?_
        refine g_iconst (v := 2) B dX9_count_224 (by decide) ?_
        replace h := bnP_s h
        obtain ⟨x87, h88, h⟩ := h
        refine g_callVs0 (st := []) B (cX1_actsAtc h88) (Nat.le_of_ble_eq_true rfl) rfl rfl mi_X1_actsAt lk_RX9_144 ⟨Nat.le_of_ble_eq_true rfl, Nat.le_of_ble_eq_true rfl⟩ rfl rfl (Nat.le_of_ble_eq_true rfl) dX9_count_225 (Nat.zero_le _) (Nat.zero_le _) ?_
        replace h := Option.some.inj h
        subst h
        exact g_iret B hE (Nat.zero_le _) (Nat.zero_le _) dX9_count_228
      replace h := ifn n13 h
      by_cases n14 : v1 = 14
      · replace h := ifp n14 h
        rw [n14]
        refine g_tableIn B 229 dX9_count_11 (by decide) (by decide) rfl (by decide) ?_
        refine g_aload_n B 0 dX9_count_229 rfl rfl ?_
        replace h := bnP_s h
        obtain ⟨x89, h90, h⟩ := h
        refine g_getR B fl_RX9_20 (by decide) dX9_count_230 h90 ?_
        replace h := bnP_s h
        obtain ⟨x91, h92, h⟩ := h
        refine g_callVs0 (st := []) B (cX1_openNumberc h92) (Nat.le_of_ble_eq_true rfl) rfl rfl mi_X1_openNumber lk_RX9_147 ⟨Nat.le_of_ble_eq_true rfl, Nat.le_of_ble_eq_true rfl⟩ rfl rfl (Nat.le_of_ble_eq_true rfl) dX9_count_233 (Nat.zero_le _) (Nat.zero_le _) ?_
        replace h := Option.some.inj h
        subst h
        exact g_iret B hE (Nat.zero_le _) (Nat.zero_le _) dX9_count_236
      replace h := ifn n14 h
      have mn0 := tne n0 (k := 0) (by decide)
      have mn1 := tne n1 (k := 1) (by decide)
      have mn2 := tne n2 (k := 2) (by decide)
      have mn3 := tne n3 (k := 3) (by decide)
      have mn4 := tne n4 (k := 4) (by decide)
      have mn5 := tne n5 (k := 5) (by decide)
      have mn6 := tne n6 (k := 6) (by decide)
      have mn7 := tne n7 (k := 7) (by decide)
      have mn8 := tne n8 (k := 8) (by decide)
      have mn9 := tne n9 (k := 9) (by decide)
      have mn10 := tne n10 (k := 10) (by decide)
      have mn11 := tne n11 (k := 11) (by decide)
      have mn12 := tne n12 (k := 12) (by decide)
      have mn13 := tne n13 (k := 13) (by decide)
      have mn14 := tne n14 (k := 14) (by decide)
      refine g_tableOut B 237 dX9_count_11 (by omega) (by decide) ?_
      refine g_aload_n B 0 dX9_count_237 rfl rfl ?_
      replace h := bnP_s h
      obtain ⟨x5, h6, h⟩ := h
      refine g_getR B fl_RX9_20 (by decide) dX9_count_238 h6 ?_
      refine g_iconst (v := 0) B dX9_count_241 (by decide) ?_
      refine g_aload_n B 0 dX9_count_242 rfl rfl ?_
      replace h := bnP_s h
      obtain ⟨x7, h8, h⟩ := h
      refine g_getR B fl_RX9_20 (by decide) dX9_count_243 h8 ?_
      replace h := bnP_s h
      obtain ⟨x9, h10, h⟩ := h
      refine g_getRg B fl_RX9_114 (by decide) dX9_count_246 h10 ?_
      replace h := bnP_s h
      obtain ⟨x11, h12, h⟩ := h
      refine g_getI B fl_RX9_118 (by decide) dX9_count_249 h12 ?_
      replace h := bnP_s h
      obtain ⟨x13, h14, h⟩ := h
      refine g_callVs0 (st := []) B (cX1_unknownFromc h14) (Nat.le_of_ble_eq_true rfl) rfl rfl mi_X1_unknownFrom lk_RX9_150 ⟨Nat.le_of_ble_eq_true rfl, Nat.le_of_ble_eq_true rfl⟩ rfl rfl (Nat.le_of_ble_eq_true rfl) dX9_count_252 (Nat.zero_le _) (Nat.zero_le _) ?_
      replace h := Option.some.inj h
      subst h
      exact g_iret B hE (Nat.zero_le _) (Nat.zero_le _) dX9_count_255
set_option maxRecDepth 100000 in
set_option maxHeartbeats 4000000 in
theorem cX9_requireActc {l : Launch} {v0 : Option Nat} {v1 : Int32} {σ : HpT} {o : Except Nat (Option Nat)} (h : fX9_requireAct v0 v1 σ = some o) : IsK σ v0 9 ∧ Ct l yX9_requireAct cX9_requireAct 2 (some (.object "NotaryBook$Act")) 6 90 [va_rf v0, .int v1] σ (oA o) σ (xc o) (xs o) := by
  unfold fX9_requireAct at h
  replace h := bnP_s h
  obtain ⟨u, hk, h⟩ := h
  replace hk := isK_s hk
  refine ⟨hk, ?_⟩
  refine ct_start mi_X9_requireAct.1 rfl (al_le (al_1 (rf_cat _) (al_1 rfl al_n)) (Nat.le_of_ble_eq_true rfl)) (ag_1 (rf_cat _) (ag_1 rfl ag_n)) (fun Δ Γ B hE hnm => ?_)
  refine g_iload_n B 1 dX9_requireAct_0 rfl rfl ?_
  refine g_iconst (v := 1) B dX9_requireAct_1 (by decide) ?_
  refine g_icmp_lt B 16 dX9_requireAct_2 (by decide) (fun hc => ?_) (fun hc => ?_)
  · replace h := ifp hc h
    replace h := Option.some.inj h
    subst h
    exact g_throwW B tw_RX9_238_242 (j := 19) rfl hE (by decide) (Nat.le_of_ble_eq_true rfl) dX9_requireAct_16 dX9_requireAct_19 dX9_requireAct_20 dX9_requireAct_23 dX9_requireAct_26 (Nat.le_refl 1) (Nat.le_refl 6)
  · replace h := ifn hc h
    refine g_iload_n B 1 dX9_requireAct_5 rfl rfl ?_
    refine g_aload_n B 0 dX9_requireAct_6 rfl rfl ?_
    replace h := bnP_s h
    obtain ⟨x1, h2, h⟩ := h
    refine g_getR B fl_RX9_20 (by decide) dX9_requireAct_7 h2 ?_
    replace h := bnP_s h
    obtain ⟨x3, h4, h⟩ := h
    refine g_getI B fl_RX9_92 (by decide) dX9_requireAct_10 h4 ?_
    refine g_icmp_le B 27 dX9_requireAct_13 (by decide) (fun hc => ?_) (fun hc => ?_)
    · replace h := ifp hc h
      refine g_aload_n B 0 dX9_requireAct_27 rfl rfl ?_
      replace h := bnP_s h
      obtain ⟨x5, h6, h⟩ := h
      refine g_getR B fl_RX9_20 (by decide) dX9_requireAct_28 h6 ?_
      replace h := bnP_s h
      obtain ⟨x7, h8, h⟩ := h
      refine g_getRg B fl_RX9_522 (by decide) dX9_requireAct_31 h8 ?_
      refine g_iload_n B 1 dX9_requireAct_34 rfl rfl ?_
      refine g_iconst (v := 1) B dX9_requireAct_35 (by decide) ?_
      refine g_isub B dX9_requireAct_36 ?_
      replace h := bnP_s h
      obtain ⟨x9, h10, h⟩ := h
      refine g_ralds B (κ := 25) (by decide) rfl dX9_requireAct_37 h10 ?_
      replace h := Option.some.inj h
      subst h
      exact g_aret B hE (Or.inl ⟨_, rfl⟩) (Nat.zero_le _) (Nat.zero_le _) dX9_requireAct_38
    · replace h := ifn hc h
      replace h := Option.some.inj h
      subst h
      exact g_throwW B tw_RX9_238_242 (j := 19) rfl hE (by decide) (Nat.le_of_ble_eq_true rfl) dX9_requireAct_16 dX9_requireAct_19 dX9_requireAct_20 dX9_requireAct_23 dX9_requireAct_26 (Nat.le_refl 1) (Nat.le_refl 6)
set_option maxRecDepth 100000 in
set_option maxHeartbeats 4000000 in
theorem cX9_actc {l : Launch} {v0 : Option Nat} {v1 : Int32} {v2 : Int32} {σ : HpT} {o : Except Nat (Int32)} (h : fX9_act v0 v1 v2 σ = some o) : IsK σ v0 9 ∧ Ct l yX9_act cX9_act 4 (some .int) 7 111 [va_rf v0, .int v1, .int v2] σ (oI o) σ (xc o) (xs o) := by
  unfold fX9_act at h
  replace h := bnP_s h
  obtain ⟨u, hk, h⟩ := h
  replace hk := isK_s hk
  refine ⟨hk, ?_⟩
  refine ct_start mi_X9_act.1 rfl (al_le (al_1 (rf_cat _) (al_1 rfl (al_1 rfl al_n))) (Nat.le_of_ble_eq_true rfl)) (ag_1 (rf_cat _) (ag_1 rfl (ag_1 rfl ag_n))) (fun Δ Γ B hE hnm => ?_)
  refine g_aload_n B 0 dX9_act_0 rfl rfl ?_
  replace h := bnX_s h
  rcases h with ⟨e9, h2, e8⟩ | ⟨x1, h2, h⟩
  · subst e8
    exact g_callVx (st := []) B (cX9_requireBookc (o := .error e9) h2) (Nat.le_of_ble_eq_true rfl) rfl rfl mi_X9_requireBook lk_RX9_95 ⟨Nat.le_of_ble_eq_true rfl, Nat.le_of_ble_eq_true rfl⟩ rfl rfl (Nat.le_of_ble_eq_true rfl) dX9_act_1 (Nat.le_of_eq rfl) (Nat.le_of_eq rfl) hE
  · skip
    refine g_callVv0 (st := []) B (cX9_requireBookc (o := .ok x1) h2) (Nat.le_of_ble_eq_true rfl) rfl rfl mi_X9_requireBook lk_RX9_95 ⟨Nat.le_of_ble_eq_true rfl, Nat.le_of_ble_eq_true rfl⟩ rfl rfl (Nat.le_of_ble_eq_true rfl) dX9_act_1 (Nat.zero_le _) (Nat.zero_le _) ?_
    refine g_aload_n B 0 dX9_act_4 rfl rfl ?_
    refine g_iload_n B 1 dX9_act_5 rfl rfl ?_
    replace h := bnX_s h
    rcases h with ⟨e9, h4, e8⟩ | ⟨x3, h4, h⟩
    · subst e8
      exact g_callVx (st := []) B (cX9_requireActc (o := .error e9) h4) (Nat.le_of_ble_eq_true rfl) rfl rfl mi_X9_requireAct lk_RX9_153 ⟨Nat.le_of_ble_eq_true rfl, Nat.le_of_ble_eq_true rfl⟩ rfl rfl (Nat.le_of_ble_eq_true rfl) dX9_act_6 (Nat.le_of_eq rfl) (Nat.le_of_eq rfl) hE
    · skip
      refine g_callVs0 (st := []) B (cX9_requireActc (o := .ok x3) h4) (Nat.le_of_ble_eq_true rfl) rfl rfl mi_X9_requireAct lk_RX9_153 ⟨Nat.le_of_ble_eq_true rfl, Nat.le_of_ble_eq_true rfl⟩ rfl rfl (Nat.le_of_ble_eq_true rfl) dX9_act_6 (Nat.zero_le _) (Nat.zero_le _) ?_
      refine g_astore_n B dX9_act_9 rfl (Nat.le_of_ble_eq_true rfl) (s1_c (f1_k rfl (f1_k rfl (f1_1 rfl rfl f1_n)))) ?_
      refine g_iload_n B 3 dX9_act_10 rfl rfl ?_
      refine g_bipush (v := 11) B dX9_act_11 (by decide) ?_
      replace h := bnX_s h
      rcases h with ⟨e9, h6, e8⟩ | ⟨x5, h6, h⟩
      · subst e8
        exact g_callSx (st := []) B (cX9_requireUpToc (o := .error e9) h6) mi_X9_requireUpTo lk_RX9_98 ⟨Nat.le_of_ble_eq_true rfl, Nat.le_of_ble_eq_true rfl⟩ rfl rfl (Nat.le_of_ble_eq_true rfl) dX9_act_13 (Nat.le_of_eq rfl) (Nat.le_of_eq rfl) hE
      · skip
        refine g_callSv0 (st := []) B (cX9_requireUpToc (o := .ok x5) h6) mi_X9_requireUpTo lk_RX9_98 ⟨Nat.le_of_ble_eq_true rfl, Nat.le_of_ble_eq_true rfl⟩ rfl rfl (Nat.le_of_ble_eq_true rfl) dX9_act_13 (Nat.zero_le _) (Nat.zero_le _) ?_
        refine g_iload_n B 3 dX9_act_16 rfl rfl ?_
        by_cases n0 : v2 = 0
        · replace h := ifp n0 h
          rw [n0]
          refine g_tableIn B 76 dX9_act_17 (by decide) (by decide) rfl (by decide) ?_
          refine g_aload_n B 0 dX9_act_76 rfl rfl ?_
          replace h := bnP_s h
          obtain ⟨x11, h12, h⟩ := h
          refine g_getI B fl_RX9_157 (by decide) dX9_act_77 h12 ?_
          replace h := Option.some.inj h
          subst h
          exact g_iret B hE (Nat.zero_le _) (Nat.zero_le _) dX9_act_80
        replace h := ifn n0 h
        by_cases n1 : v2 = 1
        · replace h := ifp n1 h
          rw [n1]
          refine g_tableIn B 81 dX9_act_17 (by decide) (by decide) rfl (by decide) ?_
          refine g_aload_n B 0 dX9_act_81 rfl rfl ?_
          replace h := bnP_s h
          obtain ⟨x13, h14, h⟩ := h
          refine g_getI B fl_RX9_160 (by decide) dX9_act_82 h14 ?_
          replace h := Option.some.inj h
          subst h
          exact g_iret B hE (Nat.zero_le _) (Nat.zero_le _) dX9_act_85
        replace h := ifn n1 h
        by_cases n2 : v2 = 2
        · replace h := ifp n2 h
          rw [n2]
          refine g_tableIn B 86 dX9_act_17 (by decide) (by decide) rfl (by decide) ?_
          refine g_aload_n B 0 dX9_act_86 rfl rfl ?_
          replace h := bnP_s h
          obtain ⟨x15, h16, h⟩ := h
          refine g_getI B fl_RX9_163 (by decide) dX9_act_87 h16 ?_
          replace h := Option.some.inj h
          subst h
          exact g_iret B hE (Nat.zero_le _) (Nat.zero_le _) dX9_act_90
        replace h := ifn n2 h
        by_cases n3 : v2 = 3
        · replace h := ifp n3 h
          rw [n3]
          refine g_tableIn B 91 dX9_act_17 (by decide) (by decide) rfl (by decide) ?_
          refine g_aload_n B 0 dX9_act_91 rfl rfl ?_
          replace h := bnP_s h
          obtain ⟨x17, h18, h⟩ := h
          refine g_getI B fl_RX9_166 (by decide) dX9_act_92 h18 ?_
          replace h := Option.some.inj h
          subst h
          exact g_iret B hE (Nat.zero_le _) (Nat.zero_le _) dX9_act_95
        replace h := ifn n3 h
        by_cases n4 : v2 = 4
        · replace h := ifp n4 h
          rw [n4]
          refine g_tableIn B 96 dX9_act_17 (by decide) (by decide) rfl (by decide) ?_
          refine g_aload_n B 0 dX9_act_96 rfl rfl ?_
          replace h := bnP_s h
          obtain ⟨x19, h20, h⟩ := h
          refine g_getI B fl_RX9_169 (by decide) dX9_act_97 h20 ?_
          replace h := Option.some.inj h
          subst h
          exact g_iret B hE (Nat.zero_le _) (Nat.zero_le _) dX9_act_100
        replace h := ifn n4 h
        by_cases n5 : v2 = 5
        · replace h := ifp n5 h
          rw [n5]
          refine g_tableIn B 101 dX9_act_17 (by decide) (by decide) rfl (by decide) ?_
          refine g_aload_n B 1 dX9_act_101 rfl rfl ?_
          replace h := bnP_s h
          obtain ⟨x21, h22, h⟩ := h
          refine g_getR B fl_RX9_20 (by decide) dX9_act_102 h22 ?_
          replace h := bnP_s h
          obtain ⟨x23, h24, h⟩ := h
          refine g_getRg B fl_RX9_114 (by decide) dX9_act_105 h24 ?_
          refine g_aload_n B 0 dX9_act_108 rfl rfl ?_
          replace h := bnP_s h
          obtain ⟨x25, h26, h⟩ := h
          refine g_getI B fl_RX9_170 (by decide) dX9_act_109 h26 ?_
          refine g_aload_n B 0 dX9_act_112 rfl rfl ?_
          replace h := bnP_s h
          obtain ⟨x27, h28, h⟩ := h
          refine g_getI B fl_RX9_169 (by decide) dX9_act_113 h28 ?_
          replace h := bnP_s h
          obtain ⟨x29, h30, h⟩ := h
          refine g_callVs0 (st := []) B (cX8_standingFromc h30) (Nat.le_of_ble_eq_true rfl) rfl rfl mi_X8_standingFrom lk_RX9_138 ⟨Nat.le_of_ble_eq_true rfl, Nat.le_of_ble_eq_true rfl⟩ rfl rfl (Nat.le_of_ble_eq_true rfl) dX9_act_116 (Nat.zero_le _) (Nat.zero_le _) ?_
          replace h := Option.some.inj h
          subst h
          exact g_iret B hE (Nat.zero_le _) (Nat.zero_le _) dX9_act_119
        replace h := ifn n5 h
        by_cases n6 : v2 = 6
        · replace h := ifp n6 h
          rw [n6]
          refine g_tableIn B 120 dX9_act_17 (by decide) (by decide) rfl (by decide) ?_
          refine g_aload_n B 1 dX9_act_120 rfl rfl ?_
          replace h := bnP_s h
          obtain ⟨x31, h32, h⟩ := h
          refine g_getR B fl_RX9_20 (by decide) dX9_act_121 h32 ?_
          replace h := bnP_s h
          obtain ⟨x33, h34, h⟩ := h
          refine g_getRg B fl_RX9_114 (by decide) dX9_act_124 h34 ?_
          refine g_aload_n B 0 dX9_act_127 rfl rfl ?_
          replace h := bnP_s h
          obtain ⟨x35, h36, h⟩ := h
          refine g_getI B fl_RX9_170 (by decide) dX9_act_128 h36 ?_
          refine g_aload_n B 0 dX9_act_131 rfl rfl ?_
          replace h := bnP_s h
          obtain ⟨x37, h38, h⟩ := h
          refine g_getI B fl_RX9_169 (by decide) dX9_act_132 h38 ?_
          replace h := bnP_s h
          obtain ⟨x39, h40, h⟩ := h
          refine g_callVs0 (st := []) B (cX8_clausesFromc h40) (Nat.le_of_ble_eq_true rfl) rfl rfl mi_X8_clausesFrom lk_RX9_173 ⟨Nat.le_of_ble_eq_true rfl, Nat.le_of_ble_eq_true rfl⟩ rfl rfl (Nat.le_of_ble_eq_true rfl) dX9_act_135 (Nat.zero_le _) (Nat.zero_le _) ?_
          replace h := Option.some.inj h
          subst h
          exact g_iret B hE (Nat.zero_le _) (Nat.zero_le _) dX9_act_138
        replace h := ifn n6 h
        by_cases n7 : v2 = 7
        · replace h := ifp n7 h
          rw [n7]
          refine g_tableIn B 139 dX9_act_17 (by decide) (by decide) rfl (by decide) ?_
          refine g_aload_n B 1 dX9_act_139 rfl rfl ?_
          replace h := bnP_s h
          obtain ⟨x41, h42, h⟩ := h
          refine g_getR B fl_RX9_20 (by decide) dX9_act_140 h42 ?_
          replace h := bnP_s h
          obtain ⟨x43, h44, h⟩ := h
          refine g_getRg B fl_RX9_114 (by decide) dX9_act_143 h44 ?_
          refine g_aload_n B 0 dX9_act_146 rfl rfl ?_
          replace h := bnP_s h
          obtain ⟨x45, h46, h⟩ := h
          refine g_getI B fl_RX9_170 (by decide) dX9_act_147 h46 ?_
          refine g_aload_n B 0 dX9_act_150 rfl rfl ?_
          replace h := bnP_s h
          obtain ⟨x47, h48, h⟩ := h
          refine g_getI B fl_RX9_169 (by decide) dX9_act_151 h48 ?_
          replace h := bnP_s h
          obtain ⟨x49, h50, h⟩ := h
          refine g_callVs0 (st := []) B (cX8_greatestDepthc h50) (Nat.le_of_ble_eq_true rfl) rfl rfl mi_X8_greatestDepth lk_RX9_176 ⟨Nat.le_of_ble_eq_true rfl, Nat.le_of_ble_eq_true rfl⟩ rfl rfl (Nat.le_of_ble_eq_true rfl) dX9_act_154 (Nat.zero_le _) (Nat.zero_le _) ?_
          replace h := Option.some.inj h
          subst h
          exact g_iret B hE (Nat.zero_le _) (Nat.zero_le _) dX9_act_157
        replace h := ifn n7 h
        by_cases n8 : v2 = 8
        · replace h := ifp n8 h
          rw [n8]
          refine g_tableIn B 158 dX9_act_17 (by decide) (by decide) rfl (by decide) ?_
          refine g_aload_n B 1 dX9_act_158 rfl rfl ?_
          replace h := bnP_s h
          obtain ⟨x51, h52, h⟩ := h
          refine g_getR B fl_RX9_20 (by decide) dX9_act_159 h52 ?_
          refine g_aload_n B 0 dX9_act_162 rfl rfl ?_
          replace h := bnP_s h
          obtain ⟨x53, h54, h⟩ := h
          refine g_getI B fl_RX9_170 (by decide) dX9_act_163 h54 ?_
          replace h := bnP_s h
          obtain ⟨x55, h56, h⟩ := h
          refine g_callVs0 (st := []) B (cX1_leafOfc h56) (Nat.le_of_ble_eq_true rfl) rfl rfl mi_X1_leafOf lk_RX9_179 ⟨Nat.le_of_ble_eq_true rfl, Nat.le_of_ble_eq_true rfl⟩ rfl rfl (Nat.le_of_ble_eq_true rfl) dX9_act_166 (Nat.zero_le _) (Nat.zero_le _) ?_
          replace h := Option.some.inj h
          subst h
          exact g_iret B hE (Nat.zero_le _) (Nat.zero_le _) dX9_act_169
        replace h := ifn n8 h
        by_cases n9 : v2 = 9
        · replace h := ifp n9 h
          rw [n9]
          refine g_tableIn B 170 dX9_act_17 (by decide) (by decide) rfl (by decide) ?_
          refine g_aload_n B 1 dX9_act_170 rfl rfl ?_
          replace h := bnP_s h
          obtain ⟨x57, h58, h⟩ := h
          refine g_getR B fl_RX9_20 (by decide) dX9_act_171 h58 ?_
          refine g_aload_n B 0 dX9_act_174 rfl rfl ?_
          replace h := bnP_s h
          obtain ⟨x59, h60, h⟩ := h
          refine g_getI B fl_RX9_170 (by decide) dX9_act_175 h60 ?_
          refine g_aload_n B 0 dX9_act_178 rfl rfl ?_
          replace h := bnP_s h
          obtain ⟨x61, h62, h⟩ := h
          refine g_getI B fl_RX9_169 (by decide) dX9_act_179 h62 ?_
          refine g_iadd B dX9_act_182 ?_
          refine g_iconst (v := 1) B dX9_act_183 (by decide) ?_
          refine g_isub B dX9_act_184 ?_
          replace h := bnP_s h
          obtain ⟨x63, h64, h⟩ := h
          refine g_callVs0 (st := []) B (cX1_leafOfc h64) (Nat.le_of_ble_eq_true rfl) rfl rfl mi_X1_leafOf lk_RX9_179 ⟨Nat.le_of_ble_eq_true rfl, Nat.le_of_ble_eq_true rfl⟩ rfl rfl (Nat.le_of_ble_eq_true rfl) dX9_act_185 (Nat.zero_le _) (Nat.zero_le _) ?_
          replace h := Option.some.inj h
          subst h
          exact g_iret B hE (Nat.zero_le _) (Nat.zero_le _) dX9_act_188
        replace h := ifn n9 h
        by_cases n10 : v2 = 10
        · replace h := ifp n10 h
          rw [n10]
          refine g_tableIn B 189 dX9_act_17 (by decide) (by decide) rfl (by decide) ?_
          refine g_aload_n B 0 dX9_act_189 rfl rfl ?_
          replace h := bnP_s h
          obtain ⟨x65, h66, h⟩ := h
          refine g_getI B fl_RX9_182 (by decide) dX9_act_190 h66 ?_
          replace h := Option.some.inj h
          subst h
          exact g_iret B hE (Nat.zero_le _) (Nat.zero_le _) dX9_act_193
        replace h := ifn n10 h
        have mn0 := tne n0 (k := 0) (by decide)
        have mn1 := tne n1 (k := 1) (by decide)
        have mn2 := tne n2 (k := 2) (by decide)
        have mn3 := tne n3 (k := 3) (by decide)
        have mn4 := tne n4 (k := 4) (by decide)
        have mn5 := tne n5 (k := 5) (by decide)
        have mn6 := tne n6 (k := 6) (by decide)
        have mn7 := tne n7 (k := 7) (by decide)
        have mn8 := tne n8 (k := 8) (by decide)
        have mn9 := tne n9 (k := 9) (by decide)
        have mn10 := tne n10 (k := 10) (by decide)
        refine g_tableOut B 194 dX9_act_17 (by omega) (by decide) ?_
        refine g_aload_n B 1 dX9_act_194 rfl rfl ?_
        replace h := bnP_s h
        obtain ⟨x7, h8, h⟩ := h
        refine g_getR B fl_RX9_20 (by decide) dX9_act_195 h8 ?_
        refine g_iload_n B 2 dX9_act_198 rfl rfl ?_
        replace h := bnP_s h
        obtain ⟨x9, h10, h⟩ := h
        refine g_callVs0 (st := []) B (cX1_copiesOfc h10) (Nat.le_of_ble_eq_true rfl) rfl rfl mi_X1_copiesOf lk_RX9_185 ⟨Nat.le_of_ble_eq_true rfl, Nat.le_of_ble_eq_true rfl⟩ rfl rfl (Nat.le_of_ble_eq_true rfl) dX9_act_199 (Nat.zero_le _) (Nat.zero_le _) ?_
        replace h := Option.some.inj h
        subst h
        exact g_iret B hE (Nat.zero_le _) (Nat.zero_le _) dX9_act_202
set_option maxRecDepth 100000 in
set_option maxHeartbeats 4000000 in
theorem cX9_requireWordc {l : Launch} {v0 : Option Nat} {v1 : Int32} {σ : HpT} {o : Except Nat (Int32)} (h : fX9_requireWord v0 v1 σ = some o) : Ct l yX9_requireWord cX9_requireWord 2 (some .int) 6 90 [va_rf v0, .int v1] σ (oI o) σ (xc o) (xs o) := by
  unfold fX9_requireWord at h
  refine ct_start mi_X9_requireWord.1 rfl (al_le (al_1 (rf_cat _) (al_1 rfl al_n)) (Nat.le_of_ble_eq_true rfl)) (ag_1 (rf_cat _) (ag_1 rfl ag_n)) (fun Δ Γ B hE hnm => ?_)
  refine g_iload_n B 1 dX9_requireWord_0 rfl rfl ?_
  refine g_if_lt B 12 dX9_requireWord_1 (by decide) (fun hc => ?_) (fun hc => ?_)
  · replace h := ifp hc h
    replace h := Option.some.inj h
    subst h
    exact g_throwW B tw_RX9_238_242 (j := 20) rfl hE (by decide) (Nat.le_of_ble_eq_true rfl) dX9_requireWord_12 dX9_requireWord_15 dX9_requireWord_16 dX9_requireWord_19 dX9_requireWord_22 (Nat.le_refl 1) (Nat.le_refl 6)
  · replace h := ifn hc h
    refine g_iload_n B 1 dX9_requireWord_4 rfl rfl ?_
    refine g_aload_n B 0 dX9_requireWord_5 rfl rfl ?_
    replace h := bnP_s h
    obtain ⟨x1, h2, h⟩ := h
    refine g_getI B fl_RX9_169 (by decide) dX9_requireWord_6 h2 ?_
    refine g_icmp_lt B 23 dX9_requireWord_9 (by decide) (fun hc => ?_) (fun hc => ?_)
    · replace h := ifp hc h
      refine g_aload_n B 0 dX9_requireWord_23 rfl rfl ?_
      replace h := bnP_s h
      obtain ⟨x3, h4, h⟩ := h
      refine g_getI B fl_RX9_170 (by decide) dX9_requireWord_24 h4 ?_
      refine g_iload_n B 1 dX9_requireWord_27 rfl rfl ?_
      refine g_iadd B dX9_requireWord_28 ?_
      replace h := Option.some.inj h
      subst h
      exact g_iret B hE (Nat.zero_le _) (Nat.zero_le _) dX9_requireWord_29
    · replace h := ifn hc h
      replace h := Option.some.inj h
      subst h
      exact g_throwW B tw_RX9_238_242 (j := 20) rfl hE (by decide) (Nat.le_of_ble_eq_true rfl) dX9_requireWord_12 dX9_requireWord_15 dX9_requireWord_16 dX9_requireWord_19 dX9_requireWord_22 (Nat.le_refl 1) (Nat.le_refl 6)
set_option maxRecDepth 100000 in
set_option maxHeartbeats 4000000 in
theorem cX9_wordc {l : Launch} {v0 : Option Nat} {v1 : Int32} {v2 : Int32} {v3 : Int32} {σ : HpT} {o : Except Nat (Int32)} (h : fX9_word v0 v1 v2 v3 σ = some o) : IsK σ v0 9 ∧ Ct l yX9_word cX9_word 7 (some .int) 7 111 [va_rf v0, .int v1, .int v2, .int v3] σ (oI o) σ (xc o) (xs o) := by
  unfold fX9_word at h
  replace h := bnP_s h
  obtain ⟨u, hk, h⟩ := h
  replace hk := isK_s hk
  refine ⟨hk, ?_⟩
  refine ct_start mi_X9_word.1 rfl (al_le (al_1 (rf_cat _) (al_1 rfl (al_1 rfl (al_1 rfl al_n)))) (Nat.le_of_ble_eq_true rfl)) (ag_1 (rf_cat _) (ag_1 rfl (ag_1 rfl (ag_1 rfl ag_n)))) (fun Δ Γ B hE hnm => ?_)
  refine g_aload_n B 0 dX9_word_0 rfl rfl ?_
  replace h := bnX_s h
  rcases h with ⟨e9, h2, e8⟩ | ⟨x1, h2, h⟩
  · subst e8
    exact g_callVx (st := []) B (cX9_requireBookc (o := .error e9) h2) (Nat.le_of_ble_eq_true rfl) rfl rfl mi_X9_requireBook lk_RX9_95 ⟨Nat.le_of_ble_eq_true rfl, Nat.le_of_ble_eq_true rfl⟩ rfl rfl (Nat.le_of_ble_eq_true rfl) dX9_word_1 (Nat.le_of_eq rfl) (Nat.le_of_eq rfl) hE
  · skip
    refine g_callVv0 (st := []) B (cX9_requireBookc (o := .ok x1) h2) (Nat.le_of_ble_eq_true rfl) rfl rfl mi_X9_requireBook lk_RX9_95 ⟨Nat.le_of_ble_eq_true rfl, Nat.le_of_ble_eq_true rfl⟩ rfl rfl (Nat.le_of_ble_eq_true rfl) dX9_word_1 (Nat.zero_le _) (Nat.zero_le _) ?_
    refine g_aload_n B 0 dX9_word_4 rfl rfl ?_
    refine g_iload_n B 1 dX9_word_5 rfl rfl ?_
    replace h := bnX_s h
    rcases h with ⟨e9, h4, e8⟩ | ⟨x3, h4, h⟩
    · subst e8
      exact g_callVx (st := []) B (cX9_requireActc (o := .error e9) h4) (Nat.le_of_ble_eq_true rfl) rfl rfl mi_X9_requireAct lk_RX9_153 ⟨Nat.le_of_ble_eq_true rfl, Nat.le_of_ble_eq_true rfl⟩ rfl rfl (Nat.le_of_ble_eq_true rfl) dX9_word_6 (Nat.le_of_eq rfl) (Nat.le_of_eq rfl) hE
    · skip
      refine g_callVs0 (st := []) B (cX9_requireActc (o := .ok x3) h4) (Nat.le_of_ble_eq_true rfl) rfl rfl mi_X9_requireAct lk_RX9_153 ⟨Nat.le_of_ble_eq_true rfl, Nat.le_of_ble_eq_true rfl⟩ rfl rfl (Nat.le_of_ble_eq_true rfl) dX9_word_6 (Nat.zero_le _) (Nat.zero_le _) ?_
      refine g_astore B dX9_word_9 (Nat.le_of_ble_eq_true rfl) (s1_c (f1_k rfl (f1_k rfl (f1_k rfl (f1_1 rfl rfl f1_n))))) ?_
      refine g_aload B 0 dX9_word_11 rfl ?_
      refine g_iload_n B 3 dX9_word_13 rfl rfl ?_
      replace h := bnX_s h
      rcases h with ⟨e9, h6, e8⟩ | ⟨x5, h6, h⟩
      · subst e8
        exact g_callSx (st := []) B (cX9_requireWordc (o := .error e9) h6) mi_X9_requireWord lk_RX9_188 ⟨Nat.le_of_ble_eq_true rfl, Nat.le_of_ble_eq_true rfl⟩ rfl rfl (Nat.le_of_ble_eq_true rfl) dX9_word_14 (Nat.le_of_eq rfl) (Nat.le_of_eq rfl) hE
      · skip
        refine g_callSs0 (st := []) B (cX9_requireWordc (o := .ok x5) h6) mi_X9_requireWord lk_RX9_188 ⟨Nat.le_of_ble_eq_true rfl, Nat.le_of_ble_eq_true rfl⟩ rfl rfl (Nat.le_of_ble_eq_true rfl) dX9_word_14 (Nat.zero_le _) (Nat.zero_le _) ?_
        refine g_istore B dX9_word_17 (Nat.le_of_ble_eq_true rfl) (s1_c (f1_1 rfl (rf_cat _) (f1_k rfl (f1_k rfl (f1_k rfl (f1_k rfl f1_n)))))) ?_
        refine g_iload_n B 5 dX9_word_19 rfl rfl ?_
        refine g_bipush (v := 7) B dX9_word_20 (by decide) ?_
        replace h := bnX_s h
        rcases h with ⟨e9, h8, e8⟩ | ⟨x7, h8, h⟩
        · subst e8
          exact g_callSx (st := []) B (cX9_requireUpToc (o := .error e9) h8) mi_X9_requireUpTo lk_RX9_98 ⟨Nat.le_of_ble_eq_true rfl, Nat.le_of_ble_eq_true rfl⟩ rfl rfl (Nat.le_of_ble_eq_true rfl) dX9_word_22 (Nat.le_of_eq rfl) (Nat.le_of_eq rfl) hE
        · skip
          refine g_callSv0 (st := []) B (cX9_requireUpToc (o := .ok x7) h8) mi_X9_requireUpTo lk_RX9_98 ⟨Nat.le_of_ble_eq_true rfl, Nat.le_of_ble_eq_true rfl⟩ rfl rfl (Nat.le_of_ble_eq_true rfl) dX9_word_22 (Nat.zero_le _) (Nat.zero_le _) ?_
          refine g_aload_n B 2 dX9_word_25 rfl rfl ?_
          replace h := bnP_s h
          obtain ⟨x9, h10, h⟩ := h
          refine g_getR B fl_RX9_20 (by decide) dX9_word_26 h10 ?_
          replace h := bnP_s h
          obtain ⟨x11, h12, h⟩ := h
          refine g_getRg B fl_RX9_114 (by decide) dX9_word_29 h12 ?_
          refine g_astore B dX9_word_32 (Nat.le_of_ble_eq_true rfl) (s1_c (f1_1 rfl rfl (f1_k rfl (f1_k rfl (f1_k rfl (f1_k rfl (f1_k rfl f1_n))))))) ?_
          refine g_iload_n B 6 dX9_word_34 rfl rfl ?_
          by_cases n0 : v3 = 0
          · replace h := ifp n0 h
            rw [n0]
            refine g_tableIn B 76 dX9_word_35 (by decide) (by decide) rfl (by decide) ?_
            refine g_aload_n B 3 dX9_word_76 rfl rfl ?_
            replace h := bnP_s h
            obtain ⟨x17, h18, h⟩ := h
            refine g_getR B fl_RX9_20 (by decide) dX9_word_77 h18 ?_
            refine g_iload B 1 dX9_word_80 rfl ?_
            replace h := bnP_s h
            obtain ⟨x19, h20, h⟩ := h
            refine g_callVs0 (st := []) B (cX1_leafOfc h20) (Nat.le_of_ble_eq_true rfl) rfl rfl mi_X1_leafOf lk_RX9_179 ⟨Nat.le_of_ble_eq_true rfl, Nat.le_of_ble_eq_true rfl⟩ rfl rfl (Nat.le_of_ble_eq_true rfl) dX9_word_82 (Nat.zero_le _) (Nat.zero_le _) ?_
            replace h := Option.some.inj h
            subst h
            exact g_iret B hE (Nat.zero_le _) (Nat.zero_le _) dX9_word_85
          replace h := ifn n0 h
          by_cases n1 : v3 = 1
          · replace h := ifp n1 h
            rw [n1]
            refine g_tableIn B 86 dX9_word_35 (by decide) (by decide) rfl (by decide) ?_
            refine g_aload B 0 dX9_word_86 rfl ?_
            replace h := bnP_s h
            obtain ⟨x21, h22, h⟩ := h
            refine g_getRg B fl_RX9_192 (by decide) dX9_word_88 h22 ?_
            refine g_iload B 1 dX9_word_91 rfl ?_
            replace h := bnP_s h
            obtain ⟨x23, h24, h⟩ := h
            refine g_zald B dX9_word_93 h24 ?_
            refine g_if_eq B 101 dX9_word_94 (by decide) (fun hc => ?_) (fun hc => ?_)
            · replace h := ifp hc h
              refine g_iconst (v := 0) B dX9_word_101 (by decide) ?_
              replace h := Option.some.inj h
              subst h
              exact g_iret B hE (Nat.zero_le _) (Nat.zero_le _) dX9_word_102
            · replace h := ifn hc h
              refine g_iconst (v := 1) B dX9_word_97 (by decide) ?_
              refine g_goto B 102 dX9_word_98 (by decide) ?_
              replace h := Option.some.inj h
              subst h
              exact g_iret B hE (Nat.zero_le _) (Nat.zero_le _) dX9_word_102
          replace h := ifn n1 h
          by_cases n2 : v3 = 2
          · replace h := ifp n2 h
            rw [n2]
            refine g_tableIn B 103 dX9_word_35 (by decide) (by decide) rfl (by decide) ?_
            refine g_aload B 0 dX9_word_103 rfl ?_
            refine g_aload B 2 dX9_word_105 rfl ?_
            replace h := bnP_s h
            obtain ⟨x25, h26, h⟩ := h
            refine g_getI B fl_RX9_170 (by decide) dX9_word_107 h26 ?_
            refine g_iload B 1 dX9_word_110 rfl ?_
            replace h := bnP_s h
            obtain ⟨x27, h28, h⟩ := h
            refine g_callVs0 (st := []) B (cX8_depthOfc h28) (Nat.le_of_ble_eq_true rfl) rfl rfl mi_X8_depthOf lk_RX9_195 ⟨Nat.le_of_ble_eq_true rfl, Nat.le_of_ble_eq_true rfl⟩ rfl rfl (Nat.le_of_ble_eq_true rfl) dX9_word_112 (Nat.zero_le _) (Nat.zero_le _) ?_
            replace h := Option.some.inj h
            subst h
            exact g_iret B hE (Nat.zero_le _) (Nat.zero_le _) dX9_word_115
          replace h := ifn n2 h
          by_cases n3 : v3 = 3
          · replace h := ifp n3 h
            rw [n3]
            refine g_tableIn B 116 dX9_word_35 (by decide) (by decide) rfl (by decide) ?_
            refine g_aload B 0 dX9_word_116 rfl ?_
            replace h := bnP_s h
            obtain ⟨x29, h30, h⟩ := h
            refine g_getRg B fl_RX9_198 (by decide) dX9_word_118 h30 ?_
            refine g_iload B 1 dX9_word_121 rfl ?_
            replace h := bnP_s h
            obtain ⟨x31, h32, h⟩ := h
            refine g_iald B dX9_word_123 h32 ?_
            replace h := Option.some.inj h
            subst h
            exact g_iret B hE (Nat.zero_le _) (Nat.zero_le _) dX9_word_124
          replace h := ifn n3 h
          by_cases n4 : v3 = 4
          · replace h := ifp n4 h
            rw [n4]
            refine g_tableIn B 125 dX9_word_35 (by decide) (by decide) rfl (by decide) ?_
            refine g_aload B 0 dX9_word_125 rfl ?_
            replace h := bnP_s h
            obtain ⟨x33, h34, h⟩ := h
            refine g_getRg B fl_RX9_202 (by decide) dX9_word_127 h34 ?_
            refine g_iload B 1 dX9_word_130 rfl ?_
            replace h := bnP_s h
            obtain ⟨x35, h36, h⟩ := h
            refine g_lald B dX9_word_132 h36 ?_
            replace h := bnP_s h
            obtain ⟨x37, h38, h⟩ := h
            refine g_callSs0 (st := []) B (cX9_lettersInc h38) mi_X9_lettersIn lk_RX9_206 ⟨Nat.le_of_ble_eq_true rfl, Nat.le_of_ble_eq_true rfl⟩ rfl rfl (Nat.le_of_ble_eq_true rfl) dX9_word_133 (Nat.zero_le _) (Nat.zero_le _) ?_
            replace h := Option.some.inj h
            subst h
            exact g_iret B hE (Nat.zero_le _) (Nat.zero_le _) dX9_word_136
          replace h := ifn n4 h
          by_cases n5 : v3 = 5
          · replace h := ifp n5 h
            rw [n5]
            refine g_tableIn B 137 dX9_word_35 (by decide) (by decide) rfl (by decide) ?_
            refine g_aload_n B 3 dX9_word_137 rfl rfl ?_
            replace h := bnP_s h
            obtain ⟨x39, h40, h⟩ := h
            refine g_getR B fl_RX9_20 (by decide) dX9_word_138 h40 ?_
            refine g_iload B 1 dX9_word_141 rfl ?_
            replace h := bnP_s h
            obtain ⟨x41, h42, h⟩ := h
            refine g_callVs0 (st := []) B (cX1_isKnownc h42) (Nat.le_of_ble_eq_true rfl) rfl rfl mi_X1_isKnown lk_RX9_210 ⟨Nat.le_of_ble_eq_true rfl, Nat.le_of_ble_eq_true rfl⟩ rfl rfl (Nat.le_of_ble_eq_true rfl) dX9_word_143 (Nat.zero_le _) (Nat.zero_le _) ?_
            refine g_if_eq B 153 dX9_word_146 (by decide) (fun hc => ?_) (fun hc => ?_)
            · replace h := ifn (bI0 hc) h
              refine g_iconst (v := 0) B dX9_word_153 (by decide) ?_
              replace h := Option.some.inj h
              subst h
              exact g_iret B hE (Nat.zero_le _) (Nat.zero_le _) dX9_word_154
            · replace h := ifp (bI1 hc) h
              refine g_iconst (v := 1) B dX9_word_149 (by decide) ?_
              refine g_goto B 154 dX9_word_150 (by decide) ?_
              replace h := Option.some.inj h
              subst h
              exact g_iret B hE (Nat.zero_le _) (Nat.zero_le _) dX9_word_154
          replace h := ifn n5 h
          by_cases n6 : v3 = 6
          · replace h := ifp n6 h
            rw [n6]
            refine g_tableIn B 155 dX9_word_35 (by decide) (by decide) rfl (by decide) ?_
            refine g_aload B 0 dX9_word_155 rfl ?_
            refine g_aload B 2 dX9_word_157 rfl ?_
            replace h := bnP_s h
            obtain ⟨x43, h44, h⟩ := h
            refine g_getI B fl_RX9_170 (by decide) dX9_word_159 h44 ?_
            refine g_iload B 1 dX9_word_162 rfl ?_
            replace h := bnP_s h
            obtain ⟨x45, h46, h⟩ := h
            refine g_callVs0 (st := []) B (cX8_innermostOfc h46) (Nat.le_of_ble_eq_true rfl) rfl rfl mi_X8_innermostOf lk_RX9_214 ⟨Nat.le_of_ble_eq_true rfl, Nat.le_of_ble_eq_true rfl⟩ rfl rfl (Nat.le_of_ble_eq_true rfl) dX9_word_164 (Nat.zero_le _) (Nat.zero_le _) ?_
            replace h := Option.some.inj h
            subst h
            exact g_iret B hE (Nat.zero_le _) (Nat.zero_le _) dX9_word_167
          replace h := ifn n6 h
          have mn0 := tne n0 (k := 0) (by decide)
          have mn1 := tne n1 (k := 1) (by decide)
          have mn2 := tne n2 (k := 2) (by decide)
          have mn3 := tne n3 (k := 3) (by decide)
          have mn4 := tne n4 (k := 4) (by decide)
          have mn5 := tne n5 (k := 5) (by decide)
          have mn6 := tne n6 (k := 6) (by decide)
          refine g_tableOut B 168 dX9_word_35 (by omega) (by decide) ?_
          refine g_aload_n B 3 dX9_word_168 rfl rfl ?_
          replace h := bnP_s h
          obtain ⟨x13, h14, h⟩ := h
          refine g_getR B fl_RX9_20 (by decide) dX9_word_169 h14 ?_
          refine g_iload B 1 dX9_word_172 rfl ?_
          replace h := bnP_s h
          obtain ⟨x15, h16, h⟩ := h
          refine g_callVs0 (st := []) B (cX1_copiesWithc h16) (Nat.le_of_ble_eq_true rfl) rfl rfl mi_X1_copiesWith lk_RX9_217 ⟨Nat.le_of_ble_eq_true rfl, Nat.le_of_ble_eq_true rfl⟩ rfl rfl (Nat.le_of_ble_eq_true rfl) dX9_word_174 (Nat.zero_le _) (Nat.zero_le _) ?_
          replace h := Option.some.inj h
          subst h
          exact g_iret B hE (Nat.zero_le _) (Nat.zero_le _) dX9_word_177
set_option maxRecDepth 100000 in
set_option maxHeartbeats 4000000 in
theorem cX9_letterc {l : Launch} {v0 : Option Nat} {v1 : Int32} {v2 : Int32} {v3 : Int32} {σ : HpT} {o : Except Nat (Int32)} (h : fX9_letter v0 v1 v2 v3 σ = some o) : IsK σ v0 9 ∧ Ct l yX9_letter cX9_letter 5 (some .int) 7 111 [va_rf v0, .int v1, .int v2, .int v3] σ (oI o) σ (xc o) (xs o) := by
  unfold fX9_letter at h
  replace h := bnP_s h
  obtain ⟨u, hk, h⟩ := h
  replace hk := isK_s hk
  refine ⟨hk, ?_⟩
  refine ct_start mi_X9_letter.1 rfl (al_le (al_1 (rf_cat _) (al_1 rfl (al_1 rfl (al_1 rfl al_n)))) (Nat.le_of_ble_eq_true rfl)) (ag_1 (rf_cat _) (ag_1 rfl (ag_1 rfl (ag_1 rfl ag_n)))) (fun Δ Γ B hE hnm => ?_)
  refine g_aload_n B 0 dX9_letter_0 rfl rfl ?_
  replace h := bnX_s h
  rcases h with ⟨e9, h2, e8⟩ | ⟨x1, h2, h⟩
  · subst e8
    exact g_callVx (st := []) B (cX9_requireBookc (o := .error e9) h2) (Nat.le_of_ble_eq_true rfl) rfl rfl mi_X9_requireBook lk_RX9_95 ⟨Nat.le_of_ble_eq_true rfl, Nat.le_of_ble_eq_true rfl⟩ rfl rfl (Nat.le_of_ble_eq_true rfl) dX9_letter_1 (Nat.le_of_eq rfl) (Nat.le_of_eq rfl) hE
  · skip
    refine g_callVv0 (st := []) B (cX9_requireBookc (o := .ok x1) h2) (Nat.le_of_ble_eq_true rfl) rfl rfl mi_X9_requireBook lk_RX9_95 ⟨Nat.le_of_ble_eq_true rfl, Nat.le_of_ble_eq_true rfl⟩ rfl rfl (Nat.le_of_ble_eq_true rfl) dX9_letter_1 (Nat.zero_le _) (Nat.zero_le _) ?_
    refine g_aload_n B 0 dX9_letter_4 rfl rfl ?_
    refine g_iload_n B 1 dX9_letter_5 rfl rfl ?_
    replace h := bnX_s h
    rcases h with ⟨e9, h4, e8⟩ | ⟨x3, h4, h⟩
    · subst e8
      exact g_callVx (st := []) B (cX9_requireActc (o := .error e9) h4) (Nat.le_of_ble_eq_true rfl) rfl rfl mi_X9_requireAct lk_RX9_153 ⟨Nat.le_of_ble_eq_true rfl, Nat.le_of_ble_eq_true rfl⟩ rfl rfl (Nat.le_of_ble_eq_true rfl) dX9_letter_6 (Nat.le_of_eq rfl) (Nat.le_of_eq rfl) hE
    · skip
      refine g_callVs0 (st := []) B (cX9_requireActc (o := .ok x3) h4) (Nat.le_of_ble_eq_true rfl) rfl rfl mi_X9_requireAct lk_RX9_153 ⟨Nat.le_of_ble_eq_true rfl, Nat.le_of_ble_eq_true rfl⟩ rfl rfl (Nat.le_of_ble_eq_true rfl) dX9_letter_6 (Nat.zero_le _) (Nat.zero_le _) ?_
      refine g_iload_n B 2 dX9_letter_9 rfl rfl ?_
      replace h := bnX_s h
      rcases h with ⟨e9, h6, e8⟩ | ⟨x5, h6, h⟩
      · subst e8
        exact g_callSx (st := []) B (cX9_requireWordc (o := .error e9) h6) mi_X9_requireWord lk_RX9_188 ⟨Nat.le_of_ble_eq_true rfl, Nat.le_of_ble_eq_true rfl⟩ rfl rfl (Nat.le_of_ble_eq_true rfl) dX9_letter_10 (Nat.le_of_eq rfl) (Nat.le_of_eq rfl) hE
      · skip
        refine g_callSs0 (st := []) B (cX9_requireWordc (o := .ok x5) h6) mi_X9_requireWord lk_RX9_188 ⟨Nat.le_of_ble_eq_true rfl, Nat.le_of_ble_eq_true rfl⟩ rfl rfl (Nat.le_of_ble_eq_true rfl) dX9_letter_10 (Nat.zero_le _) (Nat.zero_le _) ?_
        refine g_istore B dX9_letter_13 (Nat.le_of_ble_eq_true rfl) (s1_c (f1_k rfl (f1_k rfl (f1_k rfl (f1_1 rfl rfl f1_n))))) ?_
        refine g_aload_n B 1 dX9_letter_15 rfl rfl ?_
        replace h := bnP_s h
        obtain ⟨x7, h8, h⟩ := h
        refine g_getR B fl_RX9_20 (by decide) dX9_letter_16 h8 ?_
        replace h := bnP_s h
        obtain ⟨x9, h10, h⟩ := h
        refine g_getRg B fl_RX9_114 (by decide) dX9_letter_19 h10 ?_
        replace h := bnP_s h
        obtain ⟨x11, h12, h⟩ := h
        refine g_getRg B fl_RX9_202 (by decide) dX9_letter_22 h12 ?_
        refine g_iload B 0 dX9_letter_25 rfl ?_
        replace h := bnP_s h
        obtain ⟨x13, h14, h⟩ := h
        refine g_lald B dX9_letter_27 h14 ?_
        refine g_iload_n B 4 dX9_letter_28 rfl rfl ?_
        replace h := bnP_s h
        obtain ⟨x15, h16, h⟩ := h
        refine g_callSs0 (st := []) B (cX9_letterOfc h16) mi_X9_letterOf lk_RX9_220 ⟨Nat.le_of_ble_eq_true rfl, Nat.le_of_ble_eq_true rfl⟩ rfl rfl (Nat.le_of_ble_eq_true rfl) dX9_letter_29 (Nat.zero_le _) (Nat.zero_le _) ?_
        replace h := Option.some.inj h
        subst h
        exact g_iret B hE (Nat.zero_le _) (Nat.zero_le _) dX9_letter_32
set_option maxRecDepth 100000 in
set_option maxHeartbeats 4000000 in
theorem cX9_innerLetterc {l : Launch} {v0 : Option Nat} {v1 : Int32} {v2 : Int32} {v3 : Int32} {v4 : Int32} {σ : HpT} {o : Except Nat (Int32)} (h : fX9_innerLetter v0 v1 v2 v3 v4 σ = some o) : IsK σ v0 9 ∧ Ct l yX9_innerLetter cX9_innerLetter 6 (some .int) 7 111 [va_rf v0, .int v1, .int v2, .int v3, .int v4] σ (oI o) σ (xc o) (xs o) := by
  unfold fX9_innerLetter at h
  replace h := bnP_s h
  obtain ⟨u, hk, h⟩ := h
  replace hk := isK_s hk
  refine ⟨hk, ?_⟩
  refine ct_start mi_X9_innerLetter.1 rfl (al_le (al_1 (rf_cat _) (al_1 rfl (al_1 rfl (al_1 rfl (al_1 rfl al_n))))) (Nat.le_of_ble_eq_true rfl)) (ag_1 (rf_cat _) (ag_1 rfl (ag_1 rfl (ag_1 rfl (ag_1 rfl ag_n))))) (fun Δ Γ B hE hnm => ?_)
  refine g_aload_n B 0 dX9_innerLetter_0 rfl rfl ?_
  replace h := bnX_s h
  rcases h with ⟨e9, h2, e8⟩ | ⟨x1, h2, h⟩
  · subst e8
    exact g_callVx (st := []) B (cX9_requireBookc (o := .error e9) h2) (Nat.le_of_ble_eq_true rfl) rfl rfl mi_X9_requireBook lk_RX9_95 ⟨Nat.le_of_ble_eq_true rfl, Nat.le_of_ble_eq_true rfl⟩ rfl rfl (Nat.le_of_ble_eq_true rfl) dX9_innerLetter_1 (Nat.le_of_eq rfl) (Nat.le_of_eq rfl) hE
  · skip
    refine g_callVv0 (st := []) B (cX9_requireBookc (o := .ok x1) h2) (Nat.le_of_ble_eq_true rfl) rfl rfl mi_X9_requireBook lk_RX9_95 ⟨Nat.le_of_ble_eq_true rfl, Nat.le_of_ble_eq_true rfl⟩ rfl rfl (Nat.le_of_ble_eq_true rfl) dX9_innerLetter_1 (Nat.zero_le _) (Nat.zero_le _) ?_
    refine g_aload_n B 0 dX9_innerLetter_4 rfl rfl ?_
    refine g_iload_n B 1 dX9_innerLetter_5 rfl rfl ?_
    replace h := bnX_s h
    rcases h with ⟨e9, h4, e8⟩ | ⟨x3, h4, h⟩
    · subst e8
      exact g_callVx (st := []) B (cX9_requireActc (o := .error e9) h4) (Nat.le_of_ble_eq_true rfl) rfl rfl mi_X9_requireAct lk_RX9_153 ⟨Nat.le_of_ble_eq_true rfl, Nat.le_of_ble_eq_true rfl⟩ rfl rfl (Nat.le_of_ble_eq_true rfl) dX9_innerLetter_6 (Nat.le_of_eq rfl) (Nat.le_of_eq rfl) hE
    · skip
      refine g_callVs0 (st := []) B (cX9_requireActc (o := .ok x3) h4) (Nat.le_of_ble_eq_true rfl) rfl rfl mi_X9_requireAct lk_RX9_153 ⟨Nat.le_of_ble_eq_true rfl, Nat.le_of_ble_eq_true rfl⟩ rfl rfl (Nat.le_of_ble_eq_true rfl) dX9_innerLetter_6 (Nat.zero_le _) (Nat.zero_le _) ?_
      refine g_iload_n B 2 dX9_innerLetter_9 rfl rfl ?_
      replace h := bnX_s h
      rcases h with ⟨e9, h6, e8⟩ | ⟨x5, h6, h⟩
      · subst e8
        exact g_callSx (st := []) B (cX9_requireWordc (o := .error e9) h6) mi_X9_requireWord lk_RX9_188 ⟨Nat.le_of_ble_eq_true rfl, Nat.le_of_ble_eq_true rfl⟩ rfl rfl (Nat.le_of_ble_eq_true rfl) dX9_innerLetter_10 (Nat.le_of_eq rfl) (Nat.le_of_eq rfl) hE
      · skip
        refine g_callSs0 (st := []) B (cX9_requireWordc (o := .ok x5) h6) mi_X9_requireWord lk_RX9_188 ⟨Nat.le_of_ble_eq_true rfl, Nat.le_of_ble_eq_true rfl⟩ rfl rfl (Nat.le_of_ble_eq_true rfl) dX9_innerLetter_10 (Nat.zero_le _) (Nat.zero_le _) ?_
        refine g_istore B dX9_innerLetter_13 (Nat.le_of_ble_eq_true rfl) (s1_c (f1_k rfl (f1_k rfl (f1_k rfl (f1_k rfl (f1_1 rfl rfl f1_n)))))) ?_
        refine g_aload_n B 1 dX9_innerLetter_15 rfl rfl ?_
        replace h := bnP_s h
        obtain ⟨x7, h8, h⟩ := h
        refine g_getR B fl_RX9_20 (by decide) dX9_innerLetter_16 h8 ?_
        replace h := bnP_s h
        obtain ⟨x9, h10, h⟩ := h
        refine g_getRg B fl_RX9_114 (by decide) dX9_innerLetter_19 h10 ?_
        refine g_iload B 0 dX9_innerLetter_22 rfl ?_
        refine g_iload_n B 4 dX9_innerLetter_24 rfl rfl ?_
        replace h := bnP_s h
        obtain ⟨x11, h12, h⟩ := h
        refine g_callVs0 (st := []) B (cX8_insertOfc h12) (Nat.le_of_ble_eq_true rfl) rfl rfl mi_X8_insertOf lk_RX9_224 ⟨Nat.le_of_ble_eq_true rfl, Nat.le_of_ble_eq_true rfl⟩ rfl rfl (Nat.le_of_ble_eq_true rfl) dX9_innerLetter_25 (Nat.zero_le _) (Nat.zero_le _) ?_
        refine g_iload B 5 dX9_innerLetter_28 rfl ?_
        replace h := bnP_s h
        obtain ⟨x13, h14, h⟩ := h
        refine g_callSs0 (st := []) B (cX9_letterOfc h14) mi_X9_letterOf lk_RX9_220 ⟨Nat.le_of_ble_eq_true rfl, Nat.le_of_ble_eq_true rfl⟩ rfl rfl (Nat.le_of_ble_eq_true rfl) dX9_innerLetter_30 (Nat.zero_le _) (Nat.zero_le _) ?_
        replace h := Option.some.inj h
        subst h
        exact g_iret B hE (Nat.zero_le _) (Nat.zero_le _) dX9_innerLetter_33
set_option maxRecDepth 100000 in
set_option maxHeartbeats 4000000 in
theorem cX9_clausec {l : Launch} {v0 : Option Nat} {v1 : Int32} {v2 : Int32} {v3 : Int32} {σ : HpT} {o : Except Nat (Int32)} {σ' : HpT} {a b : Nat} (h : fX9_clause v0 v1 v2 v3 σ = some (o, σ', a, b)) : IsK σ v0 9 ∧ Ct l yX9_clause cX9_clause 6 (some .int) 7 111 [va_rf v0, .int v1, .int v2, .int v3] σ (oI o) σ' a b := by
  unfold fX9_clause at h
  replace h := bnP_s h
  obtain ⟨u, hk, h⟩ := h
  replace hk := isK_s hk
  refine ⟨hk, ?_⟩
  refine ct_start mi_X9_clause.1 rfl (al_le (al_1 (rf_cat _) (al_1 rfl (al_1 rfl (al_1 rfl al_n)))) (Nat.le_of_ble_eq_true rfl)) (ag_1 (rf_cat _) (ag_1 rfl (ag_1 rfl (ag_1 rfl ag_n)))) (fun Δ Γ B hE hnm => ?_)
  have hka : 0 + a = a := Nat.zero_add a
  have hkb : 0 + b = b := Nat.zero_add b
  have hla : a ≤ a := Nat.le_refl a
  have hlb : b ≤ b := Nat.le_refl b
  refine g_aload_n B 0 dX9_clause_0 rfl rfl ?_
  replace h := bnXA_s h
  rcases h with ⟨e9, h2, e8, e7, e6, e5⟩ | ⟨x1, h2, h⟩
  · subst e8; subst e7; subst e6; subst e5
    exact g_callVx (st := []) B (cX9_requireBookc (o := .error e9) h2) (Nat.le_of_ble_eq_true rfl) rfl rfl mi_X9_requireBook lk_RX9_95 ⟨Nat.le_of_ble_eq_true rfl, Nat.le_of_ble_eq_true rfl⟩ rfl rfl (Nat.le_of_ble_eq_true rfl) dX9_clause_1 (Nat.le_trans (Nat.le_of_eq hka) hla) (Nat.le_trans (Nat.le_of_eq hkb) hlb) hE
  · skip
    refine g_callVv0 (st := []) B (cX9_requireBookc (o := .ok x1) h2) (Nat.le_of_ble_eq_true rfl) rfl rfl mi_X9_requireBook lk_RX9_95 ⟨Nat.le_of_ble_eq_true rfl, Nat.le_of_ble_eq_true rfl⟩ rfl rfl (Nat.le_of_ble_eq_true rfl) dX9_clause_1 (Nat.le_trans (bm hka) hla) (Nat.le_trans (bm hkb) hlb) ?_
    refine g_aload_n B 0 dX9_clause_4 rfl rfl ?_
    refine g_iload_n B 1 dX9_clause_5 rfl rfl ?_
    replace h := bnXA_s h
    rcases h with ⟨e9, h4, e8, e7, e6, e5⟩ | ⟨x3, h4, h⟩
    · subst e8; subst e7; subst e6; subst e5
      exact g_callVx (st := []) B (cX9_requireActc (o := .error e9) h4) (Nat.le_of_ble_eq_true rfl) rfl rfl mi_X9_requireAct lk_RX9_153 ⟨Nat.le_of_ble_eq_true rfl, Nat.le_of_ble_eq_true rfl⟩ rfl rfl (Nat.le_of_ble_eq_true rfl) dX9_clause_6 (Nat.le_trans (Nat.le_of_eq hka) hla) (Nat.le_trans (Nat.le_of_eq hkb) hlb) hE
    · skip
      refine g_callVs0 (st := []) B (cX9_requireActc (o := .ok x3) h4) (Nat.le_of_ble_eq_true rfl) rfl rfl mi_X9_requireAct lk_RX9_153 ⟨Nat.le_of_ble_eq_true rfl, Nat.le_of_ble_eq_true rfl⟩ rfl rfl (Nat.le_of_ble_eq_true rfl) dX9_clause_6 (Nat.le_trans (bm hka) hla) (Nat.le_trans (bm hkb) hlb) ?_
      refine g_astore B dX9_clause_9 (Nat.le_of_ble_eq_true rfl) (s1_c (f1_k rfl (f1_k rfl (f1_k rfl (f1_1 rfl rfl f1_n))))) ?_
      refine g_aload_n B 1 dX9_clause_11 rfl rfl ?_
      replace h := bnP_s h
      obtain ⟨x5, h6, h⟩ := h
      refine g_getR B fl_RX9_20 (by decide) dX9_clause_12 h6 ?_
      replace h := bnP_s h
      obtain ⟨x7, h8, h⟩ := h
      refine g_getRg B fl_RX9_228 (by decide) dX9_clause_15 h8 ?_
      refine g_astore B dX9_clause_18 (Nat.le_of_ble_eq_true rfl) (s1_c (f1_1 rfl (rf_cat _) (f1_k rfl (f1_k rfl (f1_k rfl (f1_k rfl f1_n)))))) ?_
      refine g_aload B 0 dX9_clause_20 rfl ?_
      refine g_aload_n B 2 dX9_clause_22 rfl rfl ?_
      replace h := bnP_s h
      obtain ⟨x9, h10, h⟩ := h
      refine g_getR B fl_RX9_20 (by decide) dX9_clause_23 h10 ?_
      replace h := bnP_s h
      obtain ⟨x11, h12, h⟩ := h
      refine g_getRg B fl_RX9_114 (by decide) dX9_clause_26 h12 ?_
      refine g_aload B 1 dX9_clause_29 rfl ?_
      refine g_iload_n B 4 dX9_clause_31 rfl rfl ?_
      replace h := bnS_s h
      obtain ⟨x13, s15, h14, h⟩ := h
      refine g_callVs0 (st := []) B (cX2_seekc h14) (Nat.le_of_ble_eq_true rfl) rfl rfl mi_X2_seek lk_RX9_232 ⟨Nat.le_of_ble_eq_true rfl, Nat.le_of_ble_eq_true rfl⟩ rfl rfl (Nat.le_of_ble_eq_true rfl) dX9_clause_32 (Nat.le_trans (bm hka) hla) (Nat.le_trans (bm hkb) hlb) ?_
      refine g_if_ne B 48 dX9_clause_35 (by decide) (fun hc => ?_) (fun hc => ?_)
      · replace h := ifp (bI1 hc) h
        refine g_iload_n B 5 dX9_clause_48 rfl rfl ?_
        refine g_iconst (v := 5) B dX9_clause_49 (by decide) ?_
        replace h := bnXA_s h
        rcases h with ⟨e9, h17, e8, e7, e6, e5⟩ | ⟨x16, h17, h⟩
        · subst e8; subst e7; subst e6; subst e5
          exact g_callSx (st := []) B (cX9_requireUpToc (o := .error e9) h17) mi_X9_requireUpTo lk_RX9_98 ⟨Nat.le_of_ble_eq_true rfl, Nat.le_of_ble_eq_true rfl⟩ rfl rfl (Nat.le_of_ble_eq_true rfl) dX9_clause_50 (Nat.le_trans (Nat.le_of_eq hka) hla) (Nat.le_trans (Nat.le_of_eq hkb) hlb) hE
        · skip
          refine g_callSv0 (st := []) B (cX9_requireUpToc (o := .ok x16) h17) mi_X9_requireUpTo lk_RX9_98 ⟨Nat.le_of_ble_eq_true rfl, Nat.le_of_ble_eq_true rfl⟩ rfl rfl (Nat.le_of_ble_eq_true rfl) dX9_clause_50 (Nat.le_trans (bm hka) hla) (Nat.le_trans (bm hkb) hlb) ?_
          refine g_iload_n B 5 dX9_clause_53 rfl rfl ?_
          by_cases n0 : v3 = 0
          · replace h := ifp n0 h
            rw [n0]
            refine g_tableIn B 88 dX9_clause_54 (by decide) (by decide) rfl (by decide) ?_
            refine g_aload B 0 dX9_clause_88 rfl ?_
            replace h := bnP_s h
            obtain ⟨x20, h21, h⟩ := h
            refine g_getI B fl_RX9_243 (by decide) dX9_clause_90 h21 ?_
            refine g_aload B 1 dX9_clause_93 rfl ?_
            replace h := bnP_s h
            obtain ⟨x22, h23, h⟩ := h
            refine g_getI B fl_RX9_170 (by decide) dX9_clause_95 h23 ?_
            refine g_isub B dX9_clause_98 ?_
            obtain ⟨w1, w2, w3, w4⟩ := inA h
            clear h
            subst w1
            subst w2
            subst w3
            subst w4
            exact g_iret B hE (Nat.le_trans (Nat.le_of_eq hka) hla) (Nat.le_trans (Nat.le_of_eq hkb) hlb) dX9_clause_99
          replace h := ifn n0 h
          by_cases n1 : v3 = 1
          · replace h := ifp n1 h
            rw [n1]
            refine g_tableIn B 100 dX9_clause_54 (by decide) (by decide) rfl (by decide) ?_
            refine g_aload B 0 dX9_clause_100 rfl ?_
            replace h := bnP_s h
            obtain ⟨x24, h25, h⟩ := h
            refine g_getI B fl_RX9_243 (by decide) dX9_clause_102 h25 ?_
            refine g_aload B 0 dX9_clause_105 rfl ?_
            replace h := bnP_s h
            obtain ⟨x26, h27, h⟩ := h
            refine g_getI B fl_RX9_244 (by decide) dX9_clause_107 h27 ?_
            refine g_iadd B dX9_clause_110 ?_
            refine g_iconst (v := 1) B dX9_clause_111 (by decide) ?_
            refine g_isub B dX9_clause_112 ?_
            refine g_aload B 1 dX9_clause_113 rfl ?_
            replace h := bnP_s h
            obtain ⟨x28, h29, h⟩ := h
            refine g_getI B fl_RX9_170 (by decide) dX9_clause_115 h29 ?_
            refine g_isub B dX9_clause_118 ?_
            obtain ⟨w1, w2, w3, w4⟩ := inA h
            clear h
            subst w1
            subst w2
            subst w3
            subst w4
            exact g_iret B hE (Nat.le_trans (Nat.le_of_eq hka) hla) (Nat.le_trans (Nat.le_of_eq hkb) hlb) dX9_clause_119
          replace h := ifn n1 h
          by_cases n2 : v3 = 2
          · replace h := ifp n2 h
            rw [n2]
            refine g_tableIn B 120 dX9_clause_54 (by decide) (by decide) rfl (by decide) ?_
            refine g_aload B 0 dX9_clause_120 rfl ?_
            replace h := bnP_s h
            obtain ⟨x30, h31, h⟩ := h
            refine g_getI B fl_RX9_244 (by decide) dX9_clause_122 h31 ?_
            obtain ⟨w1, w2, w3, w4⟩ := inA h
            clear h
            subst w1
            subst w2
            subst w3
            subst w4
            exact g_iret B hE (Nat.le_trans (Nat.le_of_eq hka) hla) (Nat.le_trans (Nat.le_of_eq hkb) hlb) dX9_clause_125
          replace h := ifn n2 h
          by_cases n3 : v3 = 3
          · replace h := ifp n3 h
            rw [n3]
            refine g_tableIn B 126 dX9_clause_54 (by decide) (by decide) rfl (by decide) ?_
            refine g_aload_n B 2 dX9_clause_126 rfl rfl ?_
            replace h := bnP_s h
            obtain ⟨x32, h33, h⟩ := h
            refine g_getR B fl_RX9_20 (by decide) dX9_clause_127 h33 ?_
            replace h := bnP_s h
            obtain ⟨x34, h35, h⟩ := h
            refine g_getRg B fl_RX9_114 (by decide) dX9_clause_130 h35 ?_
            refine g_aload B 0 dX9_clause_133 rfl ?_
            replace h := bnP_s h
            obtain ⟨x36, h37, h⟩ := h
            refine g_getI B fl_RX9_243 (by decide) dX9_clause_135 h37 ?_
            refine g_aload B 0 dX9_clause_138 rfl ?_
            replace h := bnP_s h
            obtain ⟨x38, h39, h⟩ := h
            refine g_getI B fl_RX9_244 (by decide) dX9_clause_140 h39 ?_
            replace h := bnP_s h
            obtain ⟨x40, h41, h⟩ := h
            refine g_callVs0 (st := []) B (cX8_unstruckFromc h41) (Nat.le_of_ble_eq_true rfl) rfl rfl mi_X8_unstruckFrom lk_RX9_245 ⟨Nat.le_of_ble_eq_true rfl, Nat.le_of_ble_eq_true rfl⟩ rfl rfl (Nat.le_of_ble_eq_true rfl) dX9_clause_143 (Nat.le_trans (bm hka) hla) (Nat.le_trans (bm hkb) hlb) ?_
            obtain ⟨w1, w2, w3, w4⟩ := inA h
            clear h
            subst w1
            subst w2
            subst w3
            subst w4
            exact g_iret B hE (Nat.le_trans (Nat.le_of_eq hka) hla) (Nat.le_trans (Nat.le_of_eq hkb) hlb) dX9_clause_146
          replace h := ifn n3 h
          by_cases n4 : v3 = 4
          · replace h := ifp n4 h
            rw [n4]
            refine g_tableIn B 147 dX9_clause_54 (by decide) (by decide) rfl (by decide) ?_
            refine g_aload B 0 dX9_clause_147 rfl ?_
            replace h := bnP_s h
            obtain ⟨x42, h43, h⟩ := h
            refine g_getI B fl_RX9_248 (by decide) dX9_clause_149 h43 ?_
            obtain ⟨w1, w2, w3, w4⟩ := inA h
            clear h
            subst w1
            subst w2
            subst w3
            subst w4
            exact g_iret B hE (Nat.le_trans (Nat.le_of_eq hka) hla) (Nat.le_trans (Nat.le_of_eq hkb) hlb) dX9_clause_152
          replace h := ifn n4 h
          have mn0 := tne n0 (k := 0) (by decide)
          have mn1 := tne n1 (k := 1) (by decide)
          have mn2 := tne n2 (k := 2) (by decide)
          have mn3 := tne n3 (k := 3) (by decide)
          have mn4 := tne n4 (k := 4) (by decide)
          refine g_tableOut B 153 dX9_clause_54 (by omega) (by decide) ?_
          refine g_aload B 0 dX9_clause_153 rfl ?_
          replace h := bnP_s h
          obtain ⟨x18, h19, h⟩ := h
          refine g_getI B fl_RX9_251 (by decide) dX9_clause_155 h19 ?_
          obtain ⟨w1, w2, w3, w4⟩ := inA h
          clear h
          subst w1
          subst w2
          subst w3
          subst w4
          exact g_iret B hE (Nat.le_trans (Nat.le_of_eq hka) hla) (Nat.le_trans (Nat.le_of_eq hkb) hlb) dX9_clause_158
      · replace h := ifn (bI0 hc) h
        obtain ⟨w1, w2, w3, w4⟩ := inA h
        clear h
        subst w1
        subst w2
        subst w3
        subst w4
        exact g_throw B tw_RX9_238_242 (j := 21) rfl hE (by decide) (Nat.le_of_ble_eq_true rfl) dX9_clause_38 dX9_clause_41 dX9_clause_42 dX9_clause_44 dX9_clause_47 (Nat.le_trans (Nat.le_of_eq hka) hla) (Nat.le_trans (Nat.le_of_eq hkb) hlb)
set_option maxRecDepth 100000 in
set_option maxHeartbeats 4000000 in
theorem cX9_requireLeafc {l : Launch} {v0 : Option Nat} {v1 : Int32} {σ : HpT} {o : Except Nat (Unit)} (h : fX9_requireLeaf v0 v1 σ = some o) : IsK σ v0 9 ∧ Ct l yX9_requireLeaf cX9_requireLeaf 2 none 6 90 [va_rf v0, .int v1] σ (oU o) σ (xc o) (xs o) := by
  unfold fX9_requireLeaf at h
  replace h := bnP_s h
  obtain ⟨u, hk, h⟩ := h
  replace hk := isK_s hk
  refine ⟨hk, ?_⟩
  refine ct_start mi_X9_requireLeaf.1 rfl (al_le (al_1 (rf_cat _) (al_1 rfl al_n)) (Nat.le_of_ble_eq_true rfl)) (ag_1 (rf_cat _) (ag_1 rfl ag_n)) (fun Δ Γ B hE hnm => ?_)
  refine g_aload_n B 0 dX9_requireLeaf_0 rfl rfl ?_
  replace h := bnP_s h
  obtain ⟨x1, h2, h⟩ := h
  refine g_getR B fl_RX9_20 (by decide) dX9_requireLeaf_1 h2 ?_
  replace h := bnP_s h
  obtain ⟨x3, h4, h⟩ := h
  refine g_getRg B fl_RX9_108 (by decide) dX9_requireLeaf_4 h4 ?_
  refine g_iload_n B 1 dX9_requireLeaf_7 rfl rfl ?_
  replace h := bnP_s h
  obtain ⟨x5, h6, h⟩ := h
  refine g_callVs0 (st := []) B (cX4_isTherec h6) (Nat.le_of_ble_eq_true rfl) rfl rfl mi_X4_isThere lk_RX9_534 ⟨Nat.le_of_ble_eq_true rfl, Nat.le_of_ble_eq_true rfl⟩ rfl rfl (Nat.le_of_ble_eq_true rfl) dX9_requireLeaf_8 (Nat.zero_le _) (Nat.zero_le _) ?_
  refine g_if_ne B 25 dX9_requireLeaf_11 (by decide) (fun hc => ?_) (fun hc => ?_)
  · replace h := ifp (bI1 hc) h
    replace h := Option.some.inj h
    subst h
    exact g_vret B hE (Nat.zero_le _) (Nat.zero_le _) dX9_requireLeaf_25
  · replace h := ifn (bI0 hc) h
    replace h := Option.some.inj h
    subst h
    exact g_throwW B tw_RX9_238_242 (j := 22) rfl hE (by decide) (Nat.le_of_ble_eq_true rfl) dX9_requireLeaf_14 dX9_requireLeaf_17 dX9_requireLeaf_18 dX9_requireLeaf_21 dX9_requireLeaf_24 (Nat.le_refl 1) (Nat.le_refl 6)
set_option maxRecDepth 100000 in
set_option maxHeartbeats 4000000 in
theorem cX9_leafc {l : Launch} {v0 : Option Nat} {v1 : Int32} {v2 : Int32} {σ : HpT} {o : Except Nat (Int32)} (h : fX9_leaf v0 v1 v2 σ = some o) : IsK σ v0 9 ∧ Ct l yX9_leaf cX9_leaf 3 (some .int) 7 111 [va_rf v0, .int v1, .int v2] σ (oI o) σ (xc o) (xs o) := by
  unfold fX9_leaf at h
  replace h := bnP_s h
  obtain ⟨u, hk, h⟩ := h
  replace hk := isK_s hk
  refine ⟨hk, ?_⟩
  refine ct_start mi_X9_leaf.1 rfl (al_le (al_1 (rf_cat _) (al_1 rfl (al_1 rfl al_n))) (Nat.le_of_ble_eq_true rfl)) (ag_1 (rf_cat _) (ag_1 rfl (ag_1 rfl ag_n))) (fun Δ Γ B hE hnm => ?_)
  refine g_aload_n B 0 dX9_leaf_0 rfl rfl ?_
  replace h := bnX_s h
  rcases h with ⟨e9, h2, e8⟩ | ⟨x1, h2, h⟩
  · subst e8
    exact g_callVx (st := []) B (cX9_requireBookc (o := .error e9) h2) (Nat.le_of_ble_eq_true rfl) rfl rfl mi_X9_requireBook lk_RX9_95 ⟨Nat.le_of_ble_eq_true rfl, Nat.le_of_ble_eq_true rfl⟩ rfl rfl (Nat.le_of_ble_eq_true rfl) dX9_leaf_1 (Nat.le_of_eq rfl) (Nat.le_of_eq rfl) hE
  · skip
    refine g_callVv0 (st := []) B (cX9_requireBookc (o := .ok x1) h2) (Nat.le_of_ble_eq_true rfl) rfl rfl mi_X9_requireBook lk_RX9_95 ⟨Nat.le_of_ble_eq_true rfl, Nat.le_of_ble_eq_true rfl⟩ rfl rfl (Nat.le_of_ble_eq_true rfl) dX9_leaf_1 (Nat.zero_le _) (Nat.zero_le _) ?_
    refine g_aload_n B 0 dX9_leaf_4 rfl rfl ?_
    refine g_iload_n B 1 dX9_leaf_5 rfl rfl ?_
    replace h := bnX_s h
    rcases h with ⟨e9, h4, e8⟩ | ⟨x3, h4, h⟩
    · subst e8
      exact g_callVx (st := []) B (cX9_requireLeafc (o := .error e9) h4) (Nat.le_of_ble_eq_true rfl) rfl rfl mi_X9_requireLeaf lk_RX9_254 ⟨Nat.le_of_ble_eq_true rfl, Nat.le_of_ble_eq_true rfl⟩ rfl rfl (Nat.le_of_ble_eq_true rfl) dX9_leaf_6 (Nat.le_of_eq rfl) (Nat.le_of_eq rfl) hE
    · skip
      refine g_callVv0 (st := []) B (cX9_requireLeafc (o := .ok x3) h4) (Nat.le_of_ble_eq_true rfl) rfl rfl mi_X9_requireLeaf lk_RX9_254 ⟨Nat.le_of_ble_eq_true rfl, Nat.le_of_ble_eq_true rfl⟩ rfl rfl (Nat.le_of_ble_eq_true rfl) dX9_leaf_6 (Nat.zero_le _) (Nat.zero_le _) ?_
      refine g_iload_n B 2 dX9_leaf_9 rfl rfl ?_
      refine g_iconst (v := 5) B dX9_leaf_10 (by decide) ?_
      replace h := bnX_s h
      rcases h with ⟨e9, h6, e8⟩ | ⟨x5, h6, h⟩
      · subst e8
        exact g_callSx (st := []) B (cX9_requireUpToc (o := .error e9) h6) mi_X9_requireUpTo lk_RX9_98 ⟨Nat.le_of_ble_eq_true rfl, Nat.le_of_ble_eq_true rfl⟩ rfl rfl (Nat.le_of_ble_eq_true rfl) dX9_leaf_11 (Nat.le_of_eq rfl) (Nat.le_of_eq rfl) hE
      · skip
        refine g_callSv0 (st := []) B (cX9_requireUpToc (o := .ok x5) h6) mi_X9_requireUpTo lk_RX9_98 ⟨Nat.le_of_ble_eq_true rfl, Nat.le_of_ble_eq_true rfl⟩ rfl rfl (Nat.le_of_ble_eq_true rfl) dX9_leaf_11 (Nat.zero_le _) (Nat.zero_le _) ?_
        refine g_iload_n B 2 dX9_leaf_14 rfl rfl ?_
        by_cases n0 : v2 = 0
        · replace h := ifp n0 h
          rw [n0]
          refine g_tableIn B 48 dX9_leaf_15 (by decide) (by decide) rfl (by decide) ?_
          refine g_aload_n B 0 dX9_leaf_48 rfl rfl ?_
          replace h := bnP_s h
          obtain ⟨x11, h12, h⟩ := h
          refine g_getR B fl_RX9_20 (by decide) dX9_leaf_49 h12 ?_
          replace h := bnP_s h
          obtain ⟨x13, h14, h⟩ := h
          refine g_getRg B fl_RX9_108 (by decide) dX9_leaf_52 h14 ?_
          refine g_iload_n B 1 dX9_leaf_55 rfl rfl ?_
          replace h := bnP_s h
          obtain ⟨x15, h16, h⟩ := h
          refine g_callVs0 (st := []) B (cX4_stateOfc h16) (Nat.le_of_ble_eq_true rfl) rfl rfl mi_X4_stateOf lk_RX9_257 ⟨Nat.le_of_ble_eq_true rfl, Nat.le_of_ble_eq_true rfl⟩ rfl rfl (Nat.le_of_ble_eq_true rfl) dX9_leaf_56 (Nat.zero_le _) (Nat.zero_le _) ?_
          replace h := Option.some.inj h
          subst h
          exact g_iret B hE (Nat.zero_le _) (Nat.zero_le _) dX9_leaf_59
        replace h := ifn n0 h
        by_cases n1 : v2 = 1
        · replace h := ifp n1 h
          rw [n1]
          refine g_tableIn B 60 dX9_leaf_15 (by decide) (by decide) rfl (by decide) ?_
          refine g_aload_n B 0 dX9_leaf_60 rfl rfl ?_
          replace h := bnP_s h
          obtain ⟨x17, h18, h⟩ := h
          refine g_getR B fl_RX9_20 (by decide) dX9_leaf_61 h18 ?_
          refine g_iload_n B 1 dX9_leaf_64 rfl rfl ?_
          replace h := bnP_s h
          obtain ⟨x19, h20, h⟩ := h
          refine g_callVs0 (st := []) B (cX1_wordsOnc h20) (Nat.le_of_ble_eq_true rfl) rfl rfl mi_X1_wordsOn lk_RX9_260 ⟨Nat.le_of_ble_eq_true rfl, Nat.le_of_ble_eq_true rfl⟩ rfl rfl (Nat.le_of_ble_eq_true rfl) dX9_leaf_65 (Nat.zero_le _) (Nat.zero_le _) ?_
          replace h := Option.some.inj h
          subst h
          exact g_iret B hE (Nat.zero_le _) (Nat.zero_le _) dX9_leaf_68
        replace h := ifn n1 h
        by_cases n2 : v2 = 2
        · replace h := ifp n2 h
          rw [n2]
          refine g_tableIn B 69 dX9_leaf_15 (by decide) (by decide) rfl (by decide) ?_
          refine g_aload_n B 0 dX9_leaf_69 rfl rfl ?_
          replace h := bnP_s h
          obtain ⟨x21, h22, h⟩ := h
          refine g_getR B fl_RX9_20 (by decide) dX9_leaf_70 h22 ?_
          refine g_iload_n B 1 dX9_leaf_73 rfl rfl ?_
          replace h := bnP_s h
          obtain ⟨x23, h24, h⟩ := h
          refine g_callVs0 (st := []) B (cX1_actsOnc h24) (Nat.le_of_ble_eq_true rfl) rfl rfl mi_X1_actsOn lk_RX9_263 ⟨Nat.le_of_ble_eq_true rfl, Nat.le_of_ble_eq_true rfl⟩ rfl rfl (Nat.le_of_ble_eq_true rfl) dX9_leaf_74 (Nat.zero_le _) (Nat.zero_le _) ?_
          replace h := Option.some.inj h
          subst h
          exact g_iret B hE (Nat.zero_le _) (Nat.zero_le _) dX9_leaf_77
        replace h := ifn n2 h
        by_cases n3 : v2 = 3
        · replace h := ifp n3 h
          rw [n3]
          refine g_tableIn B 78 dX9_leaf_15 (by decide) (by decide) rfl (by decide) ?_
          refine g_aload_n B 0 dX9_leaf_78 rfl rfl ?_
          replace h := bnP_s h
          obtain ⟨x25, h26, h⟩ := h
          refine g_getR B fl_RX9_20 (by decide) dX9_leaf_79 h26 ?_
          replace h := bnP_s h
          obtain ⟨x27, h28, h⟩ := h
          refine g_getRg B fl_RX9_108 (by decide) dX9_leaf_82 h28 ?_
          refine g_iload_n B 1 dX9_leaf_85 rfl rfl ?_
          replace h := bnP_s h
          obtain ⟨x29, h30, h⟩ := h
          refine g_callVs0 (st := []) B (cX4_mateOfc h30) (Nat.le_of_ble_eq_true rfl) rfl rfl mi_X4_mateOf lk_RX9_266 ⟨Nat.le_of_ble_eq_true rfl, Nat.le_of_ble_eq_true rfl⟩ rfl rfl (Nat.le_of_ble_eq_true rfl) dX9_leaf_86 (Nat.zero_le _) (Nat.zero_le _) ?_
          replace h := Option.some.inj h
          subst h
          exact g_iret B hE (Nat.zero_le _) (Nat.zero_le _) dX9_leaf_89
        replace h := ifn n3 h
        by_cases n4 : v2 = 4
        · replace h := ifp n4 h
          rw [n4]
          refine g_tableIn B 90 dX9_leaf_15 (by decide) (by decide) rfl (by decide) ?_
          refine g_aload_n B 0 dX9_leaf_90 rfl rfl ?_
          replace h := bnP_s h
          obtain ⟨x31, h32, h⟩ := h
          refine g_getR B fl_RX9_20 (by decide) dX9_leaf_91 h32 ?_
          replace h := bnP_s h
          obtain ⟨x33, h34, h⟩ := h
          refine g_getRg B fl_RX9_108 (by decide) dX9_leaf_94 h34 ?_
          refine g_iload_n B 1 dX9_leaf_97 rfl rfl ?_
          replace h := bnP_s h
          obtain ⟨x35, h36, h⟩ := h
          refine g_callVs0 (st := []) B (cX4_gatheringOfc h36) (Nat.le_of_ble_eq_true rfl) rfl rfl mi_X4_gatheringOf lk_RX9_269 ⟨Nat.le_of_ble_eq_true rfl, Nat.le_of_ble_eq_true rfl⟩ rfl rfl (Nat.le_of_ble_eq_true rfl) dX9_leaf_98 (Nat.zero_le _) (Nat.zero_le _) ?_
          replace h := Option.some.inj h
          subst h
          exact g_iret B hE (Nat.zero_le _) (Nat.zero_le _) dX9_leaf_101
        replace h := ifn n4 h
        have mn0 := tne n0 (k := 0) (by decide)
        have mn1 := tne n1 (k := 1) (by decide)
        have mn2 := tne n2 (k := 2) (by decide)
        have mn3 := tne n3 (k := 3) (by decide)
        have mn4 := tne n4 (k := 4) (by decide)
        refine g_tableOut B 102 dX9_leaf_15 (by omega) (by decide) ?_
        refine g_aload_n B 0 dX9_leaf_102 rfl rfl ?_
        replace h := bnP_s h
        obtain ⟨x7, h8, h⟩ := h
        refine g_getR B fl_RX9_20 (by decide) dX9_leaf_103 h8 ?_
        refine g_iload_n B 1 dX9_leaf_106 rfl rfl ?_
        replace h := bnP_s h
        obtain ⟨x9, h10, h⟩ := h
        refine g_callVs0 (st := []) B (cX1_firstActOnc h10) (Nat.le_of_ble_eq_true rfl) rfl rfl mi_X1_firstActOn lk_RX9_272 ⟨Nat.le_of_ble_eq_true rfl, Nat.le_of_ble_eq_true rfl⟩ rfl rfl (Nat.le_of_ble_eq_true rfl) dX9_leaf_107 (Nat.zero_le _) (Nat.zero_le _) ?_
        replace h := Option.some.inj h
        subst h
        exact g_iret B hE (Nat.zero_le _) (Nat.zero_le _) dX9_leaf_110
set_option maxRecDepth 100000 in
set_option maxHeartbeats 4000000 in
theorem cX9_requireCopyc {l : Launch} {v0 : Option Nat} {v1 : Int32} {σ : HpT} {o : Except Nat (Option Nat)} (h : fX9_requireCopy v0 v1 σ = some o) : IsK σ v0 9 ∧ Ct l yX9_requireCopy cX9_requireCopy 2 (some (.object "NotaryBook$Copy")) 6 90 [va_rf v0, .int v1] σ (oA o) σ (xc o) (xs o) := by
  unfold fX9_requireCopy at h
  replace h := bnP_s h
  obtain ⟨u, hk, h⟩ := h
  replace hk := isK_s hk
  refine ⟨hk, ?_⟩
  refine ct_start mi_X9_requireCopy.1 rfl (al_le (al_1 (rf_cat _) (al_1 rfl al_n)) (Nat.le_of_ble_eq_true rfl)) (ag_1 (rf_cat _) (ag_1 rfl ag_n)) (fun Δ Γ B hE hnm => ?_)
  refine g_iload_n B 1 dX9_requireCopy_0 rfl rfl ?_
  refine g_if_lt B 15 dX9_requireCopy_1 (by decide) (fun hc => ?_) (fun hc => ?_)
  · replace h := ifp hc h
    replace h := Option.some.inj h
    subst h
    exact g_throwW B tw_RX9_238_242 (j := 23) rfl hE (by decide) (Nat.le_of_ble_eq_true rfl) dX9_requireCopy_15 dX9_requireCopy_18 dX9_requireCopy_19 dX9_requireCopy_22 dX9_requireCopy_25 (Nat.le_refl 1) (Nat.le_refl 6)
  · replace h := ifn hc h
    refine g_iload_n B 1 dX9_requireCopy_4 rfl rfl ?_
    refine g_aload_n B 0 dX9_requireCopy_5 rfl rfl ?_
    replace h := bnP_s h
    obtain ⟨x1, h2, h⟩ := h
    refine g_getR B fl_RX9_20 (by decide) dX9_requireCopy_6 h2 ?_
    replace h := bnP_s h
    obtain ⟨x3, h4, h⟩ := h
    refine g_getI B fl_RX9_128 (by decide) dX9_requireCopy_9 h4 ?_
    refine g_icmp_lt B 26 dX9_requireCopy_12 (by decide) (fun hc => ?_) (fun hc => ?_)
    · replace h := ifp hc h
      refine g_aload_n B 0 dX9_requireCopy_26 rfl rfl ?_
      replace h := bnP_s h
      obtain ⟨x5, h6, h⟩ := h
      refine g_getR B fl_RX9_20 (by decide) dX9_requireCopy_27 h6 ?_
      replace h := bnP_s h
      obtain ⟨x7, h8, h⟩ := h
      refine g_getRg B fl_RX9_530 (by decide) dX9_requireCopy_30 h8 ?_
      refine g_iload_n B 1 dX9_requireCopy_33 rfl rfl ?_
      replace h := bnP_s h
      obtain ⟨x9, h10, h⟩ := h
      refine g_ralds B (κ := 26) (by decide) rfl dX9_requireCopy_34 h10 ?_
      replace h := Option.some.inj h
      subst h
      exact g_aret B hE (Or.inl ⟨_, rfl⟩) (Nat.zero_le _) (Nat.zero_le _) dX9_requireCopy_35
    · replace h := ifn hc h
      replace h := Option.some.inj h
      subst h
      exact g_throwW B tw_RX9_238_242 (j := 23) rfl hE (by decide) (Nat.le_of_ble_eq_true rfl) dX9_requireCopy_15 dX9_requireCopy_18 dX9_requireCopy_19 dX9_requireCopy_22 dX9_requireCopy_25 (Nat.le_refl 1) (Nat.le_refl 6)
set_option maxRecDepth 100000 in
set_option maxHeartbeats 4000000 in
theorem cX9_copyc {l : Launch} {v0 : Option Nat} {v1 : Int32} {v2 : Int32} {σ : HpT} {o : Except Nat (Int32)} (h : fX9_copy v0 v1 v2 σ = some o) : IsK σ v0 9 ∧ Ct l yX9_copy cX9_copy 4 (some .int) 7 111 [va_rf v0, .int v1, .int v2] σ (oI o) σ (xc o) (xs o) := by
  unfold fX9_copy at h
  replace h := bnP_s h
  obtain ⟨u, hk, h⟩ := h
  replace hk := isK_s hk
  refine ⟨hk, ?_⟩
  refine ct_start mi_X9_copy.1 rfl (al_le (al_1 (rf_cat _) (al_1 rfl (al_1 rfl al_n))) (Nat.le_of_ble_eq_true rfl)) (ag_1 (rf_cat _) (ag_1 rfl (ag_1 rfl ag_n))) (fun Δ Γ B hE hnm => ?_)
  refine g_aload_n B 0 dX9_copy_0 rfl rfl ?_
  replace h := bnX_s h
  rcases h with ⟨e9, h2, e8⟩ | ⟨x1, h2, h⟩
  · subst e8
    exact g_callVx (st := []) B (cX9_requireBookc (o := .error e9) h2) (Nat.le_of_ble_eq_true rfl) rfl rfl mi_X9_requireBook lk_RX9_95 ⟨Nat.le_of_ble_eq_true rfl, Nat.le_of_ble_eq_true rfl⟩ rfl rfl (Nat.le_of_ble_eq_true rfl) dX9_copy_1 (Nat.le_of_eq rfl) (Nat.le_of_eq rfl) hE
  · skip
    refine g_callVv0 (st := []) B (cX9_requireBookc (o := .ok x1) h2) (Nat.le_of_ble_eq_true rfl) rfl rfl mi_X9_requireBook lk_RX9_95 ⟨Nat.le_of_ble_eq_true rfl, Nat.le_of_ble_eq_true rfl⟩ rfl rfl (Nat.le_of_ble_eq_true rfl) dX9_copy_1 (Nat.zero_le _) (Nat.zero_le _) ?_
    refine g_aload_n B 0 dX9_copy_4 rfl rfl ?_
    refine g_iload_n B 1 dX9_copy_5 rfl rfl ?_
    replace h := bnX_s h
    rcases h with ⟨e9, h4, e8⟩ | ⟨x3, h4, h⟩
    · subst e8
      exact g_callVx (st := []) B (cX9_requireCopyc (o := .error e9) h4) (Nat.le_of_ble_eq_true rfl) rfl rfl mi_X9_requireCopy lk_RX9_275 ⟨Nat.le_of_ble_eq_true rfl, Nat.le_of_ble_eq_true rfl⟩ rfl rfl (Nat.le_of_ble_eq_true rfl) dX9_copy_6 (Nat.le_of_eq rfl) (Nat.le_of_eq rfl) hE
    · skip
      refine g_callVs0 (st := []) B (cX9_requireCopyc (o := .ok x3) h4) (Nat.le_of_ble_eq_true rfl) rfl rfl mi_X9_requireCopy lk_RX9_275 ⟨Nat.le_of_ble_eq_true rfl, Nat.le_of_ble_eq_true rfl⟩ rfl rfl (Nat.le_of_ble_eq_true rfl) dX9_copy_6 (Nat.zero_le _) (Nat.zero_le _) ?_
      refine g_astore_n B dX9_copy_9 rfl (Nat.le_of_ble_eq_true rfl) (s1_c (f1_k rfl (f1_k rfl (f1_1 rfl rfl f1_n)))) ?_
      refine g_iload_n B 3 dX9_copy_10 rfl rfl ?_
      refine g_iconst (v := 4) B dX9_copy_11 (by decide) ?_
      replace h := bnX_s h
      rcases h with ⟨e9, h6, e8⟩ | ⟨x5, h6, h⟩
      · subst e8
        exact g_callSx (st := []) B (cX9_requireUpToc (o := .error e9) h6) mi_X9_requireUpTo lk_RX9_98 ⟨Nat.le_of_ble_eq_true rfl, Nat.le_of_ble_eq_true rfl⟩ rfl rfl (Nat.le_of_ble_eq_true rfl) dX9_copy_12 (Nat.le_of_eq rfl) (Nat.le_of_eq rfl) hE
      · skip
        refine g_callSv0 (st := []) B (cX9_requireUpToc (o := .ok x5) h6) mi_X9_requireUpTo lk_RX9_98 ⟨Nat.le_of_ble_eq_true rfl, Nat.le_of_ble_eq_true rfl⟩ rfl rfl (Nat.le_of_ble_eq_true rfl) dX9_copy_12 (Nat.zero_le _) (Nat.zero_le _) ?_
        refine g_iload_n B 3 dX9_copy_15 rfl rfl ?_
        by_cases n0 : v2 = 0
        · replace h := ifp n0 h
          rw [n0]
          refine g_tableIn B 48 dX9_copy_16 (by decide) (by decide) rfl (by decide) ?_
          refine g_aload_n B 0 dX9_copy_48 rfl rfl ?_
          replace h := bnP_s h
          obtain ⟨x11, h12, h⟩ := h
          refine g_getI B fl_RX9_279 (by decide) dX9_copy_49 h12 ?_
          replace h := Option.some.inj h
          subst h
          exact g_iret B hE (Nat.zero_le _) (Nat.zero_le _) dX9_copy_52
        replace h := ifn n0 h
        by_cases n1 : v2 = 1
        · replace h := ifp n1 h
          rw [n1]
          refine g_tableIn B 53 dX9_copy_16 (by decide) (by decide) rfl (by decide) ?_
          refine g_aload_n B 0 dX9_copy_53 rfl rfl ?_
          replace h := bnP_s h
          obtain ⟨x13, h14, h⟩ := h
          refine g_getI B fl_RX9_284 (by decide) dX9_copy_54 h14 ?_
          replace h := Option.some.inj h
          subst h
          exact g_iret B hE (Nat.zero_le _) (Nat.zero_le _) dX9_copy_57
        replace h := ifn n1 h
        by_cases n2 : v2 = 2
        · replace h := ifp n2 h
          rw [n2]
          refine g_tableIn B 58 dX9_copy_16 (by decide) (by decide) rfl (by decide) ?_
          refine g_aload_n B 0 dX9_copy_58 rfl rfl ?_
          replace h := bnP_s h
          obtain ⟨x15, h16, h⟩ := h
          refine g_getI B fl_RX9_287 (by decide) dX9_copy_59 h16 ?_
          replace h := Option.some.inj h
          subst h
          exact g_iret B hE (Nat.zero_le _) (Nat.zero_le _) dX9_copy_62
        replace h := ifn n2 h
        by_cases n3 : v2 = 3
        · replace h := ifp n3 h
          rw [n3]
          refine g_tableIn B 63 dX9_copy_16 (by decide) (by decide) rfl (by decide) ?_
          refine g_aload_n B 0 dX9_copy_63 rfl rfl ?_
          replace h := bnP_s h
          obtain ⟨x17, h18, h⟩ := h
          refine g_callVs0 (st := []) B (cX3_feec h18) (Nat.le_of_ble_eq_true rfl) rfl rfl mi_X3_fee lk_RX9_288 ⟨Nat.le_of_ble_eq_true rfl, Nat.le_of_ble_eq_true rfl⟩ rfl rfl (Nat.le_of_ble_eq_true rfl) dX9_copy_64 (Nat.zero_le _) (Nat.zero_le _) ?_
          replace h := Option.some.inj h
          subst h
          exact g_iret B hE (Nat.zero_le _) (Nat.zero_le _) dX9_copy_67
        replace h := ifn n3 h
        have mn0 := tne n0 (k := 0) (by decide)
        have mn1 := tne n1 (k := 1) (by decide)
        have mn2 := tne n2 (k := 2) (by decide)
        have mn3 := tne n3 (k := 3) (by decide)
        refine g_tableOut B 68 dX9_copy_16 (by omega) (by decide) ?_
        refine g_aload_n B 1 dX9_copy_68 rfl rfl ?_
        replace h := bnP_s h
        obtain ⟨x7, h8, h⟩ := h
        refine g_getR B fl_RX9_20 (by decide) dX9_copy_69 h8 ?_
        refine g_aload_n B 0 dX9_copy_72 rfl rfl ?_
        replace h := bnP_s h
        obtain ⟨x9, h10, h⟩ := h
        refine g_callVs0 (st := []) B (cX1_knownByAlonec h10) (Nat.le_of_ble_eq_true rfl) rfl rfl mi_X1_knownByAlone lk_RX9_290 ⟨Nat.le_of_ble_eq_true rfl, Nat.le_of_ble_eq_true rfl⟩ rfl rfl (Nat.le_of_ble_eq_true rfl) dX9_copy_73 (Nat.zero_le _) (Nat.zero_le _) ?_
        replace h := Option.some.inj h
        subst h
        exact g_iret B hE (Nat.zero_le _) (Nat.zero_le _) dX9_copy_76
set_option maxRecDepth 100000 in
set_option maxHeartbeats 4000000 in
theorem cX9_hasc {l : Launch} {v0 : Option Nat} {v1 : Int32} {v2 : Int32} {σ : HpT} {o : Except Nat (Bool)} (h : fX9_has v0 v1 v2 σ = some o) : IsK σ v0 9 ∧ Ct l yX9_has cX9_has 5 (some .boolean) 7 111 [va_rf v0, .int v1, .int v2] σ (oB o) σ (xc o) (xs o) := by
  unfold fX9_has at h
  replace h := bnP_s h
  obtain ⟨u, hk, h⟩ := h
  replace hk := isK_s hk
  refine ⟨hk, ?_⟩
  refine ct_start mi_X9_has.1 rfl (al_le (al_1 (rf_cat _) (al_1 rfl (al_1 rfl al_n))) (Nat.le_of_ble_eq_true rfl)) (ag_1 (rf_cat _) (ag_1 rfl (ag_1 rfl ag_n))) (fun Δ Γ B hE hnm => ?_)
  refine g_aload_n B 0 dX9_has_0 rfl rfl ?_
  replace h := bnX_s h
  rcases h with ⟨e9, h2, e8⟩ | ⟨x1, h2, h⟩
  · subst e8
    exact g_callVx (st := []) B (cX9_requireBookc (o := .error e9) h2) (Nat.le_of_ble_eq_true rfl) rfl rfl mi_X9_requireBook lk_RX9_95 ⟨Nat.le_of_ble_eq_true rfl, Nat.le_of_ble_eq_true rfl⟩ rfl rfl (Nat.le_of_ble_eq_true rfl) dX9_has_1 (Nat.le_of_eq rfl) (Nat.le_of_eq rfl) hE
  · skip
    refine g_callVv0 (st := []) B (cX9_requireBookc (o := .ok x1) h2) (Nat.le_of_ble_eq_true rfl) rfl rfl mi_X9_requireBook lk_RX9_95 ⟨Nat.le_of_ble_eq_true rfl, Nat.le_of_ble_eq_true rfl⟩ rfl rfl (Nat.le_of_ble_eq_true rfl) dX9_has_1 (Nat.zero_le _) (Nat.zero_le _) ?_
    refine g_aload_n B 0 dX9_has_4 rfl rfl ?_
    refine g_iload_n B 1 dX9_has_5 rfl rfl ?_
    replace h := bnX_s h
    rcases h with ⟨e9, h4, e8⟩ | ⟨x3, h4, h⟩
    · subst e8
      exact g_callVx (st := []) B (cX9_requireCopyc (o := .error e9) h4) (Nat.le_of_ble_eq_true rfl) rfl rfl mi_X9_requireCopy lk_RX9_275 ⟨Nat.le_of_ble_eq_true rfl, Nat.le_of_ble_eq_true rfl⟩ rfl rfl (Nat.le_of_ble_eq_true rfl) dX9_has_6 (Nat.le_of_eq rfl) (Nat.le_of_eq rfl) hE
    · skip
      refine g_callVs0 (st := []) B (cX9_requireCopyc (o := .ok x3) h4) (Nat.le_of_ble_eq_true rfl) rfl rfl mi_X9_requireCopy lk_RX9_275 ⟨Nat.le_of_ble_eq_true rfl, Nat.le_of_ble_eq_true rfl⟩ rfl rfl (Nat.le_of_ble_eq_true rfl) dX9_has_6 (Nat.zero_le _) (Nat.zero_le _) ?_
      refine g_astore_n B dX9_has_9 rfl (Nat.le_of_ble_eq_true rfl) (s1_c (f1_k rfl (f1_k rfl (f1_1 rfl rfl f1_n)))) ?_
      refine g_aload_n B 1 dX9_has_10 rfl rfl ?_
      refine g_aload_n B 0 dX9_has_11 rfl rfl ?_
      replace h := bnP_s h
      obtain ⟨x5, h6, h⟩ := h
      refine g_getI B fl_RX9_279 (by decide) dX9_has_12 h6 ?_
      replace h := bnX_s h
      rcases h with ⟨e9, h8, e8⟩ | ⟨x7, h8, h⟩
      · subst e8
        exact g_callVx (st := []) B (cX9_requireActc (o := .error e9) h8) (Nat.le_of_ble_eq_true rfl) rfl rfl mi_X9_requireAct lk_RX9_153 ⟨Nat.le_of_ble_eq_true rfl, Nat.le_of_ble_eq_true rfl⟩ rfl rfl (Nat.le_of_ble_eq_true rfl) dX9_has_15 (Nat.le_of_eq rfl) (Nat.le_of_eq rfl) hE
      · skip
        refine g_callVs0 (st := []) B (cX9_requireActc (o := .ok x7) h8) (Nat.le_of_ble_eq_true rfl) rfl rfl mi_X9_requireAct lk_RX9_153 ⟨Nat.le_of_ble_eq_true rfl, Nat.le_of_ble_eq_true rfl⟩ rfl rfl (Nat.le_of_ble_eq_true rfl) dX9_has_15 (Nat.zero_le _) (Nat.zero_le _) ?_
        refine g_iload_n B 3 dX9_has_18 rfl rfl ?_
        replace h := bnX_s h
        rcases h with ⟨e9, h10, e8⟩ | ⟨x9, h10, h⟩
        · subst e8
          exact g_callSx (st := []) B (cX9_requireWordc (o := .error e9) h10) mi_X9_requireWord lk_RX9_188 ⟨Nat.le_of_ble_eq_true rfl, Nat.le_of_ble_eq_true rfl⟩ rfl rfl (Nat.le_of_ble_eq_true rfl) dX9_has_19 (Nat.le_of_eq rfl) (Nat.le_of_eq rfl) hE
        · skip
          refine g_callSs0 (st := []) B (cX9_requireWordc (o := .ok x9) h10) mi_X9_requireWord lk_RX9_188 ⟨Nat.le_of_ble_eq_true rfl, Nat.le_of_ble_eq_true rfl⟩ rfl rfl (Nat.le_of_ble_eq_true rfl) dX9_has_19 (Nat.zero_le _) (Nat.zero_le _) ?_
          refine g_istore B dX9_has_22 (Nat.le_of_ble_eq_true rfl) (s1_c (f1_1 rfl (rf_cat _) (f1_k rfl (f1_k rfl (f1_k rfl f1_n))))) ?_
          refine g_aload_n B 1 dX9_has_24 rfl rfl ?_
          refine g_aload_n B 2 dX9_has_25 rfl rfl ?_
          replace h := bnP_s h
          obtain ⟨x11, h12, h⟩ := h
          refine g_getR B fl_RX9_20 (by decide) dX9_has_26 h12 ?_
          replace h := bnP_s h
          obtain ⟨x13, h14, h⟩ := h
          refine g_getRg B fl_RX9_114 (by decide) dX9_has_29 h14 ?_
          refine g_iload B 0 dX9_has_32 rfl ?_
          replace h := bnP_s h
          obtain ⟨x15, h16, h⟩ := h
          refine g_callVs0 (st := []) B (cX3_holdsc h16) (Nat.le_of_ble_eq_true rfl) rfl rfl mi_X3_holds lk_RX9_294 ⟨Nat.le_of_ble_eq_true rfl, Nat.le_of_ble_eq_true rfl⟩ rfl rfl (Nat.le_of_ble_eq_true rfl) dX9_has_34 (Nat.zero_le _) (Nat.zero_le _) ?_
          replace h := Option.some.inj h
          subst h
          exact g_zret B hE (nar_bI _) (Nat.zero_le _) (Nat.zero_le _) dX9_has_37
set_option maxRecDepth 100000 in
set_option maxHeartbeats 4000000 in
theorem cX9_knownc {l : Launch} {v0 : Option Nat} {v1 : Int32} {σ : HpT} {o : Except Nat (Int32)} (h : fX9_known v0 v1 σ = some o) : IsK σ v0 9 ∧ Ct l yX9_known cX9_known 3 (some .int) 7 111 [va_rf v0, .int v1] σ (oI o) σ (xc o) (xs o) := by
  unfold fX9_known at h
  replace h := bnP_s h
  obtain ⟨u, hk, h⟩ := h
  replace hk := isK_s hk
  refine ⟨hk, ?_⟩
  refine ct_start mi_X9_known.1 rfl (al_le (al_1 (rf_cat _) (al_1 rfl al_n)) (Nat.le_of_ble_eq_true rfl)) (ag_1 (rf_cat _) (ag_1 rfl ag_n)) (fun Δ Γ B hE hnm => ?_)
  refine g_aload_n B 0 dX9_known_0 rfl rfl ?_
  replace h := bnX_s h
  rcases h with ⟨e9, h2, e8⟩ | ⟨x1, h2, h⟩
  · subst e8
    exact g_callVx (st := []) B (cX9_requireBookc (o := .error e9) h2) (Nat.le_of_ble_eq_true rfl) rfl rfl mi_X9_requireBook lk_RX9_95 ⟨Nat.le_of_ble_eq_true rfl, Nat.le_of_ble_eq_true rfl⟩ rfl rfl (Nat.le_of_ble_eq_true rfl) dX9_known_1 (Nat.le_of_eq rfl) (Nat.le_of_eq rfl) hE
  · skip
    refine g_callVv0 (st := []) B (cX9_requireBookc (o := .ok x1) h2) (Nat.le_of_ble_eq_true rfl) rfl rfl mi_X9_requireBook lk_RX9_95 ⟨Nat.le_of_ble_eq_true rfl, Nat.le_of_ble_eq_true rfl⟩ rfl rfl (Nat.le_of_ble_eq_true rfl) dX9_known_1 (Nat.zero_le _) (Nat.zero_le _) ?_
    refine g_aload_n B 0 dX9_known_4 rfl rfl ?_
    refine g_iload_n B 1 dX9_known_5 rfl rfl ?_
    replace h := bnX_s h
    rcases h with ⟨e9, h4, e8⟩ | ⟨x3, h4, h⟩
    · subst e8
      exact g_callVx (st := []) B (cX9_requireActc (o := .error e9) h4) (Nat.le_of_ble_eq_true rfl) rfl rfl mi_X9_requireAct lk_RX9_153 ⟨Nat.le_of_ble_eq_true rfl, Nat.le_of_ble_eq_true rfl⟩ rfl rfl (Nat.le_of_ble_eq_true rfl) dX9_known_6 (Nat.le_of_eq rfl) (Nat.le_of_eq rfl) hE
    · skip
      refine g_callVs0 (st := []) B (cX9_requireActc (o := .ok x3) h4) (Nat.le_of_ble_eq_true rfl) rfl rfl mi_X9_requireAct lk_RX9_153 ⟨Nat.le_of_ble_eq_true rfl, Nat.le_of_ble_eq_true rfl⟩ rfl rfl (Nat.le_of_ble_eq_true rfl) dX9_known_6 (Nat.zero_le _) (Nat.zero_le _) ?_
      refine g_astore_n B dX9_known_9 rfl (Nat.le_of_ble_eq_true rfl) (s1_c (f1_k rfl (f1_1 rfl rfl f1_n))) ?_
      refine g_aload_n B 0 dX9_known_10 rfl rfl ?_
      replace h := bnP_s h
      obtain ⟨x5, h6, h⟩ := h
      refine g_getI B fl_RX9_169 (by decide) dX9_known_11 h6 ?_
      refine g_aload_n B 1 dX9_known_14 rfl rfl ?_
      replace h := bnP_s h
      obtain ⟨x7, h8, h⟩ := h
      refine g_getR B fl_RX9_20 (by decide) dX9_known_15 h8 ?_
      refine g_aload_n B 0 dX9_known_18 rfl rfl ?_
      replace h := bnP_s h
      obtain ⟨x9, h10, h⟩ := h
      refine g_getI B fl_RX9_170 (by decide) dX9_known_19 h10 ?_
      refine g_aload_n B 0 dX9_known_22 rfl rfl ?_
      replace h := bnP_s h
      obtain ⟨x11, h12, h⟩ := h
      refine g_getI B fl_RX9_169 (by decide) dX9_known_23 h12 ?_
      replace h := bnP_s h
      obtain ⟨x13, h14, h⟩ := h
      refine g_callVs0 (st := [.int x5]) B (cX1_unknownFromc h14) (Nat.le_of_ble_eq_true rfl) rfl rfl mi_X1_unknownFrom lk_RX9_150 ⟨Nat.le_of_ble_eq_true rfl, Nat.le_of_ble_eq_true rfl⟩ rfl rfl (Nat.le_of_ble_eq_true rfl) dX9_known_26 (Nat.zero_le _) (Nat.zero_le _) ?_
      refine g_isub B dX9_known_29 ?_
      replace h := Option.some.inj h
      subst h
      exact g_iret B hE (Nat.zero_le _) (Nat.zero_le _) dX9_known_30
set_option maxRecDepth 100000 in
set_option maxHeartbeats 4000000 in
theorem cX9_firstUnknownc {l : Launch} {v0 : Option Nat} {v1 : Int32} {σ : HpT} {o : Except Nat (Int32)} (h : fX9_firstUnknown v0 v1 σ = some o) : IsK σ v0 9 ∧ Ct l yX9_firstUnknown cX9_firstUnknown 4 (some .int) 7 111 [va_rf v0, .int v1] σ (oI o) σ (xc o) (xs o) := by
  unfold fX9_firstUnknown at h
  replace h := bnP_s h
  obtain ⟨u, hk, h⟩ := h
  replace hk := isK_s hk
  refine ⟨hk, ?_⟩
  refine ct_start mi_X9_firstUnknown.1 rfl (al_le (al_1 (rf_cat _) (al_1 rfl al_n)) (Nat.le_of_ble_eq_true rfl)) (ag_1 (rf_cat _) (ag_1 rfl ag_n)) (fun Δ Γ B hE hnm => ?_)
  refine g_aload_n B 0 dX9_firstUnknown_0 rfl rfl ?_
  replace h := bnX_s h
  rcases h with ⟨e9, h2, e8⟩ | ⟨x1, h2, h⟩
  · subst e8
    exact g_callVx (st := []) B (cX9_requireBookc (o := .error e9) h2) (Nat.le_of_ble_eq_true rfl) rfl rfl mi_X9_requireBook lk_RX9_95 ⟨Nat.le_of_ble_eq_true rfl, Nat.le_of_ble_eq_true rfl⟩ rfl rfl (Nat.le_of_ble_eq_true rfl) dX9_firstUnknown_1 (Nat.le_of_eq rfl) (Nat.le_of_eq rfl) hE
  · skip
    refine g_callVv0 (st := []) B (cX9_requireBookc (o := .ok x1) h2) (Nat.le_of_ble_eq_true rfl) rfl rfl mi_X9_requireBook lk_RX9_95 ⟨Nat.le_of_ble_eq_true rfl, Nat.le_of_ble_eq_true rfl⟩ rfl rfl (Nat.le_of_ble_eq_true rfl) dX9_firstUnknown_1 (Nat.zero_le _) (Nat.zero_le _) ?_
    refine g_aload_n B 0 dX9_firstUnknown_4 rfl rfl ?_
    refine g_iload_n B 1 dX9_firstUnknown_5 rfl rfl ?_
    replace h := bnX_s h
    rcases h with ⟨e9, h4, e8⟩ | ⟨x3, h4, h⟩
    · subst e8
      exact g_callVx (st := []) B (cX9_requireActc (o := .error e9) h4) (Nat.le_of_ble_eq_true rfl) rfl rfl mi_X9_requireAct lk_RX9_153 ⟨Nat.le_of_ble_eq_true rfl, Nat.le_of_ble_eq_true rfl⟩ rfl rfl (Nat.le_of_ble_eq_true rfl) dX9_firstUnknown_6 (Nat.le_of_eq rfl) (Nat.le_of_eq rfl) hE
    · skip
      refine g_callVs0 (st := []) B (cX9_requireActc (o := .ok x3) h4) (Nat.le_of_ble_eq_true rfl) rfl rfl mi_X9_requireAct lk_RX9_153 ⟨Nat.le_of_ble_eq_true rfl, Nat.le_of_ble_eq_true rfl⟩ rfl rfl (Nat.le_of_ble_eq_true rfl) dX9_firstUnknown_6 (Nat.zero_le _) (Nat.zero_le _) ?_
      refine g_astore_n B dX9_firstUnknown_9 rfl (Nat.le_of_ble_eq_true rfl) (s1_c (f1_k rfl (f1_1 rfl rfl f1_n))) ?_
      refine g_iconst (v := 0) B dX9_firstUnknown_10 (by decide) ?_
      refine g_istore_n B dX9_firstUnknown_11 rfl (Nat.le_of_ble_eq_true rfl) (s1_c (f1_1 rfl (rf_cat _) (f1_k rfl (f1_k rfl f1_n)))) ?_
      replace h := bnP_s h
      obtain ⟨r6, h7, h⟩ := h
      have kE8 : ∀ y22, r6 = .inl y22 → GW Δ Γ (0) (0) 44 [] [] σ := by
        intro y22 er
        subst er
        dsimp only at h
        refine g_iconst (v := (-1)) B dX9_firstUnknown_44 (by decide) ?_
        replace h := Option.some.inj h
        subst h
        exact g_iret B hE (Nat.zero_le _) (Nat.zero_le _) dX9_firstUnknown_45
      have kR9 : ∀ vv, r6 = .inr vv → En Δ Γ (.ok (some (.int vv))) σ (xc o) (xs o) (some .int) ∧ 0 ≤ (xc o) ∧ 0 ≤ (xs o) := by
        intro vv er
        subst er
        dsimp only at h
        replace h := Option.some.inj h
        subst h
        exact ⟨hE, Nat.zero_le _, Nat.zero_le _⟩
      clear h
      refine g_sub [2, 1, 0] rfl ?_
      refine lpP_w (I := fun q5 => GW Δ Γ (0) (0) 12 [(0, va_rf v0), (2, va_rf x3), (3, .int q5)] [] σ) (r := r6) ?_ FUEL 0 h7
      intro q5 x12 h hI10 hR11
      unfold fX9_firstUnknown_l1 at h
      refine g_iload_n B 2 dX9_firstUnknown_12 rfl rfl ?_
      refine g_aload_n B 1 dX9_firstUnknown_13 rfl rfl ?_
      replace h := bnP_s h
      obtain ⟨x14, h15, h⟩ := h
      refine g_getI B fl_RX9_169 (by decide) dX9_firstUnknown_14 h15 ?_
      refine g_icmp_ge B 44 dX9_firstUnknown_17 (by decide) (fun hc => ?_) (fun hc => ?_)
      · replace h := ifp hc h
        replace h := Option.some.inj h
        subst h
        have e8 := hR11 _ rfl
        subst e8
        exact g_sub [] rfl (kE8 _ rfl)
      · replace h := ifn hc h
        refine g_aload_n B 0 dX9_firstUnknown_20 rfl rfl ?_
        replace h := bnP_s h
        obtain ⟨x16, h17, h⟩ := h
        refine g_getR B fl_RX9_20 (by decide) dX9_firstUnknown_21 h17 ?_
        refine g_aload_n B 1 dX9_firstUnknown_24 rfl rfl ?_
        replace h := bnP_s h
        obtain ⟨x18, h19, h⟩ := h
        refine g_getI B fl_RX9_170 (by decide) dX9_firstUnknown_25 h19 ?_
        refine g_iload_n B 2 dX9_firstUnknown_28 rfl rfl ?_
        refine g_iadd B dX9_firstUnknown_29 ?_
        replace h := bnP_s h
        obtain ⟨x20, h21, h⟩ := h
        refine g_callVs0 (st := []) B (cX1_isKnownc h21) (Nat.le_of_ble_eq_true rfl) rfl rfl mi_X1_isKnown lk_RX9_210 ⟨Nat.le_of_ble_eq_true rfl, Nat.le_of_ble_eq_true rfl⟩ rfl rfl (Nat.le_of_ble_eq_true rfl) dX9_firstUnknown_30 (Nat.zero_le _) (Nat.zero_le _) ?_
        refine g_if_ne B 38 dX9_firstUnknown_33 (by decide) (fun hc => ?_) (fun hc => ?_)
        · replace h := ifp (bI1 hc) h
          refine g_iinc (v := (q5 + 1)) B 2 dX9_firstUnknown_38 rfl (by first | rfl | (congr 1; decide)) (Nat.le_of_ble_eq_true rfl) (s1_c (f1_k rfl (f1_1 rfl (rf_cat _) (f1_x f1_n)))) ?_
          refine g_goto B 12 dX9_firstUnknown_41 (by decide) ?_
          replace h := Option.some.inj h
          subst h
          exact g_sub [1, 2, 0] rfl (hI10 _ rfl)
        · replace h := ifn (bI0 hc) h
          refine g_iload_n B 2 dX9_firstUnknown_36 rfl rfl ?_
          replace h := Option.some.inj h
          subst h
          have e8 := hR11 _ rfl
          obtain ⟨hE, hc9, hs9⟩ := kR9 _ e8.symm
          exact g_iret B hE hc9 hs9 dX9_firstUnknown_37
set_option maxRecDepth 100000 in
set_option maxHeartbeats 4000000 in
theorem cX9_gapc {l : Launch} {v0 : Option Nat} {σ : HpT} {o : Except Nat (Int32)} (h : fX9_gap v0 σ = some o) : IsK σ v0 9 ∧ Ct l yX9_gap cX9_gap 1 (some .int) 7 110 [va_rf v0] σ (oI o) σ (xc o) (xs o) := by
  unfold fX9_gap at h
  replace h := bnP_s h
  obtain ⟨u, hk, h⟩ := h
  replace hk := isK_s hk
  refine ⟨hk, ?_⟩
  refine ct_start mi_X9_gap.1 rfl (al_le (al_1 (rf_cat _) al_n) (Nat.le_of_ble_eq_true rfl)) (ag_1 (rf_cat _) ag_n) (fun Δ Γ B hE hnm => ?_)
  refine g_aload_n B 0 dX9_gap_0 rfl rfl ?_
  replace h := bnX_s h
  rcases h with ⟨e9, h2, e8⟩ | ⟨x1, h2, h⟩
  · subst e8
    exact g_callVx (st := []) B (cX9_requireBookc (o := .error e9) h2) (Nat.le_of_ble_eq_true rfl) rfl rfl mi_X9_requireBook lk_RX9_95 ⟨Nat.le_of_ble_eq_true rfl, Nat.le_of_ble_eq_true rfl⟩ rfl rfl (Nat.le_of_ble_eq_true rfl) dX9_gap_1 (Nat.le_of_eq rfl) (Nat.le_of_eq rfl) hE
  · skip
    refine g_callVv0 (st := []) B (cX9_requireBookc (o := .ok x1) h2) (Nat.le_of_ble_eq_true rfl) rfl rfl mi_X9_requireBook lk_RX9_95 ⟨Nat.le_of_ble_eq_true rfl, Nat.le_of_ble_eq_true rfl⟩ rfl rfl (Nat.le_of_ble_eq_true rfl) dX9_gap_1 (Nat.zero_le _) (Nat.zero_le _) ?_
    refine g_aload_n B 0 dX9_gap_4 rfl rfl ?_
    replace h := bnP_s h
    obtain ⟨x3, h4, h⟩ := h
    refine g_getR B fl_RX9_20 (by decide) dX9_gap_5 h4 ?_
    replace h := bnP_s h
    obtain ⟨x5, h6, h⟩ := h
    refine g_callVs0 (st := []) B (cX1_wordsGapc h6) (Nat.le_of_ble_eq_true rfl) rfl rfl mi_X1_wordsGap lk_RX9_298 ⟨Nat.le_of_ble_eq_true rfl, Nat.le_of_ble_eq_true rfl⟩ rfl rfl (Nat.le_of_ble_eq_true rfl) dX9_gap_8 (Nat.zero_le _) (Nat.zero_le _) ?_
    refine g_aload_n B 0 dX9_gap_11 rfl rfl ?_
    replace h := bnP_s h
    obtain ⟨x7, h8, h⟩ := h
    refine g_getR B fl_RX9_20 (by decide) dX9_gap_12 h8 ?_
    replace h := bnP_s h
    obtain ⟨x9, h10, h⟩ := h
    refine g_callVs0 (st := [.int x5]) B (cX1_standingGapc h10) (Nat.le_of_ble_eq_true rfl) rfl rfl mi_X1_standingGap lk_RX9_301 ⟨Nat.le_of_ble_eq_true rfl, Nat.le_of_ble_eq_true rfl⟩ rfl rfl (Nat.le_of_ble_eq_true rfl) dX9_gap_15 (Nat.zero_le _) (Nat.zero_le _) ?_
    refine g_iadd B dX9_gap_18 ?_
    refine g_aload_n B 0 dX9_gap_19 rfl rfl ?_
    replace h := bnP_s h
    obtain ⟨x11, h12, h⟩ := h
    refine g_getR B fl_RX9_20 (by decide) dX9_gap_20 h12 ?_
    replace h := bnP_s h
    obtain ⟨x13, h14, h⟩ := h
    refine g_callVs0 (st := [.int (x5 + x9)]) B (cX1_cashGapc h14) (Nat.le_of_ble_eq_true rfl) rfl rfl mi_X1_cashGap lk_RX9_304 ⟨Nat.le_of_ble_eq_true rfl, Nat.le_of_ble_eq_true rfl⟩ rfl rfl (Nat.le_of_ble_eq_true rfl) dX9_gap_23 (Nat.zero_le _) (Nat.zero_le _) ?_
    refine g_iadd B dX9_gap_26 ?_
    refine g_aload_n B 0 dX9_gap_27 rfl rfl ?_
    replace h := bnP_s h
    obtain ⟨x15, h16, h⟩ := h
    refine g_getR B fl_RX9_20 (by decide) dX9_gap_28 h16 ?_
    replace h := bnP_s h
    obtain ⟨x17, h18, h⟩ := h
    refine g_callVs0 (st := [.int ((x5 + x9) + x13)]) B (cX1_numbersGapc h18) (Nat.le_of_ble_eq_true rfl) rfl rfl mi_X1_numbersGap lk_RX9_307 ⟨Nat.le_of_ble_eq_true rfl, Nat.le_of_ble_eq_true rfl⟩ rfl rfl (Nat.le_of_ble_eq_true rfl) dX9_gap_31 (Nat.zero_le _) (Nat.zero_le _) ?_
    refine g_iadd B dX9_gap_34 ?_
    replace h := Option.some.inj h
    subst h
    exact g_iret B hE (Nat.zero_le _) (Nat.zero_le _) dX9_gap_35
set_option maxRecDepth 100000 in
set_option maxHeartbeats 4000000 in
theorem cX9_whyNotSealc {l : Launch} {v0 : Option Nat} {v1 : Int32} {v2 : Int32} {σ : HpT} {o : Except Nat (Int32)} (h : fX9_whyNotSeal v0 v1 v2 σ = some o) : IsK σ v0 9 ∧ Ct l yX9_whyNotSeal cX9_whyNotSeal 3 (some .int) 7 111 [va_rf v0, .int v1, .int v2] σ (oI o) σ (xc o) (xs o) := by
  unfold fX9_whyNotSeal at h
  replace h := bnP_s h
  obtain ⟨u, hk, h⟩ := h
  replace hk := isK_s hk
  refine ⟨hk, ?_⟩
  refine ct_start mi_X9_whyNotSeal.1 rfl (al_le (al_1 (rf_cat _) (al_1 rfl (al_1 rfl al_n))) (Nat.le_of_ble_eq_true rfl)) (ag_1 (rf_cat _) (ag_1 rfl (ag_1 rfl ag_n))) (fun Δ Γ B hE hnm => ?_)
  refine g_aload_n B 0 dX9_whyNotSeal_0 rfl rfl ?_
  replace h := bnX_s h
  rcases h with ⟨e9, h2, e8⟩ | ⟨x1, h2, h⟩
  · subst e8
    exact g_callVx (st := []) B (cX9_requireBookc (o := .error e9) h2) (Nat.le_of_ble_eq_true rfl) rfl rfl mi_X9_requireBook lk_RX9_95 ⟨Nat.le_of_ble_eq_true rfl, Nat.le_of_ble_eq_true rfl⟩ rfl rfl (Nat.le_of_ble_eq_true rfl) dX9_whyNotSeal_1 (Nat.le_of_eq rfl) (Nat.le_of_eq rfl) hE
  · skip
    refine g_callVv0 (st := []) B (cX9_requireBookc (o := .ok x1) h2) (Nat.le_of_ble_eq_true rfl) rfl rfl mi_X9_requireBook lk_RX9_95 ⟨Nat.le_of_ble_eq_true rfl, Nat.le_of_ble_eq_true rfl⟩ rfl rfl (Nat.le_of_ble_eq_true rfl) dX9_whyNotSeal_1 (Nat.zero_le _) (Nat.zero_le _) ?_
    refine g_iload_n B 1 dX9_whyNotSeal_4 rfl rfl ?_
    refine g_bipush (v := 9) B dX9_whyNotSeal_5 (by decide) ?_
    replace h := bnX_s h
    rcases h with ⟨e9, h4, e8⟩ | ⟨x3, h4, h⟩
    · subst e8
      exact g_callSx (st := []) B (cX9_requireUpToc (o := .error e9) h4) mi_X9_requireUpTo lk_RX9_98 ⟨Nat.le_of_ble_eq_true rfl, Nat.le_of_ble_eq_true rfl⟩ rfl rfl (Nat.le_of_ble_eq_true rfl) dX9_whyNotSeal_7 (Nat.le_of_eq rfl) (Nat.le_of_eq rfl) hE
    · skip
      refine g_callSv0 (st := []) B (cX9_requireUpToc (o := .ok x3) h4) mi_X9_requireUpTo lk_RX9_98 ⟨Nat.le_of_ble_eq_true rfl, Nat.le_of_ble_eq_true rfl⟩ rfl rfl (Nat.le_of_ble_eq_true rfl) dX9_whyNotSeal_7 (Nat.zero_le _) (Nat.zero_le _) ?_
      refine g_iload_n B 2 dX9_whyNotSeal_10 rfl rfl ?_
      refine g_bipush (v := 99) B dX9_whyNotSeal_11 (by decide) ?_
      replace h := bnX_s h
      rcases h with ⟨e9, h6, e8⟩ | ⟨x5, h6, h⟩
      · subst e8
        exact g_callSx (st := []) B (cX9_requireUpToc (o := .error e9) h6) mi_X9_requireUpTo lk_RX9_98 ⟨Nat.le_of_ble_eq_true rfl, Nat.le_of_ble_eq_true rfl⟩ rfl rfl (Nat.le_of_ble_eq_true rfl) dX9_whyNotSeal_13 (Nat.le_of_eq rfl) (Nat.le_of_eq rfl) hE
      · skip
        refine g_callSv0 (st := []) B (cX9_requireUpToc (o := .ok x5) h6) mi_X9_requireUpTo lk_RX9_98 ⟨Nat.le_of_ble_eq_true rfl, Nat.le_of_ble_eq_true rfl⟩ rfl rfl (Nat.le_of_ble_eq_true rfl) dX9_whyNotSeal_13 (Nat.zero_le _) (Nat.zero_le _) ?_
        refine g_aload_n B 0 dX9_whyNotSeal_16 rfl rfl ?_
        replace h := bnP_s h
        obtain ⟨x7, h8, h⟩ := h
        refine g_getR B fl_RX9_20 (by decide) dX9_whyNotSeal_17 h8 ?_
        refine g_iload_n B 1 dX9_whyNotSeal_20 rfl rfl ?_
        refine g_iload_n B 2 dX9_whyNotSeal_21 rfl rfl ?_
        replace h := bnP_s h
        obtain ⟨x9, h10, h⟩ := h
        refine g_callVs0 (st := []) B (cX1_sealReasonc h10) (Nat.le_of_ble_eq_true rfl) rfl rfl mi_X1_sealReason lk_RX9_310 ⟨Nat.le_of_ble_eq_true rfl, Nat.le_of_ble_eq_true rfl⟩ rfl rfl (Nat.le_of_ble_eq_true rfl) dX9_whyNotSeal_22 (Nat.zero_le _) (Nat.zero_le _) ?_
        replace h := Option.some.inj h
        subst h
        exact g_iret B hE (Nat.zero_le _) (Nat.zero_le _) dX9_whyNotSeal_25
