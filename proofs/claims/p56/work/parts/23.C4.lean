theorem mi_X5_readLeafLine : MI yX5_readLeafLine cX5_readLeafLine 5 (some .boolean) 0 := ⟨by decide +kernel, (mw (i := 892) (by decide +kernel) rfl), (mw (i := 44) (by decide +kernel) rfl), by decide +kernel, by decide +kernel⟩
theorem mi_X5_readLine : MI yX5_readLine cX5_readLine 1 (some .boolean) 0 := ⟨by decide +kernel, (mw (i := 655) (by decide +kernel) rfl), (mw (i := 44) (by decide +kernel) rfl), by decide +kernel, by decide +kernel⟩
theorem mi_X5_readText : MI yX5_readText cX5_readText 5 (some .boolean) 3 := ⟨by decide +kernel, (mw (i := 539) (by decide +kernel) rfl), (mw (i := 44) (by decide +kernel) rfl), by decide +kernel, by decide +kernel⟩
theorem mi_X6_init : MI yX6_init cX6_init 1 none 0 := ⟨by decide +kernel, (mw (i := 378) (by decide +kernel) rfl), (mw (i := 46) (by decide +kernel) rfl), by decide +kernel, by decide +kernel⟩
theorem mi_X8_clausesFrom : MI yX8_clausesFrom cX8_clausesFrom 5 (some .int) 2 := ⟨by decide +kernel, (mw (i := 993) (by decide +kernel) rfl), (mw (i := 39) (by decide +kernel) rfl), by decide +kernel, by decide +kernel⟩
theorem mi_X8_greatestDepth : MI yX8_greatestDepth cX8_greatestDepth 6 (some .int) 2 := ⟨by decide +kernel, (mw (i := 997) (by decide +kernel) rfl), (mw (i := 39) (by decide +kernel) rfl), by decide +kernel, by decide +kernel⟩
theorem mi_X9_append : MI yX9_append cX9_append 6 (some .int) 5 := ⟨by decide +kernel, (mw (i := 1350) (by decide +kernel) rfl), (mw (i := 37) (by decide +kernel) rfl), by decide +kernel, by decide +kernel⟩
theorem mi_X9_forgetPast : MI yX9_forgetPast cX9_forgetPast 1 none 0 := ⟨by decide +kernel, (mw (i := 931) (by decide +kernel) rfl), (mw (i := 37) (by decide +kernel) rfl), by decide +kernel, by decide +kernel⟩
theorem mi_X9_init : MI yX9_init cX9_init 1 none 0 := ⟨by decide +kernel, (mw (i := 79) (by decide +kernel) rfl), (mw (i := 37) (by decide +kernel) rfl), by decide +kernel, by decide +kernel⟩
theorem mi_X9_putFourBytes : MI yX9_putFourBytes cX9_putFourBytes 3 none 1 := ⟨by decide +kernel, (mw (i := 1354) (by decide +kernel) rfl), (mw (i := 37) (by decide +kernel) rfl), by decide +kernel, by decide +kernel⟩
theorem mi_X9_requireBytes : MI yX9_requireBytes cX9_requireBytes 2 none 1 := ⟨by decide +kernel, (mw (i := 468) (by decide +kernel) rfl), (mw (i := 37) (by decide +kernel) rfl), by decide +kernel, by decide +kernel⟩
theorem fl_RX5_240 : Fl RX5 240 4 1 .int false := ⟨RX4, TX4, 4, tyX4, rfl, by decide, rfl, lay_4, (mw (i := 149) (by decide +kernel) rfl), tyX4_ok, nmX4, tyX4_ok 1 (by decide), rfl, by decide, by decide⟩
theorem fl_RX6_10 : Fl RX6 10 6 0 (.object "java/lang/StringBuilder") true := ⟨RX6, TX6, 1, tyX6, rfl, by decide, rfl, lay_6, (mw (i := 411) (by decide +kernel) rfl), tyX6_ok, nmX6, tyX6_ok 0 (by decide), rfl, by decide, fun _ => rfl⟩
theorem fl_RX9_9 : Fl RX9 9 9 0 (.array .byte) true := ⟨RX9, TX9, 15, tyX9, rfl, by decide, rfl, lay_9, (mw (i := 415) (by decide +kernel) rfl), tyX9_ok, nmX9, tyX9_ok 0 (by decide), rfl, by decide, fun _ => rfl⟩
theorem fl_RX9_13 : Fl RX9 13 9 3 .int false := ⟨RX9, TX9, 15, tyX9, rfl, by decide, rfl, lay_9, (mw (i := 418) (by decide +kernel) rfl), tyX9_ok, nmX9, tyX9_ok 3 (by decide), rfl, by decide, by decide⟩
theorem fl_RX9_20 : Fl RX9 20 9 5 (.object "NotaryBook$Book") false := ⟨RX9, TX9, 15, tyX9, rfl, by decide, rfl, lay_9, (mw (i := 420) (by decide +kernel) rfl), tyX9_ok, nmX9, tyX9_ok 5 (by decide), rfl, by decide, by decide⟩
theorem fl_RX9_24 : Fl RX9 24 9 6 (.object "NotaryBook$Book") false := ⟨RX9, TX9, 15, tyX9, rfl, by decide, rfl, lay_9, (mw (i := 421) (by decide +kernel) rfl), tyX9_ok, nmX9, tyX9_ok 6 (by decide), rfl, by decide, by decide⟩
theorem fl_RX9_30 : Fl RX9 30 9 7 (.object "NotaryBook$Parser") true := ⟨RX9, TX9, 15, tyX9, rfl, by decide, rfl, lay_9, (mw (i := 422) (by decide +kernel) rfl), tyX9_ok, nmX9, tyX9_ok 7 (by decide), rfl, by decide, fun _ => rfl⟩
theorem fl_RX9_34 : Fl RX9 34 9 8 (.array (.object "NotaryBook$Book")) true := ⟨RX9, TX9, 15, tyX9, rfl, by decide, rfl, lay_9, (mw (i := 423) (by decide +kernel) rfl), tyX9_ok, nmX9, tyX9_ok 8 (by decide), rfl, by decide, fun _ => rfl⟩
theorem fl_RX9_38 : Fl RX9 38 9 11 (.array (.object "NotaryBook$Book")) true := ⟨RX9, TX9, 15, tyX9, rfl, by decide, rfl, lay_9, (mw (i := 426) (by decide +kernel) rfl), tyX9_ok, nmX9, tyX9_ok 11 (by decide), rfl, by decide, fun _ => rfl⟩
theorem fl_RX9_41 : Fl RX9 41 9 12 (.array .boolean) true := ⟨RX9, TX9, 15, tyX9, rfl, by decide, rfl, lay_9, (mw (i := 427) (by decide +kernel) rfl), tyX9_ok, nmX9, tyX9_ok 12 (by decide), rfl, by decide, fun _ => rfl⟩
theorem fl_RX9_48 : Fl RX9 48 9 13 (.object "NotaryBook$Leaves") true := ⟨RX9, TX9, 15, tyX9, rfl, by decide, rfl, lay_9, (mw (i := 428) (by decide +kernel) rfl), tyX9_ok, nmX9, tyX9_ok 13 (by decide), rfl, by decide, fun _ => rfl⟩
theorem fl_RX9_55 : Fl RX9 55 9 14 (.object "NotaryBook$Pen") true := ⟨RX9, TX9, 15, tyX9, rfl, by decide, rfl, lay_9, (mw (i := 429) (by decide +kernel) rfl), tyX9_ok, nmX9, tyX9_ok 14 (by decide), rfl, by decide, fun _ => rfl⟩
theorem fl_RX9_59 : Fl RX9 59 9 1 .int false := ⟨RX9, TX9, 15, tyX9, rfl, by decide, rfl, lay_9, (mw (i := 416) (by decide +kernel) rfl), tyX9_ok, nmX9, tyX9_ok 1 (by decide), rfl, by decide, by decide⟩
theorem fl_RX9_491 : Fl RX9 491 9 10 .int false := ⟨RX9, TX9, 15, tyX9, rfl, by decide, rfl, lay_9, (mw (i := 425) (by decide +kernel) rfl), tyX9_ok, nmX9, tyX9_ok 10 (by decide), rfl, by decide, by decide⟩
theorem fl_RX9_499 : Fl RX9 499 9 9 .int false := ⟨RX9, TX9, 15, tyX9, rfl, by decide, rfl, lay_9, (mw (i := 424) (by decide +kernel) rfl), tyX9_ok, nmX9, tyX9_ok 9 (by decide), rfl, by decide, by decide⟩
theorem lk_RX5_32 : LV RX5 32 yX1_clear := ⟨(mw (i := 540) (by decide +kernel) rfl), (mw (i := 541) (by decide +kernel) rfl), (mw (i := 542) (by decide +kernel) rfl)⟩
theorem lk_RX5_37 : LV RX5 37 yX7_startAt := ⟨(mw (i := 544) (by decide +kernel) rfl), (mw (i := 545) (by decide +kernel) rfl), (mw (i := 546) (by decide +kernel) rfl)⟩
theorem lk_RX5_41 : LV RX5 41 yX5_readHead := ⟨(mw (i := 575) (by decide +kernel) rfl), (mw (i := 577) (by decide +kernel) rfl), (mw (i := 4) (by decide +kernel) rfl)⟩
theorem lk_RX5_58 : LV RX5 58 yX5_readLine := ⟨(mw (i := 652) (by decide +kernel) rfl), (mw (i := 654) (by decide +kernel) rfl), (mw (i := 10) (by decide +kernel) rfl)⟩
theorem lk_RX5_107 : LV RX5 107 yX5_readActLine := ⟨(mw (i := 657) (by decide +kernel) rfl), (mw (i := 659) (by decide +kernel) rfl), (mw (i := 11) (by decide +kernel) rfl)⟩
theorem lk_RX5_112 : LV RX5 112 yX5_readStrikeLine := ⟨(mw (i := 735) (by decide +kernel) rfl), (mw (i := 737) (by decide +kernel) rfl), (mw (i := 14) (by decide +kernel) rfl)⟩
theorem lk_RX5_117 : LV RX5 117 yX5_readOutLine := ⟨(mw (i := 761) (by decide +kernel) rfl), (mw (i := 763) (by decide +kernel) rfl), (mw (i := 15) (by decide +kernel) rfl)⟩
theorem lk_RX5_122 : LV RX5 122 yX5_readInsertLine := ⟨(mw (i := 791) (by decide +kernel) rfl), (mw (i := 793) (by decide +kernel) rfl), (mw (i := 17) (by decide +kernel) rfl)⟩
theorem lk_RX5_127 : LV RX5 127 yX5_readSealLine := ⟨(mw (i := 809) (by decide +kernel) rfl), (mw (i := 811) (by decide +kernel) rfl), (mw (i := 18) (by decide +kernel) rfl)⟩
theorem lk_RX5_132 : LV RX5 132 yX5_readCancelLine := ⟨(mw (i := 834) (by decide +kernel) rfl), (mw (i := 836) (by decide +kernel) rfl), (mw (i := 19) (by decide +kernel) rfl)⟩
theorem lk_RX5_137 : LV RX5 137 yX5_readCopyLine := ⟨(mw (i := 843) (by decide +kernel) rfl), (mw (i := 845) (by decide +kernel) rfl), (mw (i := 20) (by decide +kernel) rfl)⟩
theorem lk_RX5_142 : LV RX5 142 yX4_dropLoose := ⟨(mw (i := 881) (by decide +kernel) rfl), (mw (i := 882) (by decide +kernel) rfl), (mw (i := 883) (by decide +kernel) rfl)⟩
theorem lk_RX5_146 : LV RX5 146 yX5_readLeafLine := ⟨(mw (i := 889) (by decide +kernel) rfl), (mw (i := 891) (by decide +kernel) rfl), (mw (i := 22) (by decide +kernel) rfl)⟩
theorem lk_RX5_241 : LV RX5 241 yX4_isLost := ⟨(mw (i := 896) (by decide +kernel) rfl), (mw (i := 695) (by decide +kernel) rfl), (mw (i := 696) (by decide +kernel) rfl)⟩
theorem lk_RX5_244 : LV RX5 244 yX4_drop := ⟨(mw (i := 897) (by decide +kernel) rfl), (mw (i := 898) (by decide +kernel) rfl), (mw (i := 899) (by decide +kernel) rfl)⟩
theorem lk_RX5_247 : LV RX5 247 yX4_bringBack := ⟨(mw (i := 901) (by decide +kernel) rfl), (mw (i := 902) (by decide +kernel) rfl), (mw (i := 903) (by decide +kernel) rfl)⟩
theorem lk_RX5_250 : LV RX5 250 yX4_isLoose := ⟨(mw (i := 910) (by decide +kernel) rfl), (mw (i := 907) (by decide +kernel) rfl), (mw (i := 908) (by decide +kernel) rfl)⟩
theorem lk_RX5_253 : LV RX5 253 yX4_fasten := ⟨(mw (i := 911) (by decide +kernel) rfl), (mw (i := 710) (by decide +kernel) rfl), (mw (i := 711) (by decide +kernel) rfl)⟩
theorem lk_RX6_9 : LI RX6 9 yJ4_init_da8c8 := ⟨(mw (i := 382) (by decide +kernel) rfl), (mw (i := 383) (by decide +kernel) rfl), rfl⟩
theorem lk_RX9_19 : LI RX9 19 yX1_init := ⟨(mw (i := 85) (by decide +kernel) rfl), (mw (i := 86) (by decide +kernel) rfl), rfl⟩
theorem lk_RX9_29 : LNI RX9 "NotaryBook" 29 yX5_init := ⟨(mn (i := 316) (by decide +kernel) rfl), (mw (i := 317) (by decide +kernel) rfl), rfl⟩
theorem lk_RX9_47 : LNI RX9 "NotaryBook" 47 yX4_init := ⟨(mn (i := 373) (by decide +kernel) rfl), (mw (i := 140) (by decide +kernel) rfl), rfl⟩
theorem lk_RX9_54 : LNI RX9 "NotaryBook" 54 yX6_init := ⟨(mn (i := 376) (by decide +kernel) rfl), (mw (i := 377) (by decide +kernel) rfl), rfl⟩
theorem lk_RX9_62 : LV RX9 62 yX9_putFourBytes := ⟨(mw (i := 1351) (by decide +kernel) rfl), (mw (i := 1353) (by decide +kernel) rfl), (mw (i := 32) (by decide +kernel) rfl)⟩
theorem nw_RX6_7 : NW RX6 7 11 := ⟨RJ4, TJ4, 4, tyJ4, rfl, rfl, lay_11, tyJ4_ok, (mw (i := 380) (by decide +kernel) rfl), (mw (i := 381) (by decide +kernel) rfl), (mw (i := 48) (by decide +kernel) rfl), by decide, dv_11⟩
theorem nw_RX9_17 : NW RX9 17 1 := ⟨RX1, TX1, 12, tyX1, rfl, rfl, lay_1, tyX1_ok, (mw (i := 83) (by decide +kernel) rfl), (mw (i := 84) (by decide +kernel) rfl), (mw (i := 38) (by decide +kernel) rfl), by decide, dv_1⟩
theorem nw_RX9_27 : NW RX9 27 5 := ⟨RX5, TX5, 5, tyX5, rfl, rfl, lay_5, tyX5_ok, (mw (i := 314) (by decide +kernel) rfl), (mw (i := 315) (by decide +kernel) rfl), (mw (i := 44) (by decide +kernel) rfl), by decide, dv_5⟩
theorem nw_RX9_45 : NW RX9 45 4 := ⟨RX4, TX4, 4, tyX4, rfl, rfl, lay_4, tyX4_ok, (mw (i := 372) (by decide +kernel) rfl), (mw (i := 138) (by decide +kernel) rfl), (mw (i := 40) (by decide +kernel) rfl), by decide, dv_4⟩
theorem nw_RX9_52 : NW RX9 52 6 := ⟨RX6, TX6, 1, tyX6, rfl, rfl, lay_6, tyX6_ok, (mw (i := 374) (by decide +kernel) rfl), (mw (i := 375) (by decide +kernel) rfl), (mw (i := 46) (by decide +kernel) rfl), by decide, dv_6⟩
theorem tw_RX9_238_242 : TW RX9 238 242 1 := ⟨(mw (i := 469) (by decide +kernel) rfl), (mw (i := 69) (by decide +kernel) rfl), tw_of (ids := [66, 491, 500, 504, 507, 509, 492, 493, 81, 82, 494, 499, 505, 525, 481, 526, 483, 527, 485, 495, 497, 487, 521, 522, 524, 487, 512, 513, 514, 515, 473, 515, 516, 517, 518, 475, 518, 519, 520, 521, 477, 511, 470, 471, 478, 479, 480, 482, 484, 486, 490, 489, 488]) (by decide +kernel) (by decide +kernel), by decide +kernel, by decide +kernel⟩
theorem an_RX9_17 : Cond.classLink RX9 17 "NotaryBook$Book" ∈ ALLw ∧ Cond.arrayOver (.object "NotaryBook$Book") ∈ ALLn := ⟨(mw (i := 83) (by decide +kernel) rfl), (mn (i := 371) (by decide +kernel) rfl)⟩
theorem mt_RX8_59 : MTW RX8 59 Lib.Math.max.name Lib.Math.max.code 2 := ⟨(mw (i := 998) (by decide +kernel) rfl), (mw (i := 707) (by decide +kernel) rfl), (mw (i := 56) (by decide +kernel) rfl), (mw (i := 708) (by decide +kernel) rfl)⟩
theorem obj_RX6_1 : OBW RX6 1 := ⟨(mw (i := 379) (by decide +kernel) rfl), (mw (i := 81) (by decide +kernel) rfl), (mw (i := 82) (by decide +kernel) rfl)⟩
theorem obj_RX9_1 : OBW RX9 1 := ⟨(mw (i := 80) (by decide +kernel) rfl), (mw (i := 81) (by decide +kernel) rfl), (mw (i := 82) (by decide +kernel) rfl)⟩
theorem dX5_readLeafLine_0 : decode cX5_readLeafLine 0 = .ok (.aload_n 0, 1) := by decide +kernel
theorem dX5_readLeafLine_1 : decode cX5_readLeafLine 1 = .ok (.ldc 234, 2) := by decide +kernel
theorem dX5_readLeafLine_3 : decode cX5_readLeafLine 3 = .ok (.invokevirtual 80, 3) := by decide +kernel
theorem dX5_readLeafLine_6 : decode cX5_readLeafLine 6 = .ok (.istore_n 1, 1) := by decide +kernel
theorem dX5_readLeafLine_7 : decode cX5_readLeafLine 7 = .ok (.aload_n 0, 1) := by decide +kernel
theorem dX5_readLeafLine_8 : decode cX5_readLeafLine 8 = .ok (.ldc 236, 2) := by decide +kernel
theorem dX5_readLeafLine_10 : decode cX5_readLeafLine 10 = .ok (.invokevirtual 80, 3) := by decide +kernel
theorem dX5_readLeafLine_13 : decode cX5_readLeafLine 13 = .ok (.istore_n 2, 1) := by decide +kernel
theorem dX5_readLeafLine_14 : decode cX5_readLeafLine 14 = .ok (.iload_n 1, 1) := by decide +kernel
theorem dX5_readLeafLine_15 : decode cX5_readLeafLine 15 = .ok (.ifCond .ne 22, 3) := by decide +kernel
theorem dX5_readLeafLine_18 : decode cX5_readLeafLine 18 = .ok (.iload_n 2, 1) := by decide +kernel
theorem dX5_readLeafLine_19 : decode cX5_readLeafLine 19 = .ok (.ifCond .ne 18, 3) := by decide +kernel
theorem dX5_readLeafLine_22 : decode cX5_readLeafLine 22 = .ok (.aload_n 0, 1) := by decide +kernel
theorem dX5_readLeafLine_23 : decode cX5_readLeafLine 23 = .ok (.ldc 238, 2) := by decide +kernel
theorem dX5_readLeafLine_25 : decode cX5_readLeafLine 25 = .ok (.invokevirtual 80, 3) := by decide +kernel
theorem dX5_readLeafLine_28 : decode cX5_readLeafLine 28 = .ok (.ifCond .ne 9, 3) := by decide +kernel
theorem dX5_readLeafLine_31 : decode cX5_readLeafLine 31 = .ok (.aload_n 0, 1) := by decide +kernel
theorem dX5_readLeafLine_32 : decode cX5_readLeafLine 32 = .ok (.iconst 1, 1) := by decide +kernel
theorem dX5_readLeafLine_33 : decode cX5_readLeafLine 33 = .ok (.invokevirtual 51, 3) := by decide +kernel
theorem dX5_readLeafLine_36 : decode cX5_readLeafLine 36 = .ok (.ireturn, 1) := by decide +kernel
theorem dX5_readLeafLine_37 : decode cX5_readLeafLine 37 = .ok (.aload_n 0, 1) := by decide +kernel
theorem dX5_readLeafLine_38 : decode cX5_readLeafLine 38 = .ok (.getfield 28, 3) := by decide +kernel
theorem dX5_readLeafLine_41 : decode cX5_readLeafLine 41 = .ok (.getfield 93, 3) := by decide +kernel
theorem dX5_readLeafLine_44 : decode cX5_readLeafLine 44 = .ok (.astore_n 3, 1) := by decide +kernel
theorem dX5_readLeafLine_45 : decode cX5_readLeafLine 45 = .ok (.aload_n 0, 1) := by decide +kernel
theorem dX5_readLeafLine_46 : decode cX5_readLeafLine 46 = .ok (.iconst 0, 1) := by decide +kernel
theorem dX5_readLeafLine_47 : decode cX5_readLeafLine 47 = .ok (.aload_n 3, 1) := by decide +kernel
theorem dX5_readLeafLine_48 : decode cX5_readLeafLine 48 = .ok (.getfield 240, 3) := by decide +kernel
theorem dX5_readLeafLine_51 : decode cX5_readLeafLine 51 = .ok (.iconst 1, 1) := by decide +kernel
theorem dX5_readLeafLine_52 : decode cX5_readLeafLine 52 = .ok (.isub, 1) := by decide +kernel
theorem dX5_readLeafLine_53 : decode cX5_readLeafLine 53 = .ok (.invokevirtual 84, 3) := by decide +kernel
theorem dX5_readLeafLine_56 : decode cX5_readLeafLine 56 = .ok (.ifCond .ne 5, 3) := by decide +kernel
theorem dX5_readLeafLine_59 : decode cX5_readLeafLine 59 = .ok (.iconst 0, 1) := by decide +kernel
theorem dX5_readLeafLine_60 : decode cX5_readLeafLine 60 = .ok (.ireturn, 1) := by decide +kernel
theorem dX5_readLeafLine_61 : decode cX5_readLeafLine 61 = .ok (.aload_n 0, 1) := by decide +kernel
theorem dX5_readLeafLine_62 : decode cX5_readLeafLine 62 = .ok (.getfield 12, 3) := by decide +kernel
theorem dX5_readLeafLine_65 : decode cX5_readLeafLine 65 = .ok (.getfield 72, 3) := by decide +kernel
theorem dX5_readLeafLine_68 : decode cX5_readLeafLine 68 = .ok (.istore 4, 2) := by decide +kernel
theorem dX5_readLeafLine_70 : decode cX5_readLeafLine 70 = .ok (.iload_n 1, 1) := by decide +kernel
theorem dX5_readLeafLine_71 : decode cX5_readLeafLine 71 = .ok (.ifCond .eq 21, 3) := by decide +kernel
theorem dX5_readLeafLine_74 : decode cX5_readLeafLine 74 = .ok (.aload_n 3, 1) := by decide +kernel
theorem dX5_readLeafLine_75 : decode cX5_readLeafLine 75 = .ok (.iload 4, 2) := by decide +kernel
theorem dX5_readLeafLine_77 : decode cX5_readLeafLine 77 = .ok (.invokevirtual 241, 3) := by decide +kernel
theorem dX5_readLeafLine_80 : decode cX5_readLeafLine 80 = .ok (.ifCond .ne 12, 3) := by decide +kernel
theorem dX5_readLeafLine_83 : decode cX5_readLeafLine 83 = .ok (.aload_n 3, 1) := by decide +kernel
theorem dX5_readLeafLine_84 : decode cX5_readLeafLine 84 = .ok (.iload 4, 2) := by decide +kernel
theorem dX5_readLeafLine_86 : decode cX5_readLeafLine 86 = .ok (.invokevirtual 244, 3) := by decide +kernel
theorem dX5_readLeafLine_89 : decode cX5_readLeafLine 89 = .ok (.goto 57, 3) := by decide +kernel
theorem dX5_readLeafLine_92 : decode cX5_readLeafLine 92 = .ok (.iload_n 2, 1) := by decide +kernel
theorem dX5_readLeafLine_93 : decode cX5_readLeafLine 93 = .ok (.ifCond .eq 21, 3) := by decide +kernel
theorem dX5_readLeafLine_96 : decode cX5_readLeafLine 96 = .ok (.aload_n 3, 1) := by decide +kernel
theorem dX5_readLeafLine_97 : decode cX5_readLeafLine 97 = .ok (.iload 4, 2) := by decide +kernel
theorem dX5_readLeafLine_99 : decode cX5_readLeafLine 99 = .ok (.invokevirtual 241, 3) := by decide +kernel
theorem dX5_readLeafLine_102 : decode cX5_readLeafLine 102 = .ok (.ifCond .eq 12, 3) := by decide +kernel
theorem dX5_readLeafLine_105 : decode cX5_readLeafLine 105 = .ok (.aload_n 3, 1) := by decide +kernel
theorem dX5_readLeafLine_106 : decode cX5_readLeafLine 106 = .ok (.iload 4, 2) := by decide +kernel
theorem dX5_readLeafLine_108 : decode cX5_readLeafLine 108 = .ok (.invokevirtual 247, 3) := by decide +kernel
theorem dX5_readLeafLine_111 : decode cX5_readLeafLine 111 = .ok (.goto 35, 3) := by decide +kernel
theorem dX5_readLeafLine_114 : decode cX5_readLeafLine 114 = .ok (.iload_n 1, 1) := by decide +kernel
theorem dX5_readLeafLine_115 : decode cX5_readLeafLine 115 = .ok (.ifCond .ne 25, 3) := by decide +kernel
theorem dX5_readLeafLine_118 : decode cX5_readLeafLine 118 = .ok (.iload_n 2, 1) := by decide +kernel
theorem dX5_readLeafLine_119 : decode cX5_readLeafLine 119 = .ok (.ifCond .ne 21, 3) := by decide +kernel
theorem dX5_readLeafLine_122 : decode cX5_readLeafLine 122 = .ok (.aload_n 3, 1) := by decide +kernel
theorem dX5_readLeafLine_123 : decode cX5_readLeafLine 123 = .ok (.iload 4, 2) := by decide +kernel
theorem dX5_readLeafLine_125 : decode cX5_readLeafLine 125 = .ok (.invokevirtual 250, 3) := by decide +kernel
theorem dX5_readLeafLine_128 : decode cX5_readLeafLine 128 = .ok (.ifCond .eq 12, 3) := by decide +kernel
theorem dX5_readLeafLine_131 : decode cX5_readLeafLine 131 = .ok (.aload_n 3, 1) := by decide +kernel
theorem dX5_readLeafLine_132 : decode cX5_readLeafLine 132 = .ok (.iload 4, 2) := by decide +kernel
theorem dX5_readLeafLine_134 : decode cX5_readLeafLine 134 = .ok (.invokevirtual 253, 3) := by decide +kernel
theorem dX5_readLeafLine_137 : decode cX5_readLeafLine 137 = .ok (.goto 9, 3) := by decide +kernel
theorem dX5_readLeafLine_140 : decode cX5_readLeafLine 140 = .ok (.aload_n 0, 1) := by decide +kernel
theorem dX5_readLeafLine_141 : decode cX5_readLeafLine 141 = .ok (.iconst 3, 1) := by decide +kernel
theorem dX5_readLeafLine_142 : decode cX5_readLeafLine 142 = .ok (.invokevirtual 51, 3) := by decide +kernel
theorem dX5_readLeafLine_145 : decode cX5_readLeafLine 145 = .ok (.ireturn, 1) := by decide +kernel
theorem dX5_readLeafLine_146 : decode cX5_readLeafLine 146 = .ok (.aload_n 0, 1) := by decide +kernel
theorem dX5_readLeafLine_147 : decode cX5_readLeafLine 147 = .ok (.invokevirtual 102, 3) := by decide +kernel
theorem dX5_readLeafLine_150 : decode cX5_readLeafLine 150 = .ok (.ireturn, 1) := by decide +kernel
theorem dX5_readLine_0 : decode cX5_readLine 0 = .ok (.aload_n 0, 1) := by decide +kernel
theorem dX5_readLine_1 : decode cX5_readLine 1 = .ok (.ldc 105, 2) := by decide +kernel
theorem dX5_readLine_3 : decode cX5_readLine 3 = .ok (.invokevirtual 80, 3) := by decide +kernel
theorem dX5_readLine_6 : decode cX5_readLine 6 = .ok (.ifCond .eq 8, 3) := by decide +kernel
theorem dX5_readLine_9 : decode cX5_readLine 9 = .ok (.aload_n 0, 1) := by decide +kernel
theorem dX5_readLine_10 : decode cX5_readLine 10 = .ok (.invokevirtual 107, 3) := by decide +kernel
theorem dX5_readLine_13 : decode cX5_readLine 13 = .ok (.ireturn, 1) := by decide +kernel
theorem dX5_readLine_14 : decode cX5_readLine 14 = .ok (.aload_n 0, 1) := by decide +kernel
theorem dX5_readLine_15 : decode cX5_readLine 15 = .ok (.ldc 110, 2) := by decide +kernel
theorem dX5_readLine_17 : decode cX5_readLine 17 = .ok (.invokevirtual 80, 3) := by decide +kernel
theorem dX5_readLine_20 : decode cX5_readLine 20 = .ok (.ifCond .eq 8, 3) := by decide +kernel
theorem dX5_readLine_23 : decode cX5_readLine 23 = .ok (.aload_n 0, 1) := by decide +kernel
theorem dX5_readLine_24 : decode cX5_readLine 24 = .ok (.invokevirtual 112, 3) := by decide +kernel
theorem dX5_readLine_27 : decode cX5_readLine 27 = .ok (.ireturn, 1) := by decide +kernel
theorem dX5_readLine_28 : decode cX5_readLine 28 = .ok (.aload_n 0, 1) := by decide +kernel
theorem dX5_readLine_29 : decode cX5_readLine 29 = .ok (.ldc 115, 2) := by decide +kernel
theorem dX5_readLine_31 : decode cX5_readLine 31 = .ok (.invokevirtual 80, 3) := by decide +kernel
theorem dX5_readLine_34 : decode cX5_readLine 34 = .ok (.ifCond .eq 8, 3) := by decide +kernel
theorem dX5_readLine_37 : decode cX5_readLine 37 = .ok (.aload_n 0, 1) := by decide +kernel
theorem dX5_readLine_38 : decode cX5_readLine 38 = .ok (.invokevirtual 117, 3) := by decide +kernel
theorem dX5_readLine_41 : decode cX5_readLine 41 = .ok (.ireturn, 1) := by decide +kernel
theorem dX5_readLine_42 : decode cX5_readLine 42 = .ok (.aload_n 0, 1) := by decide +kernel
theorem dX5_readLine_43 : decode cX5_readLine 43 = .ok (.ldc 120, 2) := by decide +kernel
theorem dX5_readLine_45 : decode cX5_readLine 45 = .ok (.invokevirtual 80, 3) := by decide +kernel
theorem dX5_readLine_48 : decode cX5_readLine 48 = .ok (.ifCond .eq 8, 3) := by decide +kernel
theorem dX5_readLine_51 : decode cX5_readLine 51 = .ok (.aload_n 0, 1) := by decide +kernel
theorem dX5_readLine_52 : decode cX5_readLine 52 = .ok (.invokevirtual 122, 3) := by decide +kernel
theorem dX5_readLine_55 : decode cX5_readLine 55 = .ok (.ireturn, 1) := by decide +kernel
theorem dX5_readLine_56 : decode cX5_readLine 56 = .ok (.aload_n 0, 1) := by decide +kernel
theorem dX5_readLine_57 : decode cX5_readLine 57 = .ok (.ldc 125, 2) := by decide +kernel
theorem dX5_readLine_59 : decode cX5_readLine 59 = .ok (.invokevirtual 80, 3) := by decide +kernel
theorem dX5_readLine_62 : decode cX5_readLine 62 = .ok (.ifCond .eq 8, 3) := by decide +kernel
theorem dX5_readLine_65 : decode cX5_readLine 65 = .ok (.aload_n 0, 1) := by decide +kernel
theorem dX5_readLine_66 : decode cX5_readLine 66 = .ok (.invokevirtual 127, 3) := by decide +kernel
theorem dX5_readLine_69 : decode cX5_readLine 69 = .ok (.ireturn, 1) := by decide +kernel
theorem dX5_readLine_70 : decode cX5_readLine 70 = .ok (.aload_n 0, 1) := by decide +kernel
theorem dX5_readLine_71 : decode cX5_readLine 71 = .ok (.ldc 130, 2) := by decide +kernel
theorem dX5_readLine_73 : decode cX5_readLine 73 = .ok (.invokevirtual 80, 3) := by decide +kernel
theorem dX5_readLine_76 : decode cX5_readLine 76 = .ok (.ifCond .eq 8, 3) := by decide +kernel
theorem dX5_readLine_79 : decode cX5_readLine 79 = .ok (.aload_n 0, 1) := by decide +kernel
theorem dX5_readLine_80 : decode cX5_readLine 80 = .ok (.invokevirtual 132, 3) := by decide +kernel
theorem dX5_readLine_83 : decode cX5_readLine 83 = .ok (.ireturn, 1) := by decide +kernel
theorem dX5_readLine_84 : decode cX5_readLine 84 = .ok (.aload_n 0, 1) := by decide +kernel
theorem dX5_readLine_85 : decode cX5_readLine 85 = .ok (.ldc 135, 2) := by decide +kernel
theorem dX5_readLine_87 : decode cX5_readLine 87 = .ok (.invokevirtual 80, 3) := by decide +kernel
theorem dX5_readLine_90 : decode cX5_readLine 90 = .ok (.ifCond .eq 8, 3) := by decide +kernel
theorem dX5_readLine_93 : decode cX5_readLine 93 = .ok (.aload_n 0, 1) := by decide +kernel
theorem dX5_readLine_94 : decode cX5_readLine 94 = .ok (.invokevirtual 137, 3) := by decide +kernel
theorem dX5_readLine_97 : decode cX5_readLine 97 = .ok (.ireturn, 1) := by decide +kernel
theorem dX5_readLine_98 : decode cX5_readLine 98 = .ok (.aload_n 0, 1) := by decide +kernel
theorem dX5_readLine_99 : decode cX5_readLine 99 = .ok (.ldc 140, 2) := by decide +kernel
theorem dX5_readLine_101 : decode cX5_readLine 101 = .ok (.invokevirtual 80, 3) := by decide +kernel
theorem dX5_readLine_104 : decode cX5_readLine 104 = .ok (.ifCond .eq 19, 3) := by decide +kernel
theorem dX5_readLine_107 : decode cX5_readLine 107 = .ok (.aload_n 0, 1) := by decide +kernel
theorem dX5_readLine_108 : decode cX5_readLine 108 = .ok (.getfield 28, 3) := by decide +kernel
theorem dX5_readLine_111 : decode cX5_readLine 111 = .ok (.getfield 93, 3) := by decide +kernel
theorem dX5_readLine_114 : decode cX5_readLine 114 = .ok (.invokevirtual 142, 3) := by decide +kernel
theorem dX5_readLine_117 : decode cX5_readLine 117 = .ok (.pop, 1) := by decide +kernel
theorem dX5_readLine_118 : decode cX5_readLine 118 = .ok (.aload_n 0, 1) := by decide +kernel
theorem dX5_readLine_119 : decode cX5_readLine 119 = .ok (.invokevirtual 102, 3) := by decide +kernel
theorem dX5_readLine_122 : decode cX5_readLine 122 = .ok (.ireturn, 1) := by decide +kernel
theorem dX5_readLine_123 : decode cX5_readLine 123 = .ok (.aload_n 0, 1) := by decide +kernel
theorem dX5_readLine_124 : decode cX5_readLine 124 = .ok (.invokevirtual 146, 3) := by decide +kernel
theorem dX5_readLine_127 : decode cX5_readLine 127 = .ok (.ireturn, 1) := by decide +kernel
theorem dX5_readText_0 : decode cX5_readText 0 = .ok (.aload_n 0, 1) := by decide +kernel
theorem dX5_readText_1 : decode cX5_readText 1 = .ok (.aload_n 3, 1) := by decide +kernel
theorem dX5_readText_2 : decode cX5_readText 2 = .ok (.putfield 28, 3) := by decide +kernel
theorem dX5_readText_5 : decode cX5_readText 5 = .ok (.aload_n 0, 1) := by decide +kernel
theorem dX5_readText_6 : decode cX5_readText 6 = .ok (.getfield 28, 3) := by decide +kernel
theorem dX5_readText_9 : decode cX5_readText 9 = .ok (.invokevirtual 32, 3) := by decide +kernel
theorem dX5_readText_12 : decode cX5_readText 12 = .ok (.aload_n 0, 1) := by decide +kernel
theorem dX5_readText_13 : decode cX5_readText 13 = .ok (.getfield 12, 3) := by decide +kernel
theorem dX5_readText_16 : decode cX5_readText 16 = .ok (.aload_n 1, 1) := by decide +kernel
theorem dX5_readText_17 : decode cX5_readText 17 = .ok (.iload_n 2, 1) := by decide +kernel
theorem dX5_readText_18 : decode cX5_readText 18 = .ok (.invokevirtual 37, 3) := by decide +kernel
theorem dX5_readText_21 : decode cX5_readText 21 = .ok (.aload_n 0, 1) := by decide +kernel
theorem dX5_readText_22 : decode cX5_readText 22 = .ok (.invokevirtual 41, 3) := by decide +kernel
theorem dX5_readText_25 : decode cX5_readText 25 = .ok (.ifCond .ne 5, 3) := by decide +kernel
theorem dX5_readText_28 : decode cX5_readText 28 = .ok (.iconst 0, 1) := by decide +kernel
theorem dX5_readText_29 : decode cX5_readText 29 = .ok (.ireturn, 1) := by decide +kernel
theorem dX5_readText_30 : decode cX5_readText 30 = .ok (.iconst 0, 1) := by decide +kernel
theorem dX5_readText_31 : decode cX5_readText 31 = .ok (.istore 4, 2) := by decide +kernel
theorem dX5_readText_33 : decode cX5_readText 33 = .ok (.iload 4, 2) := by decide +kernel
theorem dX5_readText_35 : decode cX5_readText 35 = .ok (.aload_n 0, 1) := by decide +kernel
theorem dX5_readText_36 : decode cX5_readText 36 = .ok (.getfield 12, 3) := by decide +kernel
theorem dX5_readText_39 : decode cX5_readText 39 = .ok (.getfield 45, 3) := by decide +kernel
theorem dX5_readText_42 : decode cX5_readText 42 = .ok (.if_icmp .gt 54, 3) := by decide +kernel
theorem dX5_readText_45 : decode cX5_readText 45 = .ok (.aload_n 0, 1) := by decide +kernel
theorem dX5_readText_46 : decode cX5_readText 46 = .ok (.getfield 12, 3) := by decide +kernel
theorem dX5_readText_49 : decode cX5_readText 49 = .ok (.getfield 48, 3) := by decide +kernel
theorem dX5_readText_52 : decode cX5_readText 52 = .ok (.ifCond .ne 5, 3) := by decide +kernel
theorem dX5_readText_55 : decode cX5_readText 55 = .ok (.iconst 1, 1) := by decide +kernel
theorem dX5_readText_56 : decode cX5_readText 56 = .ok (.ireturn, 1) := by decide +kernel
theorem dX5_readText_57 : decode cX5_readText 57 = .ok (.aload_n 0, 1) := by decide +kernel
theorem dX5_readText_58 : decode cX5_readText 58 = .ok (.getfield 12, 3) := by decide +kernel
theorem dX5_readText_61 : decode cX5_readText 61 = .ok (.getfield 48, 3) := by decide +kernel
theorem dX5_readText_64 : decode cX5_readText 64 = .ok (.iconst 3, 1) := by decide +kernel
theorem dX5_readText_65 : decode cX5_readText 65 = .ok (.if_icmp .eq 9, 3) := by decide +kernel
theorem dX5_readText_68 : decode cX5_readText 68 = .ok (.aload_n 0, 1) := by decide +kernel
theorem dX5_readText_69 : decode cX5_readText 69 = .ok (.iconst 1, 1) := by decide +kernel
theorem dX5_readText_70 : decode cX5_readText 70 = .ok (.invokevirtual 51, 3) := by decide +kernel
theorem dX5_readText_73 : decode cX5_readText 73 = .ok (.ireturn, 1) := by decide +kernel
theorem dX5_readText_74 : decode cX5_readText 74 = .ok (.aload_n 0, 1) := by decide +kernel
theorem dX5_readText_75 : decode cX5_readText 75 = .ok (.getfield 12, 3) := by decide +kernel
theorem dX5_readText_78 : decode cX5_readText 78 = .ok (.invokevirtual 55, 3) := by decide +kernel
theorem dX5_readText_81 : decode cX5_readText 81 = .ok (.aload_n 0, 1) := by decide +kernel
theorem dX5_readText_82 : decode cX5_readText 82 = .ok (.invokevirtual 58, 3) := by decide +kernel
theorem dX5_readText_85 : decode cX5_readText 85 = .ok (.ifCond .ne 5, 3) := by decide +kernel
theorem dX5_readText_88 : decode cX5_readText 88 = .ok (.iconst 0, 1) := by decide +kernel
theorem dX5_readText_89 : decode cX5_readText 89 = .ok (.ireturn, 1) := by decide +kernel
theorem dX5_readText_90 : decode cX5_readText 90 = .ok (.iinc 4 1, 3) := by decide +kernel
theorem dX5_readText_93 : decode cX5_readText 93 = .ok (.goto (-60), 3) := by decide +kernel
theorem dX5_readText_96 : decode cX5_readText 96 = .ok (.aload_n 0, 1) := by decide +kernel
theorem dX5_readText_97 : decode cX5_readText 97 = .ok (.iconst 1, 1) := by decide +kernel
theorem dX5_readText_98 : decode cX5_readText 98 = .ok (.invokevirtual 51, 3) := by decide +kernel
theorem dX5_readText_101 : decode cX5_readText 101 = .ok (.ireturn, 1) := by decide +kernel
theorem dX6_init_0 : decode cX6_init 0 = .ok (.aload_n 0, 1) := by decide +kernel
theorem dX6_init_1 : decode cX6_init 1 = .ok (.invokespecial 1, 3) := by decide +kernel
theorem dX6_init_4 : decode cX6_init 4 = .ok (.aload_n 0, 1) := by decide +kernel
theorem dX6_init_5 : decode cX6_init 5 = .ok (.new 7, 3) := by decide +kernel
theorem dX6_init_8 : decode cX6_init 8 = .ok (.dup, 1) := by decide +kernel
theorem dX6_init_9 : decode cX6_init 9 = .ok (.invokespecial 9, 3) := by decide +kernel
theorem dX6_init_12 : decode cX6_init 12 = .ok (.putfield 10, 3) := by decide +kernel
theorem dX6_init_15 : decode cX6_init 15 = .ok (.return_, 1) := by decide +kernel
theorem dX8_clausesFrom_0 : decode cX8_clausesFrom 0 = .ok (.iconst 0, 1) := by decide +kernel
theorem dX8_clausesFrom_1 : decode cX8_clausesFrom 1 = .ok (.istore_n 3, 1) := by decide +kernel
theorem dX8_clausesFrom_2 : decode cX8_clausesFrom 2 = .ok (.iload_n 1, 1) := by decide +kernel
theorem dX8_clausesFrom_3 : decode cX8_clausesFrom 3 = .ok (.istore 4, 2) := by decide +kernel
theorem dX8_clausesFrom_5 : decode cX8_clausesFrom 5 = .ok (.iload 4, 2) := by decide +kernel
theorem dX8_clausesFrom_7 : decode cX8_clausesFrom 7 = .ok (.iload_n 1, 1) := by decide +kernel
theorem dX8_clausesFrom_8 : decode cX8_clausesFrom 8 = .ok (.iload_n 2, 1) := by decide +kernel
theorem dX8_clausesFrom_9 : decode cX8_clausesFrom 9 = .ok (.iadd, 1) := by decide +kernel
theorem dX8_clausesFrom_10 : decode cX8_clausesFrom 10 = .ok (.if_icmp .ge 19, 3) := by decide +kernel
theorem dX8_clausesFrom_13 : decode cX8_clausesFrom 13 = .ok (.iload_n 3, 1) := by decide +kernel
theorem dX8_clausesFrom_14 : decode cX8_clausesFrom 14 = .ok (.aload_n 0, 1) := by decide +kernel
theorem dX8_clausesFrom_15 : decode cX8_clausesFrom 15 = .ok (.getfield 15, 3) := by decide +kernel
theorem dX8_clausesFrom_18 : decode cX8_clausesFrom 18 = .ok (.iload 4, 2) := by decide +kernel
theorem dX8_clausesFrom_20 : decode cX8_clausesFrom 20 = .ok (.iaload, 1) := by decide +kernel
theorem dX8_clausesFrom_21 : decode cX8_clausesFrom 21 = .ok (.iadd, 1) := by decide +kernel
theorem dX8_clausesFrom_22 : decode cX8_clausesFrom 22 = .ok (.istore_n 3, 1) := by decide +kernel
theorem dX8_clausesFrom_23 : decode cX8_clausesFrom 23 = .ok (.iinc 4 1, 3) := by decide +kernel
theorem dX8_clausesFrom_26 : decode cX8_clausesFrom 26 = .ok (.goto (-21), 3) := by decide +kernel
theorem dX8_clausesFrom_29 : decode cX8_clausesFrom 29 = .ok (.iload_n 3, 1) := by decide +kernel
theorem dX8_clausesFrom_30 : decode cX8_clausesFrom 30 = .ok (.ireturn, 1) := by decide +kernel
theorem dX8_greatestDepth_0 : decode cX8_greatestDepth 0 = .ok (.iconst 0, 1) := by decide +kernel
theorem dX8_greatestDepth_1 : decode cX8_greatestDepth 1 = .ok (.istore_n 3, 1) := by decide +kernel
theorem dX8_greatestDepth_2 : decode cX8_greatestDepth 2 = .ok (.iconst 0, 1) := by decide +kernel
theorem dX8_greatestDepth_3 : decode cX8_greatestDepth 3 = .ok (.istore 4, 2) := by decide +kernel
theorem dX8_greatestDepth_5 : decode cX8_greatestDepth 5 = .ok (.iload_n 1, 1) := by decide +kernel
theorem dX8_greatestDepth_6 : decode cX8_greatestDepth 6 = .ok (.istore 5, 2) := by decide +kernel
theorem dX8_greatestDepth_8 : decode cX8_greatestDepth 8 = .ok (.iload 5, 2) := by decide +kernel
theorem dX8_greatestDepth_10 : decode cX8_greatestDepth 10 = .ok (.iload_n 1, 1) := by decide +kernel
theorem dX8_greatestDepth_11 : decode cX8_greatestDepth 11 = .ok (.iload_n 2, 1) := by decide +kernel
theorem dX8_greatestDepth_12 : decode cX8_greatestDepth 12 = .ok (.iadd, 1) := by decide +kernel
theorem dX8_greatestDepth_13 : decode cX8_greatestDepth 13 = .ok (.if_icmp .ge 40, 3) := by decide +kernel
theorem dX8_greatestDepth_16 : decode cX8_greatestDepth 16 = .ok (.iload 4, 2) := by decide +kernel
theorem dX8_greatestDepth_18 : decode cX8_greatestDepth 18 = .ok (.aload_n 0, 1) := by decide +kernel
theorem dX8_greatestDepth_19 : decode cX8_greatestDepth 19 = .ok (.getfield 15, 3) := by decide +kernel
theorem dX8_greatestDepth_22 : decode cX8_greatestDepth 22 = .ok (.iload 5, 2) := by decide +kernel
theorem dX8_greatestDepth_24 : decode cX8_greatestDepth 24 = .ok (.iaload, 1) := by decide +kernel
theorem dX8_greatestDepth_25 : decode cX8_greatestDepth 25 = .ok (.iadd, 1) := by decide +kernel
theorem dX8_greatestDepth_26 : decode cX8_greatestDepth 26 = .ok (.istore 4, 2) := by decide +kernel
theorem dX8_greatestDepth_28 : decode cX8_greatestDepth 28 = .ok (.iload_n 3, 1) := by decide +kernel
theorem dX8_greatestDepth_29 : decode cX8_greatestDepth 29 = .ok (.iload 4, 2) := by decide +kernel
theorem dX8_greatestDepth_31 : decode cX8_greatestDepth 31 = .ok (.invokestatic 59, 3) := by decide +kernel
theorem dX8_greatestDepth_34 : decode cX8_greatestDepth 34 = .ok (.istore_n 3, 1) := by decide +kernel
theorem dX8_greatestDepth_35 : decode cX8_greatestDepth 35 = .ok (.iload 4, 2) := by decide +kernel
theorem dX8_greatestDepth_37 : decode cX8_greatestDepth 37 = .ok (.aload_n 0, 1) := by decide +kernel
theorem dX8_greatestDepth_38 : decode cX8_greatestDepth 38 = .ok (.getfield 19, 3) := by decide +kernel
theorem dX8_greatestDepth_41 : decode cX8_greatestDepth 41 = .ok (.iload 5, 2) := by decide +kernel
theorem dX8_greatestDepth_43 : decode cX8_greatestDepth 43 = .ok (.iaload, 1) := by decide +kernel
theorem dX8_greatestDepth_44 : decode cX8_greatestDepth 44 = .ok (.isub, 1) := by decide +kernel
theorem dX8_greatestDepth_45 : decode cX8_greatestDepth 45 = .ok (.istore 4, 2) := by decide +kernel
theorem dX8_greatestDepth_47 : decode cX8_greatestDepth 47 = .ok (.iinc 5 1, 3) := by decide +kernel
theorem dX8_greatestDepth_50 : decode cX8_greatestDepth 50 = .ok (.goto (-42), 3) := by decide +kernel
theorem dX8_greatestDepth_53 : decode cX8_greatestDepth 53 = .ok (.iload_n 3, 1) := by decide +kernel
theorem dX8_greatestDepth_54 : decode cX8_greatestDepth 54 = .ok (.ireturn, 1) := by decide +kernel
theorem dX9_init_0 : decode cX9_init 0 = .ok (.aload_n 0, 1) := by decide +kernel
theorem dX9_init_1 : decode cX9_init 1 = .ok (.invokespecial 1, 3) := by decide +kernel
theorem dX9_init_4 : decode cX9_init 4 = .ok (.aload_n 0, 1) := by decide +kernel
theorem dX9_init_5 : decode cX9_init 5 = .ok (.sipush 600, 3) := by decide +kernel
theorem dX9_init_8 : decode cX9_init 8 = .ok (.newarray .byte, 2) := by decide +kernel
theorem dX9_init_10 : decode cX9_init 10 = .ok (.putfield 9, 3) := by decide +kernel
theorem dX9_init_13 : decode cX9_init 13 = .ok (.aload_n 0, 1) := by decide +kernel
theorem dX9_init_14 : decode cX9_init 14 = .ok (.iconst (-1), 1) := by decide +kernel
theorem dX9_init_15 : decode cX9_init 15 = .ok (.putfield 13, 3) := by decide +kernel
theorem dX9_init_18 : decode cX9_init 18 = .ok (.aload_n 0, 1) := by decide +kernel
theorem dX9_init_19 : decode cX9_init 19 = .ok (.new 17, 3) := by decide +kernel
theorem dX9_init_22 : decode cX9_init 22 = .ok (.dup, 1) := by decide +kernel
theorem dX9_init_23 : decode cX9_init 23 = .ok (.invokespecial 19, 3) := by decide +kernel
theorem dX9_init_26 : decode cX9_init 26 = .ok (.putfield 20, 3) := by decide +kernel
theorem dX9_init_29 : decode cX9_init 29 = .ok (.aload_n 0, 1) := by decide +kernel
theorem dX9_init_30 : decode cX9_init 30 = .ok (.new 17, 3) := by decide +kernel
theorem dX9_init_33 : decode cX9_init 33 = .ok (.dup, 1) := by decide +kernel
theorem dX9_init_34 : decode cX9_init 34 = .ok (.invokespecial 19, 3) := by decide +kernel
theorem dX9_init_37 : decode cX9_init 37 = .ok (.putfield 24, 3) := by decide +kernel
theorem dX9_init_40 : decode cX9_init 40 = .ok (.aload_n 0, 1) := by decide +kernel
theorem dX9_init_41 : decode cX9_init 41 = .ok (.new 27, 3) := by decide +kernel
theorem dX9_init_44 : decode cX9_init 44 = .ok (.dup, 1) := by decide +kernel
theorem dX9_init_45 : decode cX9_init 45 = .ok (.invokespecial 29, 3) := by decide +kernel
theorem dX9_init_48 : decode cX9_init 48 = .ok (.putfield 30, 3) := by decide +kernel
theorem dX9_init_51 : decode cX9_init 51 = .ok (.aload_n 0, 1) := by decide +kernel
theorem dX9_init_52 : decode cX9_init 52 = .ok (.bipush 8, 2) := by decide +kernel
theorem dX9_init_54 : decode cX9_init 54 = .ok (.anewarray 17, 3) := by decide +kernel
theorem dX9_init_57 : decode cX9_init 57 = .ok (.putfield 34, 3) := by decide +kernel
theorem dX9_init_60 : decode cX9_init 60 = .ok (.aload_n 0, 1) := by decide +kernel
theorem dX9_init_61 : decode cX9_init 61 = .ok (.iconst 2, 1) := by decide +kernel
theorem dX9_init_62 : decode cX9_init 62 = .ok (.anewarray 17, 3) := by decide +kernel
theorem dX9_init_65 : decode cX9_init 65 = .ok (.putfield 38, 3) := by decide +kernel
theorem dX9_init_68 : decode cX9_init 68 = .ok (.aload_n 0, 1) := by decide +kernel
theorem dX9_init_69 : decode cX9_init 69 = .ok (.iconst 2, 1) := by decide +kernel
theorem dX9_init_70 : decode cX9_init 70 = .ok (.newarray .boolean, 2) := by decide +kernel
theorem dX9_init_72 : decode cX9_init 72 = .ok (.putfield 41, 3) := by decide +kernel
theorem dX9_init_75 : decode cX9_init 75 = .ok (.aload_n 0, 1) := by decide +kernel
theorem dX9_init_76 : decode cX9_init 76 = .ok (.new 45, 3) := by decide +kernel
theorem dX9_init_79 : decode cX9_init 79 = .ok (.dup, 1) := by decide +kernel
theorem dX9_init_80 : decode cX9_init 80 = .ok (.invokespecial 47, 3) := by decide +kernel
theorem dX9_init_83 : decode cX9_init 83 = .ok (.putfield 48, 3) := by decide +kernel
theorem dX9_init_86 : decode cX9_init 86 = .ok (.aload_n 0, 1) := by decide +kernel
theorem dX9_init_87 : decode cX9_init 87 = .ok (.new 52, 3) := by decide +kernel
theorem dX9_init_90 : decode cX9_init 90 = .ok (.dup, 1) := by decide +kernel
theorem dX9_init_91 : decode cX9_init 91 = .ok (.invokespecial 54, 3) := by decide +kernel
theorem dX9_init_94 : decode cX9_init 94 = .ok (.putfield 55, 3) := by decide +kernel
theorem dX9_init_97 : decode cX9_init 97 = .ok (.return_, 1) := by decide +kernel
theorem dX9_putFourBytes_0 : decode cX9_putFourBytes 0 = .ok (.bipush 24, 2) := by decide +kernel
theorem dX9_putFourBytes_2 : decode cX9_putFourBytes 2 = .ok (.istore_n 2, 1) := by decide +kernel
theorem dX9_putFourBytes_3 : decode cX9_putFourBytes 3 = .ok (.iload_n 2, 1) := by decide +kernel
theorem dX9_putFourBytes_4 : decode cX9_putFourBytes 4 = .ok (.ifCond .lt 42, 3) := by decide +kernel
theorem dX9_putFourBytes_7 : decode cX9_putFourBytes 7 = .ok (.aload_n 0, 1) := by decide +kernel
theorem dX9_putFourBytes_8 : decode cX9_putFourBytes 8 = .ok (.getfield 59, 3) := by decide +kernel
theorem dX9_putFourBytes_11 : decode cX9_putFourBytes 11 = .ok (.sipush 600, 3) := by decide +kernel
theorem dX9_putFourBytes_14 : decode cX9_putFourBytes 14 = .ok (.if_icmp .ge 32, 3) := by decide +kernel
theorem dX9_putFourBytes_17 : decode cX9_putFourBytes 17 = .ok (.aload_n 0, 1) := by decide +kernel
theorem dX9_putFourBytes_18 : decode cX9_putFourBytes 18 = .ok (.getfield 9, 3) := by decide +kernel
theorem dX9_putFourBytes_21 : decode cX9_putFourBytes 21 = .ok (.aload_n 0, 1) := by decide +kernel
theorem dX9_putFourBytes_22 : decode cX9_putFourBytes 22 = .ok (.getfield 59, 3) := by decide +kernel
theorem dX9_putFourBytes_25 : decode cX9_putFourBytes 25 = .ok (.iload_n 1, 1) := by decide +kernel
theorem dX9_putFourBytes_26 : decode cX9_putFourBytes 26 = .ok (.iload_n 2, 1) := by decide +kernel
theorem dX9_putFourBytes_27 : decode cX9_putFourBytes 27 = .ok (.ishr, 1) := by decide +kernel
theorem dX9_putFourBytes_28 : decode cX9_putFourBytes 28 = .ok (.i2b, 1) := by decide +kernel
theorem dX9_putFourBytes_29 : decode cX9_putFourBytes 29 = .ok (.bastore, 1) := by decide +kernel
theorem dX9_putFourBytes_30 : decode cX9_putFourBytes 30 = .ok (.aload_n 0, 1) := by decide +kernel
theorem dX9_putFourBytes_31 : decode cX9_putFourBytes 31 = .ok (.dup, 1) := by decide +kernel
theorem dX9_putFourBytes_32 : decode cX9_putFourBytes 32 = .ok (.getfield 59, 3) := by decide +kernel
theorem dX9_putFourBytes_35 : decode cX9_putFourBytes 35 = .ok (.iconst 1, 1) := by decide +kernel
theorem dX9_putFourBytes_36 : decode cX9_putFourBytes 36 = .ok (.iadd, 1) := by decide +kernel
theorem dX9_putFourBytes_37 : decode cX9_putFourBytes 37 = .ok (.putfield 59, 3) := by decide +kernel
theorem dX9_putFourBytes_40 : decode cX9_putFourBytes 40 = .ok (.iinc 2 (-8), 3) := by decide +kernel
theorem dX9_putFourBytes_43 : decode cX9_putFourBytes 43 = .ok (.goto (-40), 3) := by decide +kernel
theorem dX9_putFourBytes_46 : decode cX9_putFourBytes 46 = .ok (.return_, 1) := by decide +kernel
theorem dX9_append_0 : decode cX9_append 0 = .ok (.aload_n 0, 1) := by decide +kernel
theorem dX9_append_1 : decode cX9_append 1 = .ok (.getfield 59, 3) := by decide +kernel
theorem dX9_append_4 : decode cX9_append 4 = .ok (.bipush 20, 2) := by decide +kernel
theorem dX9_append_6 : decode cX9_append 6 = .ok (.iadd, 1) := by decide +kernel
theorem dX9_append_7 : decode cX9_append 7 = .ok (.sipush 600, 3) := by decide +kernel
theorem dX9_append_10 : decode cX9_append 10 = .ok (.if_icmp .le 5, 3) := by decide +kernel
theorem dX9_append_13 : decode cX9_append 13 = .ok (.iconst (-1), 1) := by decide +kernel
theorem dX9_append_14 : decode cX9_append 14 = .ok (.ireturn, 1) := by decide +kernel
theorem dX9_append_15 : decode cX9_append 15 = .ok (.aload_n 0, 1) := by decide +kernel
theorem dX9_append_16 : decode cX9_append 16 = .ok (.iload_n 1, 1) := by decide +kernel
theorem dX9_append_17 : decode cX9_append 17 = .ok (.invokevirtual 62, 3) := by decide +kernel
theorem dX9_append_20 : decode cX9_append 20 = .ok (.aload_n 0, 1) := by decide +kernel
theorem dX9_append_21 : decode cX9_append 21 = .ok (.iload_n 2, 1) := by decide +kernel
theorem dX9_append_22 : decode cX9_append 22 = .ok (.invokevirtual 62, 3) := by decide +kernel
theorem dX9_append_25 : decode cX9_append 25 = .ok (.aload_n 0, 1) := by decide +kernel
theorem dX9_append_26 : decode cX9_append 26 = .ok (.iload_n 3, 1) := by decide +kernel
theorem dX9_append_27 : decode cX9_append 27 = .ok (.invokevirtual 62, 3) := by decide +kernel
theorem dX9_append_30 : decode cX9_append 30 = .ok (.aload_n 0, 1) := by decide +kernel
theorem dX9_append_31 : decode cX9_append 31 = .ok (.iload 4, 2) := by decide +kernel
theorem dX9_append_33 : decode cX9_append 33 = .ok (.invokevirtual 62, 3) := by decide +kernel
theorem dX9_append_36 : decode cX9_append 36 = .ok (.aload_n 0, 1) := by decide +kernel
theorem dX9_append_37 : decode cX9_append 37 = .ok (.iload 5, 2) := by decide +kernel
theorem dX9_append_39 : decode cX9_append 39 = .ok (.invokevirtual 62, 3) := by decide +kernel
theorem dX9_append_42 : decode cX9_append 42 = .ok (.aload_n 0, 1) := by decide +kernel
theorem dX9_append_43 : decode cX9_append 43 = .ok (.getfield 59, 3) := by decide +kernel
theorem dX9_append_46 : decode cX9_append 46 = .ok (.ireturn, 1) := by decide +kernel
theorem dX9_requireBytes_0 : decode cX9_requireBytes 0 = .ok (.iload_n 1, 1) := by decide +kernel
theorem dX9_requireBytes_1 : decode cX9_requireBytes 1 = .ok (.ifCond .lt 11, 3) := by decide +kernel
theorem dX9_requireBytes_4 : decode cX9_requireBytes 4 = .ok (.iload_n 1, 1) := by decide +kernel
theorem dX9_requireBytes_5 : decode cX9_requireBytes 5 = .ok (.aload_n 0, 1) := by decide +kernel
theorem dX9_requireBytes_6 : decode cX9_requireBytes 6 = .ok (.getfield 59, 3) := by decide +kernel
theorem dX9_requireBytes_9 : decode cX9_requireBytes 9 = .ok (.if_icmp .le 14, 3) := by decide +kernel
theorem dX9_requireBytes_12 : decode cX9_requireBytes 12 = .ok (.new 238, 3) := by decide +kernel
theorem dX9_requireBytes_15 : decode cX9_requireBytes 15 = .ok (.dup, 1) := by decide +kernel
theorem dX9_requireBytes_16 : decode cX9_requireBytes 16 = .ok (.ldc_w 516, 3) := by decide +kernel
theorem dX9_requireBytes_19 : decode cX9_requireBytes 19 = .ok (.invokespecial 242, 3) := by decide +kernel
theorem dX9_requireBytes_22 : decode cX9_requireBytes 22 = .ok (.athrow, 1) := by decide +kernel
theorem dX9_requireBytes_23 : decode cX9_requireBytes 23 = .ok (.return_, 1) := by decide +kernel
theorem dX9_forgetPast_0 : decode cX9_forgetPast 0 = .ok (.aload_n 0, 1) := by decide +kernel
theorem dX9_forgetPast_1 : decode cX9_forgetPast 1 = .ok (.iconst 0, 1) := by decide +kernel
theorem dX9_forgetPast_2 : decode cX9_forgetPast 2 = .ok (.putfield 499, 3) := by decide +kernel
theorem dX9_forgetPast_5 : decode cX9_forgetPast 5 = .ok (.aload_n 0, 1) := by decide +kernel
theorem dX9_forgetPast_6 : decode cX9_forgetPast 6 = .ok (.iconst 0, 1) := by decide +kernel
theorem dX9_forgetPast_7 : decode cX9_forgetPast 7 = .ok (.putfield 491, 3) := by decide +kernel
theorem dX9_forgetPast_10 : decode cX9_forgetPast 10 = .ok (.return_, 1) := by decide +kernel
set_option maxRecDepth 100000 in
set_option maxHeartbeats 4000000 in
theorem cX5_readLeafLinec {l : Launch} {v0 : Option Nat} {σ : HpT} {r : Bool} {σ' : HpT} (h : fX5_readLeafLine v0 σ = some (r, σ')) : IsK σ v0 5 ∧ Ct l yX5_readLeafLine cX5_readLeafLine 5 (some .boolean) 6 129 [va_rf v0] σ (.ok (some (.int (bI r)))) σ' 0 0 := by
  unfold fX5_readLeafLine at h
  replace h := bnP_s h
  obtain ⟨u, hk, h⟩ := h
  replace hk := isK_s hk
  refine ⟨hk, ?_⟩
  refine ct_start mi_X5_readLeafLine.1 rfl (al_le (al_1 (rf_cat _) al_n) (Nat.le_of_ble_eq_true rfl)) (ag_1 (rf_cat _) ag_n) (fun Δ Γ B hE hnm => ?_)
  refine g_aload_n B 0 dX5_readLeafLine_0 rfl rfl ?_
  refine g_ldcS B (j := 13) rfl dX5_readLeafLine_1 ?_
  replace h := bnP_s h
  obtain ⟨x1, h2, h⟩ := h
  refine g_callVs0 (st := []) B (cX5_isAtWordc h2) (Nat.le_of_ble_eq_true rfl) rfl rfl mi_X5_isAtWord lk_RX5_80 ⟨Nat.le_of_ble_eq_true rfl, Nat.le_of_ble_eq_true rfl⟩ rfl rfl (Nat.le_of_ble_eq_true rfl) dX5_readLeafLine_3 (Nat.zero_le _) (Nat.zero_le _) ?_
  refine g_istore_n B dX5_readLeafLine_6 rfl (Nat.le_of_ble_eq_true rfl) (s1_c (f1_1 rfl (rf_cat _) f1_n)) ?_
  refine g_aload_n B 1 dX5_readLeafLine_7 rfl rfl ?_
  refine g_ldcS B (j := 14) rfl dX5_readLeafLine_8 ?_
  replace h := bnP_s h
  obtain ⟨x3, h4, h⟩ := h
  refine g_callVs0 (st := []) B (cX5_isAtWordc h4) (Nat.le_of_ble_eq_true rfl) rfl rfl mi_X5_isAtWord lk_RX5_80 ⟨Nat.le_of_ble_eq_true rfl, Nat.le_of_ble_eq_true rfl⟩ rfl rfl (Nat.le_of_ble_eq_true rfl) dX5_readLeafLine_10 (Nat.zero_le _) (Nat.zero_le _) ?_
  refine g_istore_n B dX5_readLeafLine_13 rfl (Nat.le_of_ble_eq_true rfl) (s1_c (f1_1 rfl rfl (f1_k rfl f1_n))) ?_
  refine g_iload_n B 1 dX5_readLeafLine_14 rfl rfl ?_
  refine g_if_ne B 37 dX5_readLeafLine_15 (by decide) (fun hc => ?_) (fun hc => ?_)
  · replace h := ifp (bI1 hc) h
    refine g_aload_n B 2 dX5_readLeafLine_37 rfl rfl ?_
    replace h := bnP_s h
    obtain ⟨x5, h6, h⟩ := h
    refine g_getR B fl_RX5_28 (by decide) dX5_readLeafLine_38 h6 ?_
    replace h := bnP_s h
    obtain ⟨x7, h8, h⟩ := h
    refine g_getRg B fl_RX5_93 (by decide) dX5_readLeafLine_41 h8 ?_
    refine g_astore_n B dX5_readLeafLine_44 rfl (Nat.le_of_ble_eq_true rfl) (s1_c (f1_1 rfl rfl (f1_k rfl (f1_k rfl f1_n)))) ?_
    refine g_aload_n B 3 dX5_readLeafLine_45 rfl rfl ?_
    refine g_iconst (v := 0) B dX5_readLeafLine_46 (by decide) ?_
    refine g_aload_n B 0 dX5_readLeafLine_47 rfl rfl ?_
    replace h := bnP_s h
    obtain ⟨x9, h10, h⟩ := h
    refine g_getI B fl_RX5_240 (by decide) dX5_readLeafLine_48 h10 ?_
    refine g_iconst (v := 1) B dX5_readLeafLine_51 (by decide) ?_
    refine g_isub B dX5_readLeafLine_52 ?_
    replace h := bnS_s h
    obtain ⟨x11, s13, h12, h⟩ := h
    refine g_callVs0 (st := []) B (cX5_checkNextNumberc h12) (Nat.le_of_ble_eq_true rfl) rfl rfl mi_X5_checkNextNumber lk_RX5_84 ⟨Nat.le_of_ble_eq_true rfl, Nat.le_of_ble_eq_true rfl⟩ rfl rfl (Nat.le_of_ble_eq_true rfl) dX5_readLeafLine_53 (Nat.zero_le _) (Nat.zero_le _) ?_
    refine g_if_ne B 61 dX5_readLeafLine_56 (by decide) (fun hc => ?_) (fun hc => ?_)
    · replace h := ifp (bI1 hc) h
      refine g_aload_n B 3 dX5_readLeafLine_61 rfl rfl ?_
      replace h := bnP_s h
      obtain ⟨x14, h15, h⟩ := h
      refine g_getR B fl_RX5_12 (by decide) dX5_readLeafLine_62 h15 ?_
      replace h := bnP_s h
      obtain ⟨x16, h17, h⟩ := h
      refine g_getI B fl_RX5_72 (by decide) dX5_readLeafLine_65 h17 ?_
      refine g_istore B dX5_readLeafLine_68 (Nat.le_of_ble_eq_true rfl) (s1_c (f1_1 rfl (rf_cat _) (f1_k rfl (f1_k rfl (f1_k rfl f1_n))))) ?_
      refine g_iload_n B 3 dX5_readLeafLine_70 rfl rfl ?_
      refine g_if_eq B 92 dX5_readLeafLine_71 (by decide) (fun hc => ?_) (fun hc => ?_)
      · replace h := ifn (bI0 hc) h
        refine g_iload_n B 2 dX5_readLeafLine_92 rfl rfl ?_
        refine g_if_eq B 114 dX5_readLeafLine_93 (by decide) (fun hc => ?_) (fun hc => ?_)
        · replace h := ifn (bI0 hc) h
          refine g_iload_n B 3 dX5_readLeafLine_114 rfl rfl ?_
          refine g_if_ne B 140 dX5_readLeafLine_115 (by decide) (fun hc => ?_) (fun hc => ?_)
          · replace h := ifp (bI1 hc) h
            refine g_aload_n B 4 dX5_readLeafLine_140 rfl rfl ?_
            refine g_iconst (v := 3) B dX5_readLeafLine_141 (by decide) ?_
            replace h := bnS_s h
            obtain ⟨x18, s20, h19, h⟩ := h
            refine g_callVs0 (st := []) B (cX5_failc h19) (Nat.le_of_ble_eq_true rfl) rfl rfl mi_X5_fail lk_RX5_51 ⟨Nat.le_of_ble_eq_true rfl, Nat.le_of_ble_eq_true rfl⟩ rfl rfl (Nat.le_of_ble_eq_true rfl) dX5_readLeafLine_142 (Nat.zero_le _) (Nat.zero_le _) ?_
            obtain ⟨w1, w2⟩ := inS h
            clear h
            subst w1
            subst w2
            exact g_zret B hE (nar_bI _) (Nat.zero_le _) (Nat.zero_le _) dX5_readLeafLine_145
          · replace h := ifn (bI0 hc) h
            refine g_iload_n B 2 dX5_readLeafLine_118 rfl rfl ?_
            refine g_if_ne B 140 dX5_readLeafLine_119 (by decide) (fun hc => ?_) (fun hc => ?_)
            · replace h := ifp (bI1 hc) h
              refine g_aload_n B 4 dX5_readLeafLine_140 rfl rfl ?_
              refine g_iconst (v := 3) B dX5_readLeafLine_141 (by decide) ?_
              replace h := bnS_s h
              obtain ⟨x21, s23, h22, h⟩ := h
              refine g_callVs0 (st := []) B (cX5_failc h22) (Nat.le_of_ble_eq_true rfl) rfl rfl mi_X5_fail lk_RX5_51 ⟨Nat.le_of_ble_eq_true rfl, Nat.le_of_ble_eq_true rfl⟩ rfl rfl (Nat.le_of_ble_eq_true rfl) dX5_readLeafLine_142 (Nat.zero_le _) (Nat.zero_le _) ?_
              obtain ⟨w1, w2⟩ := inS h
              clear h
              subst w1
              subst w2
              exact g_zret B hE (nar_bI _) (Nat.zero_le _) (Nat.zero_le _) dX5_readLeafLine_145
            · replace h := ifn (bI0 hc) h
              refine g_aload_n B 1 dX5_readLeafLine_122 rfl rfl ?_
              refine g_iload B 0 dX5_readLeafLine_123 rfl ?_
              replace h := bnP_s h
              obtain ⟨x24, h25, h⟩ := h
              refine g_callVs0 (st := []) B (cX4_isLoosec h25) (Nat.le_of_ble_eq_true rfl) rfl rfl mi_X4_isLoose lk_RX5_250 ⟨Nat.le_of_ble_eq_true rfl, Nat.le_of_ble_eq_true rfl⟩ rfl rfl (Nat.le_of_ble_eq_true rfl) dX5_readLeafLine_125 (Nat.zero_le _) (Nat.zero_le _) ?_
              refine g_if_eq B 140 dX5_readLeafLine_128 (by decide) (fun hc => ?_) (fun hc => ?_)
              · replace h := ifn (bI0 hc) h
                refine g_aload_n B 4 dX5_readLeafLine_140 rfl rfl ?_
                refine g_iconst (v := 3) B dX5_readLeafLine_141 (by decide) ?_
                replace h := bnS_s h
                obtain ⟨x26, s28, h27, h⟩ := h
                refine g_callVs0 (st := []) B (cX5_failc h27) (Nat.le_of_ble_eq_true rfl) rfl rfl mi_X5_fail lk_RX5_51 ⟨Nat.le_of_ble_eq_true rfl, Nat.le_of_ble_eq_true rfl⟩ rfl rfl (Nat.le_of_ble_eq_true rfl) dX5_readLeafLine_142 (Nat.zero_le _) (Nat.zero_le _) ?_
                obtain ⟨w1, w2⟩ := inS h
                clear h
                subst w1
                subst w2
                exact g_zret B hE (nar_bI _) (Nat.zero_le _) (Nat.zero_le _) dX5_readLeafLine_145
              · replace h := ifp (bI1 hc) h
                refine g_aload_n B 1 dX5_readLeafLine_131 rfl rfl ?_
                refine g_iload B 0 dX5_readLeafLine_132 rfl ?_
                replace h := bnP_s h
                obtain ⟨s31, h30, h⟩ := h
                refine g_callVv0 (st := []) B (cX4_fastenc h30) (Nat.le_of_ble_eq_true rfl) rfl rfl mi_X4_fasten lk_RX5_253 ⟨Nat.le_of_ble_eq_true rfl, Nat.le_of_ble_eq_true rfl⟩ rfl rfl (Nat.le_of_ble_eq_true rfl) dX5_readLeafLine_134 (Nat.zero_le _) (Nat.zero_le _) ?_
                refine g_goto B 146 dX5_readLeafLine_137 (by decide) ?_
                refine g_aload_n B 4 dX5_readLeafLine_146 rfl rfl ?_
                replace h := bnS_s h
                obtain ⟨x32, s34, h33, h⟩ := h
                refine g_callVs0 (st := []) B (cX5_finishLinec h33) (Nat.le_of_ble_eq_true rfl) rfl rfl mi_X5_finishLine lk_RX5_102 ⟨Nat.le_of_ble_eq_true rfl, Nat.le_of_ble_eq_true rfl⟩ rfl rfl (Nat.le_of_ble_eq_true rfl) dX5_readLeafLine_147 (Nat.zero_le _) (Nat.zero_le _) ?_
                obtain ⟨w1, w2⟩ := inS h
                clear h
                subst w1
                subst w2
                exact g_zret B hE (nar_bI _) (Nat.zero_le _) (Nat.zero_le _) dX5_readLeafLine_150
        · replace h := ifp (bI1 hc) h
          refine g_aload_n B 1 dX5_readLeafLine_96 rfl rfl ?_
          refine g_iload B 0 dX5_readLeafLine_97 rfl ?_
          replace h := bnP_s h
          obtain ⟨x35, h36, h⟩ := h
          refine g_callVs0 (st := []) B (cX4_isLostc h36) (Nat.le_of_ble_eq_true rfl) rfl rfl mi_X4_isLost lk_RX5_241 ⟨Nat.le_of_ble_eq_true rfl, Nat.le_of_ble_eq_true rfl⟩ rfl rfl (Nat.le_of_ble_eq_true rfl) dX5_readLeafLine_99 (Nat.zero_le _) (Nat.zero_le _) ?_
          refine g_if_eq B 114 dX5_readLeafLine_102 (by decide) (fun hc => ?_) (fun hc => ?_)
          · replace h := ifn (bI0 hc) h
            refine g_iload_n B 3 dX5_readLeafLine_114 rfl rfl ?_
            refine g_if_ne B 140 dX5_readLeafLine_115 (by decide) (fun hc => ?_) (fun hc => ?_)
            · replace h := ifp (bI1 hc) h
              refine g_aload_n B 4 dX5_readLeafLine_140 rfl rfl ?_
              refine g_iconst (v := 3) B dX5_readLeafLine_141 (by decide) ?_
              replace h := bnS_s h
              obtain ⟨x37, s39, h38, h⟩ := h
              refine g_callVs0 (st := []) B (cX5_failc h38) (Nat.le_of_ble_eq_true rfl) rfl rfl mi_X5_fail lk_RX5_51 ⟨Nat.le_of_ble_eq_true rfl, Nat.le_of_ble_eq_true rfl⟩ rfl rfl (Nat.le_of_ble_eq_true rfl) dX5_readLeafLine_142 (Nat.zero_le _) (Nat.zero_le _) ?_
              obtain ⟨w1, w2⟩ := inS h
              clear h
              subst w1
              subst w2
              exact g_zret B hE (nar_bI _) (Nat.zero_le _) (Nat.zero_le _) dX5_readLeafLine_145
            · replace h := ifn (bI0 hc) h
              refine g_iload_n B 2 dX5_readLeafLine_118 rfl rfl ?_
              refine g_if_ne B 140 dX5_readLeafLine_119 (by decide) (fun hc => ?_) (fun hc => ?_)
              · replace h := ifp (bI1 hc) h
                refine g_aload_n B 4 dX5_readLeafLine_140 rfl rfl ?_
                refine g_iconst (v := 3) B dX5_readLeafLine_141 (by decide) ?_
                replace h := bnS_s h
                obtain ⟨x40, s42, h41, h⟩ := h
                refine g_callVs0 (st := []) B (cX5_failc h41) (Nat.le_of_ble_eq_true rfl) rfl rfl mi_X5_fail lk_RX5_51 ⟨Nat.le_of_ble_eq_true rfl, Nat.le_of_ble_eq_true rfl⟩ rfl rfl (Nat.le_of_ble_eq_true rfl) dX5_readLeafLine_142 (Nat.zero_le _) (Nat.zero_le _) ?_
                obtain ⟨w1, w2⟩ := inS h
                clear h
                subst w1
                subst w2
                exact g_zret B hE (nar_bI _) (Nat.zero_le _) (Nat.zero_le _) dX5_readLeafLine_145
              · replace h := ifn (bI0 hc) h
                refine g_aload_n B 1 dX5_readLeafLine_122 rfl rfl ?_
                refine g_iload B 0 dX5_readLeafLine_123 rfl ?_
                replace h := bnP_s h
                obtain ⟨x43, h44, h⟩ := h
                refine g_callVs0 (st := []) B (cX4_isLoosec h44) (Nat.le_of_ble_eq_true rfl) rfl rfl mi_X4_isLoose lk_RX5_250 ⟨Nat.le_of_ble_eq_true rfl, Nat.le_of_ble_eq_true rfl⟩ rfl rfl (Nat.le_of_ble_eq_true rfl) dX5_readLeafLine_125 (Nat.zero_le _) (Nat.zero_le _) ?_
                refine g_if_eq B 140 dX5_readLeafLine_128 (by decide) (fun hc => ?_) (fun hc => ?_)
                · replace h := ifn (bI0 hc) h
                  refine g_aload_n B 4 dX5_readLeafLine_140 rfl rfl ?_
                  refine g_iconst (v := 3) B dX5_readLeafLine_141 (by decide) ?_
                  replace h := bnS_s h
                  obtain ⟨x45, s47, h46, h⟩ := h
                  refine g_callVs0 (st := []) B (cX5_failc h46) (Nat.le_of_ble_eq_true rfl) rfl rfl mi_X5_fail lk_RX5_51 ⟨Nat.le_of_ble_eq_true rfl, Nat.le_of_ble_eq_true rfl⟩ rfl rfl (Nat.le_of_ble_eq_true rfl) dX5_readLeafLine_142 (Nat.zero_le _) (Nat.zero_le _) ?_
                  obtain ⟨w1, w2⟩ := inS h
                  clear h
                  subst w1
                  subst w2
                  exact g_zret B hE (nar_bI _) (Nat.zero_le _) (Nat.zero_le _) dX5_readLeafLine_145
                · replace h := ifp (bI1 hc) h
                  refine g_aload_n B 1 dX5_readLeafLine_131 rfl rfl ?_
                  refine g_iload B 0 dX5_readLeafLine_132 rfl ?_
                  replace h := bnP_s h
                  obtain ⟨s50, h49, h⟩ := h
                  refine g_callVv0 (st := []) B (cX4_fastenc h49) (Nat.le_of_ble_eq_true rfl) rfl rfl mi_X4_fasten lk_RX5_253 ⟨Nat.le_of_ble_eq_true rfl, Nat.le_of_ble_eq_true rfl⟩ rfl rfl (Nat.le_of_ble_eq_true rfl) dX5_readLeafLine_134 (Nat.zero_le _) (Nat.zero_le _) ?_
                  refine g_goto B 146 dX5_readLeafLine_137 (by decide) ?_
                  refine g_aload_n B 4 dX5_readLeafLine_146 rfl rfl ?_
                  replace h := bnS_s h
                  obtain ⟨x51, s53, h52, h⟩ := h
                  refine g_callVs0 (st := []) B (cX5_finishLinec h52) (Nat.le_of_ble_eq_true rfl) rfl rfl mi_X5_finishLine lk_RX5_102 ⟨Nat.le_of_ble_eq_true rfl, Nat.le_of_ble_eq_true rfl⟩ rfl rfl (Nat.le_of_ble_eq_true rfl) dX5_readLeafLine_147 (Nat.zero_le _) (Nat.zero_le _) ?_
                  obtain ⟨w1, w2⟩ := inS h
                  clear h
                  subst w1
                  subst w2
                  exact g_zret B hE (nar_bI _) (Nat.zero_le _) (Nat.zero_le _) dX5_readLeafLine_150
          · replace h := ifp (bI1 hc) h
            refine g_aload_n B 1 dX5_readLeafLine_105 rfl rfl ?_
            refine g_iload B 0 dX5_readLeafLine_106 rfl ?_
            replace h := bnP_s h
            obtain ⟨s56, h55, h⟩ := h
            refine g_callVv0 (st := []) B (cX4_bringBackc h55) (Nat.le_of_ble_eq_true rfl) rfl rfl mi_X4_bringBack lk_RX5_247 ⟨Nat.le_of_ble_eq_true rfl, Nat.le_of_ble_eq_true rfl⟩ rfl rfl (Nat.le_of_ble_eq_true rfl) dX5_readLeafLine_108 (Nat.zero_le _) (Nat.zero_le _) ?_
            refine g_goto B 146 dX5_readLeafLine_111 (by decide) ?_
            refine g_aload_n B 4 dX5_readLeafLine_146 rfl rfl ?_
            replace h := bnS_s h
            obtain ⟨x57, s59, h58, h⟩ := h
            refine g_callVs0 (st := []) B (cX5_finishLinec h58) (Nat.le_of_ble_eq_true rfl) rfl rfl mi_X5_finishLine lk_RX5_102 ⟨Nat.le_of_ble_eq_true rfl, Nat.le_of_ble_eq_true rfl⟩ rfl rfl (Nat.le_of_ble_eq_true rfl) dX5_readLeafLine_147 (Nat.zero_le _) (Nat.zero_le _) ?_
            obtain ⟨w1, w2⟩ := inS h
            clear h
            subst w1
            subst w2
            exact g_zret B hE (nar_bI _) (Nat.zero_le _) (Nat.zero_le _) dX5_readLeafLine_150
      · replace h := ifp (bI1 hc) h
        refine g_aload_n B 1 dX5_readLeafLine_74 rfl rfl ?_
        refine g_iload B 0 dX5_readLeafLine_75 rfl ?_
        replace h := bnP_s h
        obtain ⟨x60, h61, h⟩ := h
        refine g_callVs0 (st := []) B (cX4_isLostc h61) (Nat.le_of_ble_eq_true rfl) rfl rfl mi_X4_isLost lk_RX5_241 ⟨Nat.le_of_ble_eq_true rfl, Nat.le_of_ble_eq_true rfl⟩ rfl rfl (Nat.le_of_ble_eq_true rfl) dX5_readLeafLine_77 (Nat.zero_le _) (Nat.zero_le _) ?_
        refine g_if_ne B 92 dX5_readLeafLine_80 (by decide) (fun hc => ?_) (fun hc => ?_)
        · replace h := ifp (bI1 hc) h
          refine g_iload_n B 2 dX5_readLeafLine_92 rfl rfl ?_
          refine g_if_eq B 114 dX5_readLeafLine_93 (by decide) (fun hc => ?_) (fun hc => ?_)
          · replace h := ifn (bI0 hc) h
            refine g_iload_n B 3 dX5_readLeafLine_114 rfl rfl ?_
            refine g_if_ne B 140 dX5_readLeafLine_115 (by decide) (fun hc => ?_) (fun hc => ?_)
            · replace h := ifp (bI1 hc) h
              refine g_aload_n B 4 dX5_readLeafLine_140 rfl rfl ?_
              refine g_iconst (v := 3) B dX5_readLeafLine_141 (by decide) ?_
              replace h := bnS_s h
              obtain ⟨x62, s64, h63, h⟩ := h
              refine g_callVs0 (st := []) B (cX5_failc h63) (Nat.le_of_ble_eq_true rfl) rfl rfl mi_X5_fail lk_RX5_51 ⟨Nat.le_of_ble_eq_true rfl, Nat.le_of_ble_eq_true rfl⟩ rfl rfl (Nat.le_of_ble_eq_true rfl) dX5_readLeafLine_142 (Nat.zero_le _) (Nat.zero_le _) ?_
              obtain ⟨w1, w2⟩ := inS h
              clear h
              subst w1
              subst w2
              exact g_zret B hE (nar_bI _) (Nat.zero_le _) (Nat.zero_le _) dX5_readLeafLine_145
            · replace h := ifn (bI0 hc) h
              refine g_iload_n B 2 dX5_readLeafLine_118 rfl rfl ?_
              refine g_if_ne B 140 dX5_readLeafLine_119 (by decide) (fun hc => ?_) (fun hc => ?_)
              · replace h := ifp (bI1 hc) h
                refine g_aload_n B 4 dX5_readLeafLine_140 rfl rfl ?_
                refine g_iconst (v := 3) B dX5_readLeafLine_141 (by decide) ?_
                replace h := bnS_s h
                obtain ⟨x65, s67, h66, h⟩ := h
                refine g_callVs0 (st := []) B (cX5_failc h66) (Nat.le_of_ble_eq_true rfl) rfl rfl mi_X5_fail lk_RX5_51 ⟨Nat.le_of_ble_eq_true rfl, Nat.le_of_ble_eq_true rfl⟩ rfl rfl (Nat.le_of_ble_eq_true rfl) dX5_readLeafLine_142 (Nat.zero_le _) (Nat.zero_le _) ?_
                obtain ⟨w1, w2⟩ := inS h
                clear h
                subst w1
                subst w2
                exact g_zret B hE (nar_bI _) (Nat.zero_le _) (Nat.zero_le _) dX5_readLeafLine_145
              · replace h := ifn (bI0 hc) h
                refine g_aload_n B 1 dX5_readLeafLine_122 rfl rfl ?_
                refine g_iload B 0 dX5_readLeafLine_123 rfl ?_
                replace h := bnP_s h
                obtain ⟨x68, h69, h⟩ := h
                refine g_callVs0 (st := []) B (cX4_isLoosec h69) (Nat.le_of_ble_eq_true rfl) rfl rfl mi_X4_isLoose lk_RX5_250 ⟨Nat.le_of_ble_eq_true rfl, Nat.le_of_ble_eq_true rfl⟩ rfl rfl (Nat.le_of_ble_eq_true rfl) dX5_readLeafLine_125 (Nat.zero_le _) (Nat.zero_le _) ?_
                refine g_if_eq B 140 dX5_readLeafLine_128 (by decide) (fun hc => ?_) (fun hc => ?_)
                · replace h := ifn (bI0 hc) h
                  refine g_aload_n B 4 dX5_readLeafLine_140 rfl rfl ?_
                  refine g_iconst (v := 3) B dX5_readLeafLine_141 (by decide) ?_
                  replace h := bnS_s h
                  obtain ⟨x70, s72, h71, h⟩ := h
                  refine g_callVs0 (st := []) B (cX5_failc h71) (Nat.le_of_ble_eq_true rfl) rfl rfl mi_X5_fail lk_RX5_51 ⟨Nat.le_of_ble_eq_true rfl, Nat.le_of_ble_eq_true rfl⟩ rfl rfl (Nat.le_of_ble_eq_true rfl) dX5_readLeafLine_142 (Nat.zero_le _) (Nat.zero_le _) ?_
                  obtain ⟨w1, w2⟩ := inS h
                  clear h
                  subst w1
                  subst w2
                  exact g_zret B hE (nar_bI _) (Nat.zero_le _) (Nat.zero_le _) dX5_readLeafLine_145
                · replace h := ifp (bI1 hc) h
                  refine g_aload_n B 1 dX5_readLeafLine_131 rfl rfl ?_
                  refine g_iload B 0 dX5_readLeafLine_132 rfl ?_
                  replace h := bnP_s h
                  obtain ⟨s75, h74, h⟩ := h
                  refine g_callVv0 (st := []) B (cX4_fastenc h74) (Nat.le_of_ble_eq_true rfl) rfl rfl mi_X4_fasten lk_RX5_253 ⟨Nat.le_of_ble_eq_true rfl, Nat.le_of_ble_eq_true rfl⟩ rfl rfl (Nat.le_of_ble_eq_true rfl) dX5_readLeafLine_134 (Nat.zero_le _) (Nat.zero_le _) ?_
                  refine g_goto B 146 dX5_readLeafLine_137 (by decide) ?_
                  refine g_aload_n B 4 dX5_readLeafLine_146 rfl rfl ?_
                  replace h := bnS_s h
                  obtain ⟨x76, s78, h77, h⟩ := h
                  refine g_callVs0 (st := []) B (cX5_finishLinec h77) (Nat.le_of_ble_eq_true rfl) rfl rfl mi_X5_finishLine lk_RX5_102 ⟨Nat.le_of_ble_eq_true rfl, Nat.le_of_ble_eq_true rfl⟩ rfl rfl (Nat.le_of_ble_eq_true rfl) dX5_readLeafLine_147 (Nat.zero_le _) (Nat.zero_le _) ?_
                  obtain ⟨w1, w2⟩ := inS h
                  clear h
                  subst w1
                  subst w2
                  exact g_zret B hE (nar_bI _) (Nat.zero_le _) (Nat.zero_le _) dX5_readLeafLine_150
          · replace h := ifp (bI1 hc) h
            refine g_aload_n B 1 dX5_readLeafLine_96 rfl rfl ?_
            refine g_iload B 0 dX5_readLeafLine_97 rfl ?_
            replace h := bnP_s h
            obtain ⟨x79, h80, h⟩ := h
            refine g_callVs0 (st := []) B (cX4_isLostc h80) (Nat.le_of_ble_eq_true rfl) rfl rfl mi_X4_isLost lk_RX5_241 ⟨Nat.le_of_ble_eq_true rfl, Nat.le_of_ble_eq_true rfl⟩ rfl rfl (Nat.le_of_ble_eq_true rfl) dX5_readLeafLine_99 (Nat.zero_le _) (Nat.zero_le _) ?_
            refine g_if_eq B 114 dX5_readLeafLine_102 (by decide) (fun hc => ?_) (fun hc => ?_)
            · replace h := ifn (bI0 hc) h
              refine g_iload_n B 3 dX5_readLeafLine_114 rfl rfl ?_
              refine g_if_ne B 140 dX5_readLeafLine_115 (by decide) (fun hc => ?_) (fun hc => ?_)
              · replace h := ifp (bI1 hc) h
                refine g_aload_n B 4 dX5_readLeafLine_140 rfl rfl ?_
                refine g_iconst (v := 3) B dX5_readLeafLine_141 (by decide) ?_
                replace h := bnS_s h
                obtain ⟨x81, s83, h82, h⟩ := h
                refine g_callVs0 (st := []) B (cX5_failc h82) (Nat.le_of_ble_eq_true rfl) rfl rfl mi_X5_fail lk_RX5_51 ⟨Nat.le_of_ble_eq_true rfl, Nat.le_of_ble_eq_true rfl⟩ rfl rfl (Nat.le_of_ble_eq_true rfl) dX5_readLeafLine_142 (Nat.zero_le _) (Nat.zero_le _) ?_
                obtain ⟨w1, w2⟩ := inS h
                clear h
                subst w1
                subst w2
                exact g_zret B hE (nar_bI _) (Nat.zero_le _) (Nat.zero_le _) dX5_readLeafLine_145
              · replace h := ifn (bI0 hc) h
                refine g_iload_n B 2 dX5_readLeafLine_118 rfl rfl ?_
                refine g_if_ne B 140 dX5_readLeafLine_119 (by decide) (fun hc => ?_) (fun hc => ?_)
                · replace h := ifp (bI1 hc) h
                  refine g_aload_n B 4 dX5_readLeafLine_140 rfl rfl ?_
                  refine g_iconst (v := 3) B dX5_readLeafLine_141 (by decide) ?_
                  replace h := bnS_s h
                  obtain ⟨x84, s86, h85, h⟩ := h
                  refine g_callVs0 (st := []) B (cX5_failc h85) (Nat.le_of_ble_eq_true rfl) rfl rfl mi_X5_fail lk_RX5_51 ⟨Nat.le_of_ble_eq_true rfl, Nat.le_of_ble_eq_true rfl⟩ rfl rfl (Nat.le_of_ble_eq_true rfl) dX5_readLeafLine_142 (Nat.zero_le _) (Nat.zero_le _) ?_
                  obtain ⟨w1, w2⟩ := inS h
                  clear h
                  subst w1
                  subst w2
                  exact g_zret B hE (nar_bI _) (Nat.zero_le _) (Nat.zero_le _) dX5_readLeafLine_145
                · replace h := ifn (bI0 hc) h
                  refine g_aload_n B 1 dX5_readLeafLine_122 rfl rfl ?_
                  refine g_iload B 0 dX5_readLeafLine_123 rfl ?_
                  replace h := bnP_s h
                  obtain ⟨x87, h88, h⟩ := h
                  refine g_callVs0 (st := []) B (cX4_isLoosec h88) (Nat.le_of_ble_eq_true rfl) rfl rfl mi_X4_isLoose lk_RX5_250 ⟨Nat.le_of_ble_eq_true rfl, Nat.le_of_ble_eq_true rfl⟩ rfl rfl (Nat.le_of_ble_eq_true rfl) dX5_readLeafLine_125 (Nat.zero_le _) (Nat.zero_le _) ?_
                  refine g_if_eq B 140 dX5_readLeafLine_128 (by decide) (fun hc => ?_) (fun hc => ?_)
                  · replace h := ifn (bI0 hc) h
                    refine g_aload_n B 4 dX5_readLeafLine_140 rfl rfl ?_
                    refine g_iconst (v := 3) B dX5_readLeafLine_141 (by decide) ?_
                    replace h := bnS_s h
                    obtain ⟨x89, s91, h90, h⟩ := h
                    refine g_callVs0 (st := []) B (cX5_failc h90) (Nat.le_of_ble_eq_true rfl) rfl rfl mi_X5_fail lk_RX5_51 ⟨Nat.le_of_ble_eq_true rfl, Nat.le_of_ble_eq_true rfl⟩ rfl rfl (Nat.le_of_ble_eq_true rfl) dX5_readLeafLine_142 (Nat.zero_le _) (Nat.zero_le _) ?_
                    obtain ⟨w1, w2⟩ := inS h
                    clear h
                    subst w1
                    subst w2
                    exact g_zret B hE (nar_bI _) (Nat.zero_le _) (Nat.zero_le _) dX5_readLeafLine_145
                  · replace h := ifp (bI1 hc) h
                    refine g_aload_n B 1 dX5_readLeafLine_131 rfl rfl ?_
                    refine g_iload B 0 dX5_readLeafLine_132 rfl ?_
                    replace h := bnP_s h
                    obtain ⟨s94, h93, h⟩ := h
                    refine g_callVv0 (st := []) B (cX4_fastenc h93) (Nat.le_of_ble_eq_true rfl) rfl rfl mi_X4_fasten lk_RX5_253 ⟨Nat.le_of_ble_eq_true rfl, Nat.le_of_ble_eq_true rfl⟩ rfl rfl (Nat.le_of_ble_eq_true rfl) dX5_readLeafLine_134 (Nat.zero_le _) (Nat.zero_le _) ?_
                    refine g_goto B 146 dX5_readLeafLine_137 (by decide) ?_
                    refine g_aload_n B 4 dX5_readLeafLine_146 rfl rfl ?_
                    replace h := bnS_s h
                    obtain ⟨x95, s97, h96, h⟩ := h
                    refine g_callVs0 (st := []) B (cX5_finishLinec h96) (Nat.le_of_ble_eq_true rfl) rfl rfl mi_X5_finishLine lk_RX5_102 ⟨Nat.le_of_ble_eq_true rfl, Nat.le_of_ble_eq_true rfl⟩ rfl rfl (Nat.le_of_ble_eq_true rfl) dX5_readLeafLine_147 (Nat.zero_le _) (Nat.zero_le _) ?_
                    obtain ⟨w1, w2⟩ := inS h
                    clear h
                    subst w1
                    subst w2
                    exact g_zret B hE (nar_bI _) (Nat.zero_le _) (Nat.zero_le _) dX5_readLeafLine_150
            · replace h := ifp (bI1 hc) h
              refine g_aload_n B 1 dX5_readLeafLine_105 rfl rfl ?_
              refine g_iload B 0 dX5_readLeafLine_106 rfl ?_
              replace h := bnP_s h
              obtain ⟨s100, h99, h⟩ := h
              refine g_callVv0 (st := []) B (cX4_bringBackc h99) (Nat.le_of_ble_eq_true rfl) rfl rfl mi_X4_bringBack lk_RX5_247 ⟨Nat.le_of_ble_eq_true rfl, Nat.le_of_ble_eq_true rfl⟩ rfl rfl (Nat.le_of_ble_eq_true rfl) dX5_readLeafLine_108 (Nat.zero_le _) (Nat.zero_le _) ?_
              refine g_goto B 146 dX5_readLeafLine_111 (by decide) ?_
              refine g_aload_n B 4 dX5_readLeafLine_146 rfl rfl ?_
              replace h := bnS_s h
              obtain ⟨x101, s103, h102, h⟩ := h
              refine g_callVs0 (st := []) B (cX5_finishLinec h102) (Nat.le_of_ble_eq_true rfl) rfl rfl mi_X5_finishLine lk_RX5_102 ⟨Nat.le_of_ble_eq_true rfl, Nat.le_of_ble_eq_true rfl⟩ rfl rfl (Nat.le_of_ble_eq_true rfl) dX5_readLeafLine_147 (Nat.zero_le _) (Nat.zero_le _) ?_
              obtain ⟨w1, w2⟩ := inS h
              clear h
              subst w1
              subst w2
              exact g_zret B hE (nar_bI _) (Nat.zero_le _) (Nat.zero_le _) dX5_readLeafLine_150
        · replace h := ifn (bI0 hc) h
          refine g_aload_n B 1 dX5_readLeafLine_83 rfl rfl ?_
          refine g_iload B 0 dX5_readLeafLine_84 rfl ?_
          replace h := bnP_s h
          obtain ⟨s106, h105, h⟩ := h
          refine g_callVv0 (st := []) B (cX4_dropc h105) (Nat.le_of_ble_eq_true rfl) rfl rfl mi_X4_drop lk_RX5_244 ⟨Nat.le_of_ble_eq_true rfl, Nat.le_of_ble_eq_true rfl⟩ rfl rfl (Nat.le_of_ble_eq_true rfl) dX5_readLeafLine_86 (Nat.zero_le _) (Nat.zero_le _) ?_
          refine g_goto B 146 dX5_readLeafLine_89 (by decide) ?_
          refine g_aload_n B 4 dX5_readLeafLine_146 rfl rfl ?_
          replace h := bnS_s h
          obtain ⟨x107, s109, h108, h⟩ := h
          refine g_callVs0 (st := []) B (cX5_finishLinec h108) (Nat.le_of_ble_eq_true rfl) rfl rfl mi_X5_finishLine lk_RX5_102 ⟨Nat.le_of_ble_eq_true rfl, Nat.le_of_ble_eq_true rfl⟩ rfl rfl (Nat.le_of_ble_eq_true rfl) dX5_readLeafLine_147 (Nat.zero_le _) (Nat.zero_le _) ?_
          obtain ⟨w1, w2⟩ := inS h
          clear h
          subst w1
          subst w2
          exact g_zret B hE (nar_bI _) (Nat.zero_le _) (Nat.zero_le _) dX5_readLeafLine_150
    · replace h := ifn (bI0 hc) h
      refine g_iconst (v := 0) B dX5_readLeafLine_59 (by decide) ?_
      obtain ⟨w1, w2⟩ := inS h
      clear h
      subst w1
      subst w2
      exact g_zret B hE rfl (Nat.zero_le _) (Nat.zero_le _) dX5_readLeafLine_60
  · replace h := ifn (bI0 hc) h
    refine g_iload_n B 0 dX5_readLeafLine_18 rfl rfl ?_
    refine g_if_ne B 37 dX5_readLeafLine_19 (by decide) (fun hc => ?_) (fun hc => ?_)
    · replace h := ifp (bI1 hc) h
      refine g_aload_n B 2 dX5_readLeafLine_37 rfl rfl ?_
      replace h := bnP_s h
      obtain ⟨x110, h111, h⟩ := h
      refine g_getR B fl_RX5_28 (by decide) dX5_readLeafLine_38 h111 ?_
      replace h := bnP_s h
      obtain ⟨x112, h113, h⟩ := h
      refine g_getRg B fl_RX5_93 (by decide) dX5_readLeafLine_41 h113 ?_
      refine g_astore_n B dX5_readLeafLine_44 rfl (Nat.le_of_ble_eq_true rfl) (s1_c (f1_1 rfl rfl (f1_k rfl (f1_k rfl f1_n)))) ?_
      refine g_aload_n B 3 dX5_readLeafLine_45 rfl rfl ?_
      refine g_iconst (v := 0) B dX5_readLeafLine_46 (by decide) ?_
      refine g_aload_n B 0 dX5_readLeafLine_47 rfl rfl ?_
      replace h := bnP_s h
      obtain ⟨x114, h115, h⟩ := h
      refine g_getI B fl_RX5_240 (by decide) dX5_readLeafLine_48 h115 ?_
      refine g_iconst (v := 1) B dX5_readLeafLine_51 (by decide) ?_
      refine g_isub B dX5_readLeafLine_52 ?_
      replace h := bnS_s h
      obtain ⟨x116, s118, h117, h⟩ := h
      refine g_callVs0 (st := []) B (cX5_checkNextNumberc h117) (Nat.le_of_ble_eq_true rfl) rfl rfl mi_X5_checkNextNumber lk_RX5_84 ⟨Nat.le_of_ble_eq_true rfl, Nat.le_of_ble_eq_true rfl⟩ rfl rfl (Nat.le_of_ble_eq_true rfl) dX5_readLeafLine_53 (Nat.zero_le _) (Nat.zero_le _) ?_
      refine g_if_ne B 61 dX5_readLeafLine_56 (by decide) (fun hc => ?_) (fun hc => ?_)
      · replace h := ifp (bI1 hc) h
        refine g_aload_n B 3 dX5_readLeafLine_61 rfl rfl ?_
        replace h := bnP_s h
        obtain ⟨x119, h120, h⟩ := h
        refine g_getR B fl_RX5_12 (by decide) dX5_readLeafLine_62 h120 ?_
        replace h := bnP_s h
        obtain ⟨x121, h122, h⟩ := h
        refine g_getI B fl_RX5_72 (by decide) dX5_readLeafLine_65 h122 ?_
        refine g_istore B dX5_readLeafLine_68 (Nat.le_of_ble_eq_true rfl) (s1_c (f1_1 rfl (rf_cat _) (f1_k rfl (f1_k rfl (f1_k rfl f1_n))))) ?_
        refine g_iload_n B 3 dX5_readLeafLine_70 rfl rfl ?_
        refine g_if_eq B 92 dX5_readLeafLine_71 (by decide) (fun hc => ?_) (fun hc => ?_)
        · replace h := ifn (bI0 hc) h
          refine g_iload_n B 2 dX5_readLeafLine_92 rfl rfl ?_
          refine g_if_eq B 114 dX5_readLeafLine_93 (by decide) (fun hc => ?_) (fun hc => ?_)
          · replace h := ifn (bI0 hc) h
            refine g_iload_n B 3 dX5_readLeafLine_114 rfl rfl ?_
            refine g_if_ne B 140 dX5_readLeafLine_115 (by decide) (fun hc => ?_) (fun hc => ?_)
            · replace h := ifp (bI1 hc) h
              refine g_aload_n B 4 dX5_readLeafLine_140 rfl rfl ?_
              refine g_iconst (v := 3) B dX5_readLeafLine_141 (by decide) ?_
              replace h := bnS_s h
              obtain ⟨x123, s125, h124, h⟩ := h
              refine g_callVs0 (st := []) B (cX5_failc h124) (Nat.le_of_ble_eq_true rfl) rfl rfl mi_X5_fail lk_RX5_51 ⟨Nat.le_of_ble_eq_true rfl, Nat.le_of_ble_eq_true rfl⟩ rfl rfl (Nat.le_of_ble_eq_true rfl) dX5_readLeafLine_142 (Nat.zero_le _) (Nat.zero_le _) ?_
              obtain ⟨w1, w2⟩ := inS h
              clear h
              subst w1
              subst w2
              exact g_zret B hE (nar_bI _) (Nat.zero_le _) (Nat.zero_le _) dX5_readLeafLine_145
            · replace h := ifn (bI0 hc) h
              refine g_iload_n B 2 dX5_readLeafLine_118 rfl rfl ?_
              refine g_if_ne B 140 dX5_readLeafLine_119 (by decide) (fun hc => ?_) (fun hc => ?_)
              · replace h := ifp (bI1 hc) h
                refine g_aload_n B 4 dX5_readLeafLine_140 rfl rfl ?_
                refine g_iconst (v := 3) B dX5_readLeafLine_141 (by decide) ?_
                replace h := bnS_s h
                obtain ⟨x126, s128, h127, h⟩ := h
                refine g_callVs0 (st := []) B (cX5_failc h127) (Nat.le_of_ble_eq_true rfl) rfl rfl mi_X5_fail lk_RX5_51 ⟨Nat.le_of_ble_eq_true rfl, Nat.le_of_ble_eq_true rfl⟩ rfl rfl (Nat.le_of_ble_eq_true rfl) dX5_readLeafLine_142 (Nat.zero_le _) (Nat.zero_le _) ?_
                obtain ⟨w1, w2⟩ := inS h
                clear h
                subst w1
                subst w2
                exact g_zret B hE (nar_bI _) (Nat.zero_le _) (Nat.zero_le _) dX5_readLeafLine_145
              · replace h := ifn (bI0 hc) h
                refine g_aload_n B 1 dX5_readLeafLine_122 rfl rfl ?_
                refine g_iload B 0 dX5_readLeafLine_123 rfl ?_
                replace h := bnP_s h
                obtain ⟨x129, h130, h⟩ := h
                refine g_callVs0 (st := []) B (cX4_isLoosec h130) (Nat.le_of_ble_eq_true rfl) rfl rfl mi_X4_isLoose lk_RX5_250 ⟨Nat.le_of_ble_eq_true rfl, Nat.le_of_ble_eq_true rfl⟩ rfl rfl (Nat.le_of_ble_eq_true rfl) dX5_readLeafLine_125 (Nat.zero_le _) (Nat.zero_le _) ?_
                refine g_if_eq B 140 dX5_readLeafLine_128 (by decide) (fun hc => ?_) (fun hc => ?_)
                · replace h := ifn (bI0 hc) h
                  refine g_aload_n B 4 dX5_readLeafLine_140 rfl rfl ?_
                  refine g_iconst (v := 3) B dX5_readLeafLine_141 (by decide) ?_
                  replace h := bnS_s h
                  obtain ⟨x131, s133, h132, h⟩ := h
                  refine g_callVs0 (st := []) B (cX5_failc h132) (Nat.le_of_ble_eq_true rfl) rfl rfl mi_X5_fail lk_RX5_51 ⟨Nat.le_of_ble_eq_true rfl, Nat.le_of_ble_eq_true rfl⟩ rfl rfl (Nat.le_of_ble_eq_true rfl) dX5_readLeafLine_142 (Nat.zero_le _) (Nat.zero_le _) ?_
                  obtain ⟨w1, w2⟩ := inS h
                  clear h
                  subst w1
                  subst w2
                  exact g_zret B hE (nar_bI _) (Nat.zero_le _) (Nat.zero_le _) dX5_readLeafLine_145
                · replace h := ifp (bI1 hc) h
                  refine g_aload_n B 1 dX5_readLeafLine_131 rfl rfl ?_
                  refine g_iload B 0 dX5_readLeafLine_132 rfl ?_
                  replace h := bnP_s h
                  obtain ⟨s136, h135, h⟩ := h
                  refine g_callVv0 (st := []) B (cX4_fastenc h135) (Nat.le_of_ble_eq_true rfl) rfl rfl mi_X4_fasten lk_RX5_253 ⟨Nat.le_of_ble_eq_true rfl, Nat.le_of_ble_eq_true rfl⟩ rfl rfl (Nat.le_of_ble_eq_true rfl) dX5_readLeafLine_134 (Nat.zero_le _) (Nat.zero_le _) ?_
                  refine g_goto B 146 dX5_readLeafLine_137 (by decide) ?_
                  refine g_aload_n B 4 dX5_readLeafLine_146 rfl rfl ?_
                  replace h := bnS_s h
                  obtain ⟨x137, s139, h138, h⟩ := h
                  refine g_callVs0 (st := []) B (cX5_finishLinec h138) (Nat.le_of_ble_eq_true rfl) rfl rfl mi_X5_finishLine lk_RX5_102 ⟨Nat.le_of_ble_eq_true rfl, Nat.le_of_ble_eq_true rfl⟩ rfl rfl (Nat.le_of_ble_eq_true rfl) dX5_readLeafLine_147 (Nat.zero_le _) (Nat.zero_le _) ?_
                  obtain ⟨w1, w2⟩ := inS h
                  clear h
                  subst w1
                  subst w2
                  exact g_zret B hE (nar_bI _) (Nat.zero_le _) (Nat.zero_le _) dX5_readLeafLine_150
          · replace h := ifp (bI1 hc) h
            refine g_aload_n B 1 dX5_readLeafLine_96 rfl rfl ?_
            refine g_iload B 0 dX5_readLeafLine_97 rfl ?_
            replace h := bnP_s h
            obtain ⟨x140, h141, h⟩ := h
            refine g_callVs0 (st := []) B (cX4_isLostc h141) (Nat.le_of_ble_eq_true rfl) rfl rfl mi_X4_isLost lk_RX5_241 ⟨Nat.le_of_ble_eq_true rfl, Nat.le_of_ble_eq_true rfl⟩ rfl rfl (Nat.le_of_ble_eq_true rfl) dX5_readLeafLine_99 (Nat.zero_le _) (Nat.zero_le _) ?_
            refine g_if_eq B 114 dX5_readLeafLine_102 (by decide) (fun hc => ?_) (fun hc => ?_)
            · replace h := ifn (bI0 hc) h
              refine g_iload_n B 3 dX5_readLeafLine_114 rfl rfl ?_
              refine g_if_ne B 140 dX5_readLeafLine_115 (by decide) (fun hc => ?_) (fun hc => ?_)
              · replace h := ifp (bI1 hc) h
                refine g_aload_n B 4 dX5_readLeafLine_140 rfl rfl ?_
                refine g_iconst (v := 3) B dX5_readLeafLine_141 (by decide) ?_
                replace h := bnS_s h
                obtain ⟨x142, s144, h143, h⟩ := h
                refine g_callVs0 (st := []) B (cX5_failc h143) (Nat.le_of_ble_eq_true rfl) rfl rfl mi_X5_fail lk_RX5_51 ⟨Nat.le_of_ble_eq_true rfl, Nat.le_of_ble_eq_true rfl⟩ rfl rfl (Nat.le_of_ble_eq_true rfl) dX5_readLeafLine_142 (Nat.zero_le _) (Nat.zero_le _) ?_
                obtain ⟨w1, w2⟩ := inS h
                clear h
                subst w1
                subst w2
                exact g_zret B hE (nar_bI _) (Nat.zero_le _) (Nat.zero_le _) dX5_readLeafLine_145
              · replace h := ifn (bI0 hc) h
                refine g_iload_n B 2 dX5_readLeafLine_118 rfl rfl ?_
                refine g_if_ne B 140 dX5_readLeafLine_119 (by decide) (fun hc => ?_) (fun hc => ?_)
                · replace h := ifp (bI1 hc) h
                  refine g_aload_n B 4 dX5_readLeafLine_140 rfl rfl ?_
                  refine g_iconst (v := 3) B dX5_readLeafLine_141 (by decide) ?_
                  replace h := bnS_s h
                  obtain ⟨x145, s147, h146, h⟩ := h
                  refine g_callVs0 (st := []) B (cX5_failc h146) (Nat.le_of_ble_eq_true rfl) rfl rfl mi_X5_fail lk_RX5_51 ⟨Nat.le_of_ble_eq_true rfl, Nat.le_of_ble_eq_true rfl⟩ rfl rfl (Nat.le_of_ble_eq_true rfl) dX5_readLeafLine_142 (Nat.zero_le _) (Nat.zero_le _) ?_
                  obtain ⟨w1, w2⟩ := inS h
                  clear h
                  subst w1
                  subst w2
                  exact g_zret B hE (nar_bI _) (Nat.zero_le _) (Nat.zero_le _) dX5_readLeafLine_145
                · replace h := ifn (bI0 hc) h
                  refine g_aload_n B 1 dX5_readLeafLine_122 rfl rfl ?_
                  refine g_iload B 0 dX5_readLeafLine_123 rfl ?_
                  replace h := bnP_s h
                  obtain ⟨x148, h149, h⟩ := h
                  refine g_callVs0 (st := []) B (cX4_isLoosec h149) (Nat.le_of_ble_eq_true rfl) rfl rfl mi_X4_isLoose lk_RX5_250 ⟨Nat.le_of_ble_eq_true rfl, Nat.le_of_ble_eq_true rfl⟩ rfl rfl (Nat.le_of_ble_eq_true rfl) dX5_readLeafLine_125 (Nat.zero_le _) (Nat.zero_le _) ?_
                  refine g_if_eq B 140 dX5_readLeafLine_128 (by decide) (fun hc => ?_) (fun hc => ?_)
                  · replace h := ifn (bI0 hc) h
                    refine g_aload_n B 4 dX5_readLeafLine_140 rfl rfl ?_
                    refine g_iconst (v := 3) B dX5_readLeafLine_141 (by decide) ?_
                    replace h := bnS_s h
                    obtain ⟨x150, s152, h151, h⟩ := h
                    refine g_callVs0 (st := []) B (cX5_failc h151) (Nat.le_of_ble_eq_true rfl) rfl rfl mi_X5_fail lk_RX5_51 ⟨Nat.le_of_ble_eq_true rfl, Nat.le_of_ble_eq_true rfl⟩ rfl rfl (Nat.le_of_ble_eq_true rfl) dX5_readLeafLine_142 (Nat.zero_le _) (Nat.zero_le _) ?_
                    obtain ⟨w1, w2⟩ := inS h
                    clear h
                    subst w1
                    subst w2
                    exact g_zret B hE (nar_bI _) (Nat.zero_le _) (Nat.zero_le _) dX5_readLeafLine_145
                  · replace h := ifp (bI1 hc) h
                    refine g_aload_n B 1 dX5_readLeafLine_131 rfl rfl ?_
                    refine g_iload B 0 dX5_readLeafLine_132 rfl ?_
                    replace h := bnP_s h
                    obtain ⟨s155, h154, h⟩ := h
                    refine g_callVv0 (st := []) B (cX4_fastenc h154) (Nat.le_of_ble_eq_true rfl) rfl rfl mi_X4_fasten lk_RX5_253 ⟨Nat.le_of_ble_eq_true rfl, Nat.le_of_ble_eq_true rfl⟩ rfl rfl (Nat.le_of_ble_eq_true rfl) dX5_readLeafLine_134 (Nat.zero_le _) (Nat.zero_le _) ?_
                    refine g_goto B 146 dX5_readLeafLine_137 (by decide) ?_
                    refine g_aload_n B 4 dX5_readLeafLine_146 rfl rfl ?_
                    replace h := bnS_s h
                    obtain ⟨x156, s158, h157, h⟩ := h
                    refine g_callVs0 (st := []) B (cX5_finishLinec h157) (Nat.le_of_ble_eq_true rfl) rfl rfl mi_X5_finishLine lk_RX5_102 ⟨Nat.le_of_ble_eq_true rfl, Nat.le_of_ble_eq_true rfl⟩ rfl rfl (Nat.le_of_ble_eq_true rfl) dX5_readLeafLine_147 (Nat.zero_le _) (Nat.zero_le _) ?_
                    obtain ⟨w1, w2⟩ := inS h
                    clear h
                    subst w1
                    subst w2
                    exact g_zret B hE (nar_bI _) (Nat.zero_le _) (Nat.zero_le _) dX5_readLeafLine_150
            · replace h := ifp (bI1 hc) h
              refine g_aload_n B 1 dX5_readLeafLine_105 rfl rfl ?_
              refine g_iload B 0 dX5_readLeafLine_106 rfl ?_
              replace h := bnP_s h
              obtain ⟨s161, h160, h⟩ := h
              refine g_callVv0 (st := []) B (cX4_bringBackc h160) (Nat.le_of_ble_eq_true rfl) rfl rfl mi_X4_bringBack lk_RX5_247 ⟨Nat.le_of_ble_eq_true rfl, Nat.le_of_ble_eq_true rfl⟩ rfl rfl (Nat.le_of_ble_eq_true rfl) dX5_readLeafLine_108 (Nat.zero_le _) (Nat.zero_le _) ?_
              refine g_goto B 146 dX5_readLeafLine_111 (by decide) ?_
              refine g_aload_n B 4 dX5_readLeafLine_146 rfl rfl ?_
              replace h := bnS_s h
              obtain ⟨x162, s164, h163, h⟩ := h
              refine g_callVs0 (st := []) B (cX5_finishLinec h163) (Nat.le_of_ble_eq_true rfl) rfl rfl mi_X5_finishLine lk_RX5_102 ⟨Nat.le_of_ble_eq_true rfl, Nat.le_of_ble_eq_true rfl⟩ rfl rfl (Nat.le_of_ble_eq_true rfl) dX5_readLeafLine_147 (Nat.zero_le _) (Nat.zero_le _) ?_
              obtain ⟨w1, w2⟩ := inS h
              clear h
              subst w1
              subst w2
              exact g_zret B hE (nar_bI _) (Nat.zero_le _) (Nat.zero_le _) dX5_readLeafLine_150
        · replace h := ifp (bI1 hc) h
          refine g_aload_n B 1 dX5_readLeafLine_74 rfl rfl ?_
          refine g_iload B 0 dX5_readLeafLine_75 rfl ?_
          replace h := bnP_s h
          obtain ⟨x165, h166, h⟩ := h
          refine g_callVs0 (st := []) B (cX4_isLostc h166) (Nat.le_of_ble_eq_true rfl) rfl rfl mi_X4_isLost lk_RX5_241 ⟨Nat.le_of_ble_eq_true rfl, Nat.le_of_ble_eq_true rfl⟩ rfl rfl (Nat.le_of_ble_eq_true rfl) dX5_readLeafLine_77 (Nat.zero_le _) (Nat.zero_le _) ?_
          refine g_if_ne B 92 dX5_readLeafLine_80 (by decide) (fun hc => ?_) (fun hc => ?_)
          · replace h := ifp (bI1 hc) h
            refine g_iload_n B 2 dX5_readLeafLine_92 rfl rfl ?_
            refine g_if_eq B 114 dX5_readLeafLine_93 (by decide) (fun hc => ?_) (fun hc => ?_)
            · replace h := ifn (bI0 hc) h
              refine g_iload_n B 3 dX5_readLeafLine_114 rfl rfl ?_
              refine g_if_ne B 140 dX5_readLeafLine_115 (by decide) (fun hc => ?_) (fun hc => ?_)
              · replace h := ifp (bI1 hc) h
                refine g_aload_n B 4 dX5_readLeafLine_140 rfl rfl ?_
                refine g_iconst (v := 3) B dX5_readLeafLine_141 (by decide) ?_
                replace h := bnS_s h
                obtain ⟨x167, s169, h168, h⟩ := h
                refine g_callVs0 (st := []) B (cX5_failc h168) (Nat.le_of_ble_eq_true rfl) rfl rfl mi_X5_fail lk_RX5_51 ⟨Nat.le_of_ble_eq_true rfl, Nat.le_of_ble_eq_true rfl⟩ rfl rfl (Nat.le_of_ble_eq_true rfl) dX5_readLeafLine_142 (Nat.zero_le _) (Nat.zero_le _) ?_
                obtain ⟨w1, w2⟩ := inS h
                clear h
                subst w1
                subst w2
                exact g_zret B hE (nar_bI _) (Nat.zero_le _) (Nat.zero_le _) dX5_readLeafLine_145
              · replace h := ifn (bI0 hc) h
                refine g_iload_n B 2 dX5_readLeafLine_118 rfl rfl ?_
                refine g_if_ne B 140 dX5_readLeafLine_119 (by decide) (fun hc => ?_) (fun hc => ?_)
                · replace h := ifp (bI1 hc) h
                  refine g_aload_n B 4 dX5_readLeafLine_140 rfl rfl ?_
                  refine g_iconst (v := 3) B dX5_readLeafLine_141 (by decide) ?_
                  replace h := bnS_s h
                  obtain ⟨x170, s172, h171, h⟩ := h
                  refine g_callVs0 (st := []) B (cX5_failc h171) (Nat.le_of_ble_eq_true rfl) rfl rfl mi_X5_fail lk_RX5_51 ⟨Nat.le_of_ble_eq_true rfl, Nat.le_of_ble_eq_true rfl⟩ rfl rfl (Nat.le_of_ble_eq_true rfl) dX5_readLeafLine_142 (Nat.zero_le _) (Nat.zero_le _) ?_
                  obtain ⟨w1, w2⟩ := inS h
                  clear h
                  subst w1
                  subst w2
                  exact g_zret B hE (nar_bI _) (Nat.zero_le _) (Nat.zero_le _) dX5_readLeafLine_145
                · replace h := ifn (bI0 hc) h
                  refine g_aload_n B 1 dX5_readLeafLine_122 rfl rfl ?_
                  refine g_iload B 0 dX5_readLeafLine_123 rfl ?_
                  replace h := bnP_s h
                  obtain ⟨x173, h174, h⟩ := h
                  refine g_callVs0 (st := []) B (cX4_isLoosec h174) (Nat.le_of_ble_eq_true rfl) rfl rfl mi_X4_isLoose lk_RX5_250 ⟨Nat.le_of_ble_eq_true rfl, Nat.le_of_ble_eq_true rfl⟩ rfl rfl (Nat.le_of_ble_eq_true rfl) dX5_readLeafLine_125 (Nat.zero_le _) (Nat.zero_le _) ?_
                  refine g_if_eq B 140 dX5_readLeafLine_128 (by decide) (fun hc => ?_) (fun hc => ?_)
                  · replace h := ifn (bI0 hc) h
                    refine g_aload_n B 4 dX5_readLeafLine_140 rfl rfl ?_
                    refine g_iconst (v := 3) B dX5_readLeafLine_141 (by decide) ?_
                    replace h := bnS_s h
                    obtain ⟨x175, s177, h176, h⟩ := h
                    refine g_callVs0 (st := []) B (cX5_failc h176) (Nat.le_of_ble_eq_true rfl) rfl rfl mi_X5_fail lk_RX5_51 ⟨Nat.le_of_ble_eq_true rfl, Nat.le_of_ble_eq_true rfl⟩ rfl rfl (Nat.le_of_ble_eq_true rfl) dX5_readLeafLine_142 (Nat.zero_le _) (Nat.zero_le _) ?_
                    obtain ⟨w1, w2⟩ := inS h
                    clear h
                    subst w1
                    subst w2
                    exact g_zret B hE (nar_bI _) (Nat.zero_le _) (Nat.zero_le _) dX5_readLeafLine_145
                  · replace h := ifp (bI1 hc) h
                    refine g_aload_n B 1 dX5_readLeafLine_131 rfl rfl ?_
                    refine g_iload B 0 dX5_readLeafLine_132 rfl ?_
                    replace h := bnP_s h
                    obtain ⟨s180, h179, h⟩ := h
                    refine g_callVv0 (st := []) B (cX4_fastenc h179) (Nat.le_of_ble_eq_true rfl) rfl rfl mi_X4_fasten lk_RX5_253 ⟨Nat.le_of_ble_eq_true rfl, Nat.le_of_ble_eq_true rfl⟩ rfl rfl (Nat.le_of_ble_eq_true rfl) dX5_readLeafLine_134 (Nat.zero_le _) (Nat.zero_le _) ?_
                    refine g_goto B 146 dX5_readLeafLine_137 (by decide) ?_
                    refine g_aload_n B 4 dX5_readLeafLine_146 rfl rfl ?_
                    replace h := bnS_s h
                    obtain ⟨x181, s183, h182, h⟩ := h
                    refine g_callVs0 (st := []) B (cX5_finishLinec h182) (Nat.le_of_ble_eq_true rfl) rfl rfl mi_X5_finishLine lk_RX5_102 ⟨Nat.le_of_ble_eq_true rfl, Nat.le_of_ble_eq_true rfl⟩ rfl rfl (Nat.le_of_ble_eq_true rfl) dX5_readLeafLine_147 (Nat.zero_le _) (Nat.zero_le _) ?_
                    obtain ⟨w1, w2⟩ := inS h
                    clear h
                    subst w1
                    subst w2
                    exact g_zret B hE (nar_bI _) (Nat.zero_le _) (Nat.zero_le _) dX5_readLeafLine_150
            · replace h := ifp (bI1 hc) h
              refine g_aload_n B 1 dX5_readLeafLine_96 rfl rfl ?_
              refine g_iload B 0 dX5_readLeafLine_97 rfl ?_
              replace h := bnP_s h
              obtain ⟨x184, h185, h⟩ := h
              refine g_callVs0 (st := []) B (cX4_isLostc h185) (Nat.le_of_ble_eq_true rfl) rfl rfl mi_X4_isLost lk_RX5_241 ⟨Nat.le_of_ble_eq_true rfl, Nat.le_of_ble_eq_true rfl⟩ rfl rfl (Nat.le_of_ble_eq_true rfl) dX5_readLeafLine_99 (Nat.zero_le _) (Nat.zero_le _) ?_
              refine g_if_eq B 114 dX5_readLeafLine_102 (by decide) (fun hc => ?_) (fun hc => ?_)
              · replace h := ifn (bI0 hc) h
                refine g_iload_n B 3 dX5_readLeafLine_114 rfl rfl ?_
                refine g_if_ne B 140 dX5_readLeafLine_115 (by decide) (fun hc => ?_) (fun hc => ?_)
                · replace h := ifp (bI1 hc) h
                  refine g_aload_n B 4 dX5_readLeafLine_140 rfl rfl ?_
                  refine g_iconst (v := 3) B dX5_readLeafLine_141 (by decide) ?_
                  replace h := bnS_s h
                  obtain ⟨x186, s188, h187, h⟩ := h
                  refine g_callVs0 (st := []) B (cX5_failc h187) (Nat.le_of_ble_eq_true rfl) rfl rfl mi_X5_fail lk_RX5_51 ⟨Nat.le_of_ble_eq_true rfl, Nat.le_of_ble_eq_true rfl⟩ rfl rfl (Nat.le_of_ble_eq_true rfl) dX5_readLeafLine_142 (Nat.zero_le _) (Nat.zero_le _) ?_
                  obtain ⟨w1, w2⟩ := inS h
                  clear h
                  subst w1
                  subst w2
                  exact g_zret B hE (nar_bI _) (Nat.zero_le _) (Nat.zero_le _) dX5_readLeafLine_145
                · replace h := ifn (bI0 hc) h
                  refine g_iload_n B 2 dX5_readLeafLine_118 rfl rfl ?_
                  refine g_if_ne B 140 dX5_readLeafLine_119 (by decide) (fun hc => ?_) (fun hc => ?_)
                  · replace h := ifp (bI1 hc) h
                    refine g_aload_n B 4 dX5_readLeafLine_140 rfl rfl ?_
                    refine g_iconst (v := 3) B dX5_readLeafLine_141 (by decide) ?_
                    replace h := bnS_s h
                    obtain ⟨x189, s191, h190, h⟩ := h
                    refine g_callVs0 (st := []) B (cX5_failc h190) (Nat.le_of_ble_eq_true rfl) rfl rfl mi_X5_fail lk_RX5_51 ⟨Nat.le_of_ble_eq_true rfl, Nat.le_of_ble_eq_true rfl⟩ rfl rfl (Nat.le_of_ble_eq_true rfl) dX5_readLeafLine_142 (Nat.zero_le _) (Nat.zero_le _) ?_
                    obtain ⟨w1, w2⟩ := inS h
                    clear h
                    subst w1
                    subst w2
                    exact g_zret B hE (nar_bI _) (Nat.zero_le _) (Nat.zero_le _) dX5_readLeafLine_145
                  · replace h := ifn (bI0 hc) h
                    refine g_aload_n B 1 dX5_readLeafLine_122 rfl rfl ?_
                    refine g_iload B 0 dX5_readLeafLine_123 rfl ?_
                    replace h := bnP_s h
                    obtain ⟨x192, h193, h⟩ := h
                    refine g_callVs0 (st := []) B (cX4_isLoosec h193) (Nat.le_of_ble_eq_true rfl) rfl rfl mi_X4_isLoose lk_RX5_250 ⟨Nat.le_of_ble_eq_true rfl, Nat.le_of_ble_eq_true rfl⟩ rfl rfl (Nat.le_of_ble_eq_true rfl) dX5_readLeafLine_125 (Nat.zero_le _) (Nat.zero_le _) ?_
                    refine g_if_eq B 140 dX5_readLeafLine_128 (by decide) (fun hc => ?_) (fun hc => ?_)
                    · replace h := ifn (bI0 hc) h
                      refine g_aload_n B 4 dX5_readLeafLine_140 rfl rfl ?_
                      refine g_iconst (v := 3) B dX5_readLeafLine_141 (by decide) ?_
                      replace h := bnS_s h
                      obtain ⟨x194, s196, h195, h⟩ := h
                      refine g_callVs0 (st := []) B (cX5_failc h195) (Nat.le_of_ble_eq_true rfl) rfl rfl mi_X5_fail lk_RX5_51 ⟨Nat.le_of_ble_eq_true rfl, Nat.le_of_ble_eq_true rfl⟩ rfl rfl (Nat.le_of_ble_eq_true rfl) dX5_readLeafLine_142 (Nat.zero_le _) (Nat.zero_le _) ?_
                      obtain ⟨w1, w2⟩ := inS h
                      clear h
                      subst w1
                      subst w2
                      exact g_zret B hE (nar_bI _) (Nat.zero_le _) (Nat.zero_le _) dX5_readLeafLine_145
                    · replace h := ifp (bI1 hc) h
                      refine g_aload_n B 1 dX5_readLeafLine_131 rfl rfl ?_
                      refine g_iload B 0 dX5_readLeafLine_132 rfl ?_
                      replace h := bnP_s h
                      obtain ⟨s199, h198, h⟩ := h
                      refine g_callVv0 (st := []) B (cX4_fastenc h198) (Nat.le_of_ble_eq_true rfl) rfl rfl mi_X4_fasten lk_RX5_253 ⟨Nat.le_of_ble_eq_true rfl, Nat.le_of_ble_eq_true rfl⟩ rfl rfl (Nat.le_of_ble_eq_true rfl) dX5_readLeafLine_134 (Nat.zero_le _) (Nat.zero_le _) ?_
                      refine g_goto B 146 dX5_readLeafLine_137 (by decide) ?_
                      refine g_aload_n B 4 dX5_readLeafLine_146 rfl rfl ?_
                      replace h := bnS_s h
                      obtain ⟨x200, s202, h201, h⟩ := h
                      refine g_callVs0 (st := []) B (cX5_finishLinec h201) (Nat.le_of_ble_eq_true rfl) rfl rfl mi_X5_finishLine lk_RX5_102 ⟨Nat.le_of_ble_eq_true rfl, Nat.le_of_ble_eq_true rfl⟩ rfl rfl (Nat.le_of_ble_eq_true rfl) dX5_readLeafLine_147 (Nat.zero_le _) (Nat.zero_le _) ?_
                      obtain ⟨w1, w2⟩ := inS h
                      clear h
                      subst w1
                      subst w2
                      exact g_zret B hE (nar_bI _) (Nat.zero_le _) (Nat.zero_le _) dX5_readLeafLine_150
              · replace h := ifp (bI1 hc) h
                refine g_aload_n B 1 dX5_readLeafLine_105 rfl rfl ?_
                refine g_iload B 0 dX5_readLeafLine_106 rfl ?_
                replace h := bnP_s h
                obtain ⟨s205, h204, h⟩ := h
                refine g_callVv0 (st := []) B (cX4_bringBackc h204) (Nat.le_of_ble_eq_true rfl) rfl rfl mi_X4_bringBack lk_RX5_247 ⟨Nat.le_of_ble_eq_true rfl, Nat.le_of_ble_eq_true rfl⟩ rfl rfl (Nat.le_of_ble_eq_true rfl) dX5_readLeafLine_108 (Nat.zero_le _) (Nat.zero_le _) ?_
                refine g_goto B 146 dX5_readLeafLine_111 (by decide) ?_
                refine g_aload_n B 4 dX5_readLeafLine_146 rfl rfl ?_
                replace h := bnS_s h
                obtain ⟨x206, s208, h207, h⟩ := h
                refine g_callVs0 (st := []) B (cX5_finishLinec h207) (Nat.le_of_ble_eq_true rfl) rfl rfl mi_X5_finishLine lk_RX5_102 ⟨Nat.le_of_ble_eq_true rfl, Nat.le_of_ble_eq_true rfl⟩ rfl rfl (Nat.le_of_ble_eq_true rfl) dX5_readLeafLine_147 (Nat.zero_le _) (Nat.zero_le _) ?_
                obtain ⟨w1, w2⟩ := inS h
                clear h
                subst w1
                subst w2
                exact g_zret B hE (nar_bI _) (Nat.zero_le _) (Nat.zero_le _) dX5_readLeafLine_150
          · replace h := ifn (bI0 hc) h
            refine g_aload_n B 1 dX5_readLeafLine_83 rfl rfl ?_
            refine g_iload B 0 dX5_readLeafLine_84 rfl ?_
            replace h := bnP_s h
            obtain ⟨s211, h210, h⟩ := h
            refine g_callVv0 (st := []) B (cX4_dropc h210) (Nat.le_of_ble_eq_true rfl) rfl rfl mi_X4_drop lk_RX5_244 ⟨Nat.le_of_ble_eq_true rfl, Nat.le_of_ble_eq_true rfl⟩ rfl rfl (Nat.le_of_ble_eq_true rfl) dX5_readLeafLine_86 (Nat.zero_le _) (Nat.zero_le _) ?_
            refine g_goto B 146 dX5_readLeafLine_89 (by decide) ?_
            refine g_aload_n B 4 dX5_readLeafLine_146 rfl rfl ?_
            replace h := bnS_s h
            obtain ⟨x212, s214, h213, h⟩ := h
            refine g_callVs0 (st := []) B (cX5_finishLinec h213) (Nat.le_of_ble_eq_true rfl) rfl rfl mi_X5_finishLine lk_RX5_102 ⟨Nat.le_of_ble_eq_true rfl, Nat.le_of_ble_eq_true rfl⟩ rfl rfl (Nat.le_of_ble_eq_true rfl) dX5_readLeafLine_147 (Nat.zero_le _) (Nat.zero_le _) ?_
            obtain ⟨w1, w2⟩ := inS h
            clear h
            subst w1
            subst w2
            exact g_zret B hE (nar_bI _) (Nat.zero_le _) (Nat.zero_le _) dX5_readLeafLine_150
      · replace h := ifn (bI0 hc) h
        refine g_iconst (v := 0) B dX5_readLeafLine_59 (by decide) ?_
        obtain ⟨w1, w2⟩ := inS h
        clear h
        subst w1
        subst w2
        exact g_zret B hE rfl (Nat.zero_le _) (Nat.zero_le _) dX5_readLeafLine_60
    · replace h := ifn (bI0 hc) h
      refine g_aload_n B 2 dX5_readLeafLine_22 rfl rfl ?_
      refine g_ldcS B (j := 15) rfl dX5_readLeafLine_23 ?_
      replace h := bnP_s h
      obtain ⟨x215, h216, h⟩ := h
      refine g_callVs0 (st := []) B (cX5_isAtWordc h216) (Nat.le_of_ble_eq_true rfl) rfl rfl mi_X5_isAtWord lk_RX5_80 ⟨Nat.le_of_ble_eq_true rfl, Nat.le_of_ble_eq_true rfl⟩ rfl rfl (Nat.le_of_ble_eq_true rfl) dX5_readLeafLine_25 (Nat.zero_le _) (Nat.zero_le _) ?_
      refine g_if_ne B 37 dX5_readLeafLine_28 (by decide) (fun hc => ?_) (fun hc => ?_)
      · replace h := ifp (bI1 hc) h
        refine g_aload_n B 2 dX5_readLeafLine_37 rfl rfl ?_
        replace h := bnP_s h
        obtain ⟨x217, h218, h⟩ := h
        refine g_getR B fl_RX5_28 (by decide) dX5_readLeafLine_38 h218 ?_
        replace h := bnP_s h
        obtain ⟨x219, h220, h⟩ := h
        refine g_getRg B fl_RX5_93 (by decide) dX5_readLeafLine_41 h220 ?_
        refine g_astore_n B dX5_readLeafLine_44 rfl (Nat.le_of_ble_eq_true rfl) (s1_c (f1_1 rfl rfl (f1_k rfl (f1_k rfl f1_n)))) ?_
        refine g_aload_n B 3 dX5_readLeafLine_45 rfl rfl ?_
        refine g_iconst (v := 0) B dX5_readLeafLine_46 (by decide) ?_
        refine g_aload_n B 0 dX5_readLeafLine_47 rfl rfl ?_
        replace h := bnP_s h
        obtain ⟨x221, h222, h⟩ := h
        refine g_getI B fl_RX5_240 (by decide) dX5_readLeafLine_48 h222 ?_
        refine g_iconst (v := 1) B dX5_readLeafLine_51 (by decide) ?_
        refine g_isub B dX5_readLeafLine_52 ?_
        replace h := bnS_s h
        obtain ⟨x223, s225, h224, h⟩ := h
        refine g_callVs0 (st := []) B (cX5_checkNextNumberc h224) (Nat.le_of_ble_eq_true rfl) rfl rfl mi_X5_checkNextNumber lk_RX5_84 ⟨Nat.le_of_ble_eq_true rfl, Nat.le_of_ble_eq_true rfl⟩ rfl rfl (Nat.le_of_ble_eq_true rfl) dX5_readLeafLine_53 (Nat.zero_le _) (Nat.zero_le _) ?_
        refine g_if_ne B 61 dX5_readLeafLine_56 (by decide) (fun hc => ?_) (fun hc => ?_)
        · replace h := ifp (bI1 hc) h
          refine g_aload_n B 3 dX5_readLeafLine_61 rfl rfl ?_
          replace h := bnP_s h
          obtain ⟨x226, h227, h⟩ := h
          refine g_getR B fl_RX5_12 (by decide) dX5_readLeafLine_62 h227 ?_
          replace h := bnP_s h
          obtain ⟨x228, h229, h⟩ := h
          refine g_getI B fl_RX5_72 (by decide) dX5_readLeafLine_65 h229 ?_
          refine g_istore B dX5_readLeafLine_68 (Nat.le_of_ble_eq_true rfl) (s1_c (f1_1 rfl (rf_cat _) (f1_k rfl (f1_k rfl (f1_k rfl f1_n))))) ?_
          refine g_iload_n B 3 dX5_readLeafLine_70 rfl rfl ?_
          refine g_if_eq B 92 dX5_readLeafLine_71 (by decide) (fun hc => ?_) (fun hc => ?_)
          · replace h := ifn (bI0 hc) h
            refine g_iload_n B 2 dX5_readLeafLine_92 rfl rfl ?_
            refine g_if_eq B 114 dX5_readLeafLine_93 (by decide) (fun hc => ?_) (fun hc => ?_)
            · replace h := ifn (bI0 hc) h
              refine g_iload_n B 3 dX5_readLeafLine_114 rfl rfl ?_
              refine g_if_ne B 140 dX5_readLeafLine_115 (by decide) (fun hc => ?_) (fun hc => ?_)
              · replace h := ifp (bI1 hc) h
                refine g_aload_n B 4 dX5_readLeafLine_140 rfl rfl ?_
                refine g_iconst (v := 3) B dX5_readLeafLine_141 (by decide) ?_
                replace h := bnS_s h
                obtain ⟨x230, s232, h231, h⟩ := h
                refine g_callVs0 (st := []) B (cX5_failc h231) (Nat.le_of_ble_eq_true rfl) rfl rfl mi_X5_fail lk_RX5_51 ⟨Nat.le_of_ble_eq_true rfl, Nat.le_of_ble_eq_true rfl⟩ rfl rfl (Nat.le_of_ble_eq_true rfl) dX5_readLeafLine_142 (Nat.zero_le _) (Nat.zero_le _) ?_
                obtain ⟨w1, w2⟩ := inS h
                clear h
                subst w1
                subst w2
                exact g_zret B hE (nar_bI _) (Nat.zero_le _) (Nat.zero_le _) dX5_readLeafLine_145
              · replace h := ifn (bI0 hc) h
                refine g_iload_n B 2 dX5_readLeafLine_118 rfl rfl ?_
                refine g_if_ne B 140 dX5_readLeafLine_119 (by decide) (fun hc => ?_) (fun hc => ?_)
                · replace h := ifp (bI1 hc) h
                  refine g_aload_n B 4 dX5_readLeafLine_140 rfl rfl ?_
                  refine g_iconst (v := 3) B dX5_readLeafLine_141 (by decide) ?_
                  replace h := bnS_s h
                  obtain ⟨x233, s235, h234, h⟩ := h
                  refine g_callVs0 (st := []) B (cX5_failc h234) (Nat.le_of_ble_eq_true rfl) rfl rfl mi_X5_fail lk_RX5_51 ⟨Nat.le_of_ble_eq_true rfl, Nat.le_of_ble_eq_true rfl⟩ rfl rfl (Nat.le_of_ble_eq_true rfl) dX5_readLeafLine_142 (Nat.zero_le _) (Nat.zero_le _) ?_
                  obtain ⟨w1, w2⟩ := inS h
                  clear h
                  subst w1
                  subst w2
                  exact g_zret B hE (nar_bI _) (Nat.zero_le _) (Nat.zero_le _) dX5_readLeafLine_145
                · replace h := ifn (bI0 hc) h
                  refine g_aload_n B 1 dX5_readLeafLine_122 rfl rfl ?_
                  refine g_iload B 0 dX5_readLeafLine_123 rfl ?_
                  replace h := bnP_s h
                  obtain ⟨x236, h237, h⟩ := h
                  refine g_callVs0 (st := []) B (cX4_isLoosec h237) (Nat.le_of_ble_eq_true rfl) rfl rfl mi_X4_isLoose lk_RX5_250 ⟨Nat.le_of_ble_eq_true rfl, Nat.le_of_ble_eq_true rfl⟩ rfl rfl (Nat.le_of_ble_eq_true rfl) dX5_readLeafLine_125 (Nat.zero_le _) (Nat.zero_le _) ?_
                  refine g_if_eq B 140 dX5_readLeafLine_128 (by decide) (fun hc => ?_) (fun hc => ?_)
                  · replace h := ifn (bI0 hc) h
                    refine g_aload_n B 4 dX5_readLeafLine_140 rfl rfl ?_
                    refine g_iconst (v := 3) B dX5_readLeafLine_141 (by decide) ?_
                    replace h := bnS_s h
                    obtain ⟨x238, s240, h239, h⟩ := h
                    refine g_callVs0 (st := []) B (cX5_failc h239) (Nat.le_of_ble_eq_true rfl) rfl rfl mi_X5_fail lk_RX5_51 ⟨Nat.le_of_ble_eq_true rfl, Nat.le_of_ble_eq_true rfl⟩ rfl rfl (Nat.le_of_ble_eq_true rfl) dX5_readLeafLine_142 (Nat.zero_le _) (Nat.zero_le _) ?_
                    obtain ⟨w1, w2⟩ := inS h
                    clear h
                    subst w1
                    subst w2
                    exact g_zret B hE (nar_bI _) (Nat.zero_le _) (Nat.zero_le _) dX5_readLeafLine_145
                  · replace h := ifp (bI1 hc) h
                    refine g_aload_n B 1 dX5_readLeafLine_131 rfl rfl ?_
                    refine g_iload B 0 dX5_readLeafLine_132 rfl ?_
                    replace h := bnP_s h
                    obtain ⟨s243, h242, h⟩ := h
                    refine g_callVv0 (st := []) B (cX4_fastenc h242) (Nat.le_of_ble_eq_true rfl) rfl rfl mi_X4_fasten lk_RX5_253 ⟨Nat.le_of_ble_eq_true rfl, Nat.le_of_ble_eq_true rfl⟩ rfl rfl (Nat.le_of_ble_eq_true rfl) dX5_readLeafLine_134 (Nat.zero_le _) (Nat.zero_le _) ?_
                    refine g_goto B 146 dX5_readLeafLine_137 (by decide) ?_
                    refine g_aload_n B 4 dX5_readLeafLine_146 rfl rfl ?_
                    replace h := bnS_s h
                    obtain ⟨x244, s246, h245, h⟩ := h
                    refine g_callVs0 (st := []) B (cX5_finishLinec h245) (Nat.le_of_ble_eq_true rfl) rfl rfl mi_X5_finishLine lk_RX5_102 ⟨Nat.le_of_ble_eq_true rfl, Nat.le_of_ble_eq_true rfl⟩ rfl rfl (Nat.le_of_ble_eq_true rfl) dX5_readLeafLine_147 (Nat.zero_le _) (Nat.zero_le _) ?_
                    obtain ⟨w1, w2⟩ := inS h
                    clear h
                    subst w1
                    subst w2
                    exact g_zret B hE (nar_bI _) (Nat.zero_le _) (Nat.zero_le _) dX5_readLeafLine_150
            · replace h := ifp (bI1 hc) h
              refine g_aload_n B 1 dX5_readLeafLine_96 rfl rfl ?_
              refine g_iload B 0 dX5_readLeafLine_97 rfl ?_
              replace h := bnP_s h
              obtain ⟨x247, h248, h⟩ := h
              refine g_callVs0 (st := []) B (cX4_isLostc h248) (Nat.le_of_ble_eq_true rfl) rfl rfl mi_X4_isLost lk_RX5_241 ⟨Nat.le_of_ble_eq_true rfl, Nat.le_of_ble_eq_true rfl⟩ rfl rfl (Nat.le_of_ble_eq_true rfl) dX5_readLeafLine_99 (Nat.zero_le _) (Nat.zero_le _) ?_
              refine g_if_eq B 114 dX5_readLeafLine_102 (by decide) (fun hc => ?_) (fun hc => ?_)
              · replace h := ifn (bI0 hc) h
                refine g_iload_n B 3 dX5_readLeafLine_114 rfl rfl ?_
                refine g_if_ne B 140 dX5_readLeafLine_115 (by decide) (fun hc => ?_) (fun hc => ?_)
                · replace h := ifp (bI1 hc) h
                  refine g_aload_n B 4 dX5_readLeafLine_140 rfl rfl ?_
                  refine g_iconst (v := 3) B dX5_readLeafLine_141 (by decide) ?_
                  replace h := bnS_s h
                  obtain ⟨x249, s251, h250, h⟩ := h
                  refine g_callVs0 (st := []) B (cX5_failc h250) (Nat.le_of_ble_eq_true rfl) rfl rfl mi_X5_fail lk_RX5_51 ⟨Nat.le_of_ble_eq_true rfl, Nat.le_of_ble_eq_true rfl⟩ rfl rfl (Nat.le_of_ble_eq_true rfl) dX5_readLeafLine_142 (Nat.zero_le _) (Nat.zero_le _) ?_
                  obtain ⟨w1, w2⟩ := inS h
                  clear h
                  subst w1
                  subst w2
                  exact g_zret B hE (nar_bI _) (Nat.zero_le _) (Nat.zero_le _) dX5_readLeafLine_145
                · replace h := ifn (bI0 hc) h
                  refine g_iload_n B 2 dX5_readLeafLine_118 rfl rfl ?_
                  refine g_if_ne B 140 dX5_readLeafLine_119 (by decide) (fun hc => ?_) (fun hc => ?_)
                  · replace h := ifp (bI1 hc) h
                    refine g_aload_n B 4 dX5_readLeafLine_140 rfl rfl ?_
                    refine g_iconst (v := 3) B dX5_readLeafLine_141 (by decide) ?_
                    replace h := bnS_s h
                    obtain ⟨x252, s254, h253, h⟩ := h
                    refine g_callVs0 (st := []) B (cX5_failc h253) (Nat.le_of_ble_eq_true rfl) rfl rfl mi_X5_fail lk_RX5_51 ⟨Nat.le_of_ble_eq_true rfl, Nat.le_of_ble_eq_true rfl⟩ rfl rfl (Nat.le_of_ble_eq_true rfl) dX5_readLeafLine_142 (Nat.zero_le _) (Nat.zero_le _) ?_
                    obtain ⟨w1, w2⟩ := inS h
                    clear h
                    subst w1
                    subst w2
                    exact g_zret B hE (nar_bI _) (Nat.zero_le _) (Nat.zero_le _) dX5_readLeafLine_145
                  · replace h := ifn (bI0 hc) h
                    refine g_aload_n B 1 dX5_readLeafLine_122 rfl rfl ?_
                    refine g_iload B 0 dX5_readLeafLine_123 rfl ?_
                    replace h := bnP_s h
                    obtain ⟨x255, h256, h⟩ := h
                    refine g_callVs0 (st := []) B (cX4_isLoosec h256) (Nat.le_of_ble_eq_true rfl) rfl rfl mi_X4_isLoose lk_RX5_250 ⟨Nat.le_of_ble_eq_true rfl, Nat.le_of_ble_eq_true rfl⟩ rfl rfl (Nat.le_of_ble_eq_true rfl) dX5_readLeafLine_125 (Nat.zero_le _) (Nat.zero_le _) ?_
                    refine g_if_eq B 140 dX5_readLeafLine_128 (by decide) (fun hc => ?_) (fun hc => ?_)
                    · replace h := ifn (bI0 hc) h
                      refine g_aload_n B 4 dX5_readLeafLine_140 rfl rfl ?_
                      refine g_iconst (v := 3) B dX5_readLeafLine_141 (by decide) ?_
                      replace h := bnS_s h
                      obtain ⟨x257, s259, h258, h⟩ := h
                      refine g_callVs0 (st := []) B (cX5_failc h258) (Nat.le_of_ble_eq_true rfl) rfl rfl mi_X5_fail lk_RX5_51 ⟨Nat.le_of_ble_eq_true rfl, Nat.le_of_ble_eq_true rfl⟩ rfl rfl (Nat.le_of_ble_eq_true rfl) dX5_readLeafLine_142 (Nat.zero_le _) (Nat.zero_le _) ?_
                      obtain ⟨w1, w2⟩ := inS h
                      clear h
                      subst w1
                      subst w2
                      exact g_zret B hE (nar_bI _) (Nat.zero_le _) (Nat.zero_le _) dX5_readLeafLine_145
                    · replace h := ifp (bI1 hc) h
                      refine g_aload_n B 1 dX5_readLeafLine_131 rfl rfl ?_
                      refine g_iload B 0 dX5_readLeafLine_132 rfl ?_
                      replace h := bnP_s h
                      obtain ⟨s262, h261, h⟩ := h
                      refine g_callVv0 (st := []) B (cX4_fastenc h261) (Nat.le_of_ble_eq_true rfl) rfl rfl mi_X4_fasten lk_RX5_253 ⟨Nat.le_of_ble_eq_true rfl, Nat.le_of_ble_eq_true rfl⟩ rfl rfl (Nat.le_of_ble_eq_true rfl) dX5_readLeafLine_134 (Nat.zero_le _) (Nat.zero_le _) ?_
                      refine g_goto B 146 dX5_readLeafLine_137 (by decide) ?_
                      refine g_aload_n B 4 dX5_readLeafLine_146 rfl rfl ?_
                      replace h := bnS_s h
                      obtain ⟨x263, s265, h264, h⟩ := h
                      refine g_callVs0 (st := []) B (cX5_finishLinec h264) (Nat.le_of_ble_eq_true rfl) rfl rfl mi_X5_finishLine lk_RX5_102 ⟨Nat.le_of_ble_eq_true rfl, Nat.le_of_ble_eq_true rfl⟩ rfl rfl (Nat.le_of_ble_eq_true rfl) dX5_readLeafLine_147 (Nat.zero_le _) (Nat.zero_le _) ?_
                      obtain ⟨w1, w2⟩ := inS h
                      clear h
                      subst w1
                      subst w2
                      exact g_zret B hE (nar_bI _) (Nat.zero_le _) (Nat.zero_le _) dX5_readLeafLine_150
              · replace h := ifp (bI1 hc) h
                refine g_aload_n B 1 dX5_readLeafLine_105 rfl rfl ?_
                refine g_iload B 0 dX5_readLeafLine_106 rfl ?_
                replace h := bnP_s h
                obtain ⟨s268, h267, h⟩ := h
                refine g_callVv0 (st := []) B (cX4_bringBackc h267) (Nat.le_of_ble_eq_true rfl) rfl rfl mi_X4_bringBack lk_RX5_247 ⟨Nat.le_of_ble_eq_true rfl, Nat.le_of_ble_eq_true rfl⟩ rfl rfl (Nat.le_of_ble_eq_true rfl) dX5_readLeafLine_108 (Nat.zero_le _) (Nat.zero_le _) ?_
                refine g_goto B 146 dX5_readLeafLine_111 (by decide) ?_
                refine g_aload_n B 4 dX5_readLeafLine_146 rfl rfl ?_
                replace h := bnS_s h
                obtain ⟨x269, s271, h270, h⟩ := h
                refine g_callVs0 (st := []) B (cX5_finishLinec h270) (Nat.le_of_ble_eq_true rfl) rfl rfl mi_X5_finishLine lk_RX5_102 ⟨Nat.le_of_ble_eq_true rfl, Nat.le_of_ble_eq_true rfl⟩ rfl rfl (Nat.le_of_ble_eq_true rfl) dX5_readLeafLine_147 (Nat.zero_le _) (Nat.zero_le _) ?_
                obtain ⟨w1, w2⟩ := inS h
                clear h
                subst w1
                subst w2
                exact g_zret B hE (nar_bI _) (Nat.zero_le _) (Nat.zero_le _) dX5_readLeafLine_150
          · replace h := ifp (bI1 hc) h
            refine g_aload_n B 1 dX5_readLeafLine_74 rfl rfl ?_
            refine g_iload B 0 dX5_readLeafLine_75 rfl ?_
            replace h := bnP_s h
            obtain ⟨x272, h273, h⟩ := h
            refine g_callVs0 (st := []) B (cX4_isLostc h273) (Nat.le_of_ble_eq_true rfl) rfl rfl mi_X4_isLost lk_RX5_241 ⟨Nat.le_of_ble_eq_true rfl, Nat.le_of_ble_eq_true rfl⟩ rfl rfl (Nat.le_of_ble_eq_true rfl) dX5_readLeafLine_77 (Nat.zero_le _) (Nat.zero_le _) ?_
            refine g_if_ne B 92 dX5_readLeafLine_80 (by decide) (fun hc => ?_) (fun hc => ?_)
            · replace h := ifp (bI1 hc) h
              refine g_iload_n B 2 dX5_readLeafLine_92 rfl rfl ?_
              refine g_if_eq B 114 dX5_readLeafLine_93 (by decide) (fun hc => ?_) (fun hc => ?_)
              · replace h := ifn (bI0 hc) h
                refine g_iload_n B 3 dX5_readLeafLine_114 rfl rfl ?_
                refine g_if_ne B 140 dX5_readLeafLine_115 (by decide) (fun hc => ?_) (fun hc => ?_)
                · replace h := ifp (bI1 hc) h
                  refine g_aload_n B 4 dX5_readLeafLine_140 rfl rfl ?_
                  refine g_iconst (v := 3) B dX5_readLeafLine_141 (by decide) ?_
                  replace h := bnS_s h
                  obtain ⟨x274, s276, h275, h⟩ := h
                  refine g_callVs0 (st := []) B (cX5_failc h275) (Nat.le_of_ble_eq_true rfl) rfl rfl mi_X5_fail lk_RX5_51 ⟨Nat.le_of_ble_eq_true rfl, Nat.le_of_ble_eq_true rfl⟩ rfl rfl (Nat.le_of_ble_eq_true rfl) dX5_readLeafLine_142 (Nat.zero_le _) (Nat.zero_le _) ?_
                  obtain ⟨w1, w2⟩ := inS h
                  clear h
                  subst w1
                  subst w2
                  exact g_zret B hE (nar_bI _) (Nat.zero_le _) (Nat.zero_le _) dX5_readLeafLine_145
                · replace h := ifn (bI0 hc) h
                  refine g_iload_n B 2 dX5_readLeafLine_118 rfl rfl ?_
                  refine g_if_ne B 140 dX5_readLeafLine_119 (by decide) (fun hc => ?_) (fun hc => ?_)
                  · replace h := ifp (bI1 hc) h
                    refine g_aload_n B 4 dX5_readLeafLine_140 rfl rfl ?_
                    refine g_iconst (v := 3) B dX5_readLeafLine_141 (by decide) ?_
                    replace h := bnS_s h
                    obtain ⟨x277, s279, h278, h⟩ := h
                    refine g_callVs0 (st := []) B (cX5_failc h278) (Nat.le_of_ble_eq_true rfl) rfl rfl mi_X5_fail lk_RX5_51 ⟨Nat.le_of_ble_eq_true rfl, Nat.le_of_ble_eq_true rfl⟩ rfl rfl (Nat.le_of_ble_eq_true rfl) dX5_readLeafLine_142 (Nat.zero_le _) (Nat.zero_le _) ?_
                    obtain ⟨w1, w2⟩ := inS h
                    clear h
                    subst w1
                    subst w2
                    exact g_zret B hE (nar_bI _) (Nat.zero_le _) (Nat.zero_le _) dX5_readLeafLine_145
                  · replace h := ifn (bI0 hc) h
                    refine g_aload_n B 1 dX5_readLeafLine_122 rfl rfl ?_
                    refine g_iload B 0 dX5_readLeafLine_123 rfl ?_
                    replace h := bnP_s h
                    obtain ⟨x280, h281, h⟩ := h
                    refine g_callVs0 (st := []) B (cX4_isLoosec h281) (Nat.le_of_ble_eq_true rfl) rfl rfl mi_X4_isLoose lk_RX5_250 ⟨Nat.le_of_ble_eq_true rfl, Nat.le_of_ble_eq_true rfl⟩ rfl rfl (Nat.le_of_ble_eq_true rfl) dX5_readLeafLine_125 (Nat.zero_le _) (Nat.zero_le _) ?_
                    refine g_if_eq B 140 dX5_readLeafLine_128 (by decide) (fun hc => ?_) (fun hc => ?_)
                    · replace h := ifn (bI0 hc) h
                      refine g_aload_n B 4 dX5_readLeafLine_140 rfl rfl ?_
                      refine g_iconst (v := 3) B dX5_readLeafLine_141 (by decide) ?_
                      replace h := bnS_s h
                      obtain ⟨x282, s284, h283, h⟩ := h
                      refine g_callVs0 (st := []) B (cX5_failc h283) (Nat.le_of_ble_eq_true rfl) rfl rfl mi_X5_fail lk_RX5_51 ⟨Nat.le_of_ble_eq_true rfl, Nat.le_of_ble_eq_true rfl⟩ rfl rfl (Nat.le_of_ble_eq_true rfl) dX5_readLeafLine_142 (Nat.zero_le _) (Nat.zero_le _) ?_
                      obtain ⟨w1, w2⟩ := inS h
                      clear h
                      subst w1
                      subst w2
                      exact g_zret B hE (nar_bI _) (Nat.zero_le _) (Nat.zero_le _) dX5_readLeafLine_145
                    · replace h := ifp (bI1 hc) h
                      refine g_aload_n B 1 dX5_readLeafLine_131 rfl rfl ?_
                      refine g_iload B 0 dX5_readLeafLine_132 rfl ?_
                      replace h := bnP_s h
                      obtain ⟨s287, h286, h⟩ := h
                      refine g_callVv0 (st := []) B (cX4_fastenc h286) (Nat.le_of_ble_eq_true rfl) rfl rfl mi_X4_fasten lk_RX5_253 ⟨Nat.le_of_ble_eq_true rfl, Nat.le_of_ble_eq_true rfl⟩ rfl rfl (Nat.le_of_ble_eq_true rfl) dX5_readLeafLine_134 (Nat.zero_le _) (Nat.zero_le _) ?_
                      refine g_goto B 146 dX5_readLeafLine_137 (by decide) ?_
                      refine g_aload_n B 4 dX5_readLeafLine_146 rfl rfl ?_
                      replace h := bnS_s h
                      obtain ⟨x288, s290, h289, h⟩ := h
                      refine g_callVs0 (st := []) B (cX5_finishLinec h289) (Nat.le_of_ble_eq_true rfl) rfl rfl mi_X5_finishLine lk_RX5_102 ⟨Nat.le_of_ble_eq_true rfl, Nat.le_of_ble_eq_true rfl⟩ rfl rfl (Nat.le_of_ble_eq_true rfl) dX5_readLeafLine_147 (Nat.zero_le _) (Nat.zero_le _) ?_
                      obtain ⟨w1, w2⟩ := inS h
                      clear h
                      subst w1
                      subst w2
                      exact g_zret B hE (nar_bI _) (Nat.zero_le _) (Nat.zero_le _) dX5_readLeafLine_150
              · replace h := ifp (bI1 hc) h
                refine g_aload_n B 1 dX5_readLeafLine_96 rfl rfl ?_
                refine g_iload B 0 dX5_readLeafLine_97 rfl ?_
                replace h := bnP_s h
                obtain ⟨x291, h292, h⟩ := h
                refine g_callVs0 (st := []) B (cX4_isLostc h292) (Nat.le_of_ble_eq_true rfl) rfl rfl mi_X4_isLost lk_RX5_241 ⟨Nat.le_of_ble_eq_true rfl, Nat.le_of_ble_eq_true rfl⟩ rfl rfl (Nat.le_of_ble_eq_true rfl) dX5_readLeafLine_99 (Nat.zero_le _) (Nat.zero_le _) ?_
                refine g_if_eq B 114 dX5_readLeafLine_102 (by decide) (fun hc => ?_) (fun hc => ?_)
                · replace h := ifn (bI0 hc) h
                  refine g_iload_n B 3 dX5_readLeafLine_114 rfl rfl ?_
                  refine g_if_ne B 140 dX5_readLeafLine_115 (by decide) (fun hc => ?_) (fun hc => ?_)
                  · replace h := ifp (bI1 hc) h
                    refine g_aload_n B 4 dX5_readLeafLine_140 rfl rfl ?_
                    refine g_iconst (v := 3) B dX5_readLeafLine_141 (by decide) ?_
                    replace h := bnS_s h
                    obtain ⟨x293, s295, h294, h⟩ := h
                    refine g_callVs0 (st := []) B (cX5_failc h294) (Nat.le_of_ble_eq_true rfl) rfl rfl mi_X5_fail lk_RX5_51 ⟨Nat.le_of_ble_eq_true rfl, Nat.le_of_ble_eq_true rfl⟩ rfl rfl (Nat.le_of_ble_eq_true rfl) dX5_readLeafLine_142 (Nat.zero_le _) (Nat.zero_le _) ?_
                    obtain ⟨w1, w2⟩ := inS h
                    clear h
                    subst w1
                    subst w2
                    exact g_zret B hE (nar_bI _) (Nat.zero_le _) (Nat.zero_le _) dX5_readLeafLine_145
                  · replace h := ifn (bI0 hc) h
                    refine g_iload_n B 2 dX5_readLeafLine_118 rfl rfl ?_
                    refine g_if_ne B 140 dX5_readLeafLine_119 (by decide) (fun hc => ?_) (fun hc => ?_)
                    · replace h := ifp (bI1 hc) h
                      refine g_aload_n B 4 dX5_readLeafLine_140 rfl rfl ?_
                      refine g_iconst (v := 3) B dX5_readLeafLine_141 (by decide) ?_
                      replace h := bnS_s h
                      obtain ⟨x296, s298, h297, h⟩ := h
                      refine g_callVs0 (st := []) B (cX5_failc h297) (Nat.le_of_ble_eq_true rfl) rfl rfl mi_X5_fail lk_RX5_51 ⟨Nat.le_of_ble_eq_true rfl, Nat.le_of_ble_eq_true rfl⟩ rfl rfl (Nat.le_of_ble_eq_true rfl) dX5_readLeafLine_142 (Nat.zero_le _) (Nat.zero_le _) ?_
                      obtain ⟨w1, w2⟩ := inS h
                      clear h
                      subst w1
                      subst w2
                      exact g_zret B hE (nar_bI _) (Nat.zero_le _) (Nat.zero_le _) dX5_readLeafLine_145
                    · replace h := ifn (bI0 hc) h
                      refine g_aload_n B 1 dX5_readLeafLine_122 rfl rfl ?_
                      refine g_iload B 0 dX5_readLeafLine_123 rfl ?_
                      replace h := bnP_s h
                      obtain ⟨x299, h300, h⟩ := h
                      refine g_callVs0 (st := []) B (cX4_isLoosec h300) (Nat.le_of_ble_eq_true rfl) rfl rfl mi_X4_isLoose lk_RX5_250 ⟨Nat.le_of_ble_eq_true rfl, Nat.le_of_ble_eq_true rfl⟩ rfl rfl (Nat.le_of_ble_eq_true rfl) dX5_readLeafLine_125 (Nat.zero_le _) (Nat.zero_le _) ?_
                      refine g_if_eq B 140 dX5_readLeafLine_128 (by decide) (fun hc => ?_) (fun hc => ?_)
                      · replace h := ifn (bI0 hc) h
                        refine g_aload_n B 4 dX5_readLeafLine_140 rfl rfl ?_
                        refine g_iconst (v := 3) B dX5_readLeafLine_141 (by decide) ?_
                        replace h := bnS_s h
                        obtain ⟨x301, s303, h302, h⟩ := h
                        refine g_callVs0 (st := []) B (cX5_failc h302) (Nat.le_of_ble_eq_true rfl) rfl rfl mi_X5_fail lk_RX5_51 ⟨Nat.le_of_ble_eq_true rfl, Nat.le_of_ble_eq_true rfl⟩ rfl rfl (Nat.le_of_ble_eq_true rfl) dX5_readLeafLine_142 (Nat.zero_le _) (Nat.zero_le _) ?_
                        obtain ⟨w1, w2⟩ := inS h
                        clear h
                        subst w1
                        subst w2
                        exact g_zret B hE (nar_bI _) (Nat.zero_le _) (Nat.zero_le _) dX5_readLeafLine_145
                      · replace h := ifp (bI1 hc) h
                        refine g_aload_n B 1 dX5_readLeafLine_131 rfl rfl ?_
                        refine g_iload B 0 dX5_readLeafLine_132 rfl ?_
                        replace h := bnP_s h
                        obtain ⟨s306, h305, h⟩ := h
                        refine g_callVv0 (st := []) B (cX4_fastenc h305) (Nat.le_of_ble_eq_true rfl) rfl rfl mi_X4_fasten lk_RX5_253 ⟨Nat.le_of_ble_eq_true rfl, Nat.le_of_ble_eq_true rfl⟩ rfl rfl (Nat.le_of_ble_eq_true rfl) dX5_readLeafLine_134 (Nat.zero_le _) (Nat.zero_le _) ?_
                        refine g_goto B 146 dX5_readLeafLine_137 (by decide) ?_
                        refine g_aload_n B 4 dX5_readLeafLine_146 rfl rfl ?_
                        replace h := bnS_s h
                        obtain ⟨x307, s309, h308, h⟩ := h
                        refine g_callVs0 (st := []) B (cX5_finishLinec h308) (Nat.le_of_ble_eq_true rfl) rfl rfl mi_X5_finishLine lk_RX5_102 ⟨Nat.le_of_ble_eq_true rfl, Nat.le_of_ble_eq_true rfl⟩ rfl rfl (Nat.le_of_ble_eq_true rfl) dX5_readLeafLine_147 (Nat.zero_le _) (Nat.zero_le _) ?_
                        obtain ⟨w1, w2⟩ := inS h
                        clear h
                        subst w1
                        subst w2
                        exact g_zret B hE (nar_bI _) (Nat.zero_le _) (Nat.zero_le _) dX5_readLeafLine_150
                · replace h := ifp (bI1 hc) h
                  refine g_aload_n B 1 dX5_readLeafLine_105 rfl rfl ?_
                  refine g_iload B 0 dX5_readLeafLine_106 rfl ?_
                  replace h := bnP_s h
                  obtain ⟨s312, h311, h⟩ := h
                  refine g_callVv0 (st := []) B (cX4_bringBackc h311) (Nat.le_of_ble_eq_true rfl) rfl rfl mi_X4_bringBack lk_RX5_247 ⟨Nat.le_of_ble_eq_true rfl, Nat.le_of_ble_eq_true rfl⟩ rfl rfl (Nat.le_of_ble_eq_true rfl) dX5_readLeafLine_108 (Nat.zero_le _) (Nat.zero_le _) ?_
                  refine g_goto B 146 dX5_readLeafLine_111 (by decide) ?_
                  refine g_aload_n B 4 dX5_readLeafLine_146 rfl rfl ?_
                  replace h := bnS_s h
                  obtain ⟨x313, s315, h314, h⟩ := h
                  refine g_callVs0 (st := []) B (cX5_finishLinec h314) (Nat.le_of_ble_eq_true rfl) rfl rfl mi_X5_finishLine lk_RX5_102 ⟨Nat.le_of_ble_eq_true rfl, Nat.le_of_ble_eq_true rfl⟩ rfl rfl (Nat.le_of_ble_eq_true rfl) dX5_readLeafLine_147 (Nat.zero_le _) (Nat.zero_le _) ?_
                  obtain ⟨w1, w2⟩ := inS h
                  clear h
                  subst w1
                  subst w2
                  exact g_zret B hE (nar_bI _) (Nat.zero_le _) (Nat.zero_le _) dX5_readLeafLine_150
            · replace h := ifn (bI0 hc) h
              refine g_aload_n B 1 dX5_readLeafLine_83 rfl rfl ?_
              refine g_iload B 0 dX5_readLeafLine_84 rfl ?_
              replace h := bnP_s h
              obtain ⟨s318, h317, h⟩ := h
              refine g_callVv0 (st := []) B (cX4_dropc h317) (Nat.le_of_ble_eq_true rfl) rfl rfl mi_X4_drop lk_RX5_244 ⟨Nat.le_of_ble_eq_true rfl, Nat.le_of_ble_eq_true rfl⟩ rfl rfl (Nat.le_of_ble_eq_true rfl) dX5_readLeafLine_86 (Nat.zero_le _) (Nat.zero_le _) ?_
              refine g_goto B 146 dX5_readLeafLine_89 (by decide) ?_
              refine g_aload_n B 4 dX5_readLeafLine_146 rfl rfl ?_
              replace h := bnS_s h
              obtain ⟨x319, s321, h320, h⟩ := h
              refine g_callVs0 (st := []) B (cX5_finishLinec h320) (Nat.le_of_ble_eq_true rfl) rfl rfl mi_X5_finishLine lk_RX5_102 ⟨Nat.le_of_ble_eq_true rfl, Nat.le_of_ble_eq_true rfl⟩ rfl rfl (Nat.le_of_ble_eq_true rfl) dX5_readLeafLine_147 (Nat.zero_le _) (Nat.zero_le _) ?_
              obtain ⟨w1, w2⟩ := inS h
              clear h
              subst w1
              subst w2
              exact g_zret B hE (nar_bI _) (Nat.zero_le _) (Nat.zero_le _) dX5_readLeafLine_150
        · replace h := ifn (bI0 hc) h
          refine g_iconst (v := 0) B dX5_readLeafLine_59 (by decide) ?_
          obtain ⟨w1, w2⟩ := inS h
          clear h
          subst w1
          subst w2
          exact g_zret B hE rfl (Nat.zero_le _) (Nat.zero_le _) dX5_readLeafLine_60
      · replace h := ifn (bI0 hc) h
        refine g_aload_n B 2 dX5_readLeafLine_31 rfl rfl ?_
        refine g_iconst (v := 1) B dX5_readLeafLine_32 (by decide) ?_
        replace h := bnS_s h
        obtain ⟨x322, s324, h323, h⟩ := h
        refine g_callVs0 (st := []) B (cX5_failc h323) (Nat.le_of_ble_eq_true rfl) rfl rfl mi_X5_fail lk_RX5_51 ⟨Nat.le_of_ble_eq_true rfl, Nat.le_of_ble_eq_true rfl⟩ rfl rfl (Nat.le_of_ble_eq_true rfl) dX5_readLeafLine_33 (Nat.zero_le _) (Nat.zero_le _) ?_
        obtain ⟨w1, w2⟩ := inS h
        clear h
        subst w1
        subst w2
        exact g_zret B hE (nar_bI _) (Nat.zero_le _) (Nat.zero_le _) dX5_readLeafLine_36
set_option maxRecDepth 100000 in
set_option maxHeartbeats 4000000 in
theorem cX5_readLinec {l : Launch} {v0 : Option Nat} {σ : HpT} {r : Bool} {σ' : HpT} (h : fX5_readLine v0 σ = some (r, σ')) : IsK σ v0 5 ∧ Ct l yX5_readLine cX5_readLine 1 (some .boolean) 8 170 [va_rf v0] σ (.ok (some (.int (bI r)))) σ' 0 0 := by
  unfold fX5_readLine at h
  replace h := bnP_s h
  obtain ⟨u, hk, h⟩ := h
  replace hk := isK_s hk
  refine ⟨hk, ?_⟩
  refine ct_start mi_X5_readLine.1 rfl (al_le (al_1 (rf_cat _) al_n) (Nat.le_of_ble_eq_true rfl)) (ag_1 (rf_cat _) ag_n) (fun Δ Γ B hE hnm => ?_)
  refine g_aload_n B 0 dX5_readLine_0 rfl rfl ?_
  refine g_ldcS B (j := 2) rfl dX5_readLine_1 ?_
  replace h := bnP_s h
  obtain ⟨x1, h2, h⟩ := h
  refine g_callVs0 (st := []) B (cX5_isAtWordc h2) (Nat.le_of_ble_eq_true rfl) rfl rfl mi_X5_isAtWord lk_RX5_80 ⟨Nat.le_of_ble_eq_true rfl, Nat.le_of_ble_eq_true rfl⟩ rfl rfl (Nat.le_of_ble_eq_true rfl) dX5_readLine_3 (Nat.zero_le _) (Nat.zero_le _) ?_
  refine g_if_eq B 14 dX5_readLine_6 (by decide) (fun hc => ?_) (fun hc => ?_)
  · replace h := ifn (bI0 hc) h
    refine g_aload_n B 0 dX5_readLine_14 rfl rfl ?_
    refine g_ldcS B (j := 6) rfl dX5_readLine_15 ?_
    replace h := bnP_s h
    obtain ⟨x3, h4, h⟩ := h
    refine g_callVs0 (st := []) B (cX5_isAtWordc h4) (Nat.le_of_ble_eq_true rfl) rfl rfl mi_X5_isAtWord lk_RX5_80 ⟨Nat.le_of_ble_eq_true rfl, Nat.le_of_ble_eq_true rfl⟩ rfl rfl (Nat.le_of_ble_eq_true rfl) dX5_readLine_17 (Nat.zero_le _) (Nat.zero_le _) ?_
    refine g_if_eq B 28 dX5_readLine_20 (by decide) (fun hc => ?_) (fun hc => ?_)
    · replace h := ifn (bI0 hc) h
      refine g_aload_n B 0 dX5_readLine_28 rfl rfl ?_
      refine g_ldcS B (j := 7) rfl dX5_readLine_29 ?_
      replace h := bnP_s h
      obtain ⟨x5, h6, h⟩ := h
      refine g_callVs0 (st := []) B (cX5_isAtWordc h6) (Nat.le_of_ble_eq_true rfl) rfl rfl mi_X5_isAtWord lk_RX5_80 ⟨Nat.le_of_ble_eq_true rfl, Nat.le_of_ble_eq_true rfl⟩ rfl rfl (Nat.le_of_ble_eq_true rfl) dX5_readLine_31 (Nat.zero_le _) (Nat.zero_le _) ?_
      refine g_if_eq B 42 dX5_readLine_34 (by decide) (fun hc => ?_) (fun hc => ?_)
      · replace h := ifn (bI0 hc) h
        refine g_aload_n B 0 dX5_readLine_42 rfl rfl ?_
        refine g_ldcS B (j := 8) rfl dX5_readLine_43 ?_
        replace h := bnP_s h
        obtain ⟨x7, h8, h⟩ := h
        refine g_callVs0 (st := []) B (cX5_isAtWordc h8) (Nat.le_of_ble_eq_true rfl) rfl rfl mi_X5_isAtWord lk_RX5_80 ⟨Nat.le_of_ble_eq_true rfl, Nat.le_of_ble_eq_true rfl⟩ rfl rfl (Nat.le_of_ble_eq_true rfl) dX5_readLine_45 (Nat.zero_le _) (Nat.zero_le _) ?_
        refine g_if_eq B 56 dX5_readLine_48 (by decide) (fun hc => ?_) (fun hc => ?_)
        · replace h := ifn (bI0 hc) h
          refine g_aload_n B 0 dX5_readLine_56 rfl rfl ?_
          refine g_ldcS B (j := 9) rfl dX5_readLine_57 ?_
          replace h := bnP_s h
          obtain ⟨x9, h10, h⟩ := h
          refine g_callVs0 (st := []) B (cX5_isAtWordc h10) (Nat.le_of_ble_eq_true rfl) rfl rfl mi_X5_isAtWord lk_RX5_80 ⟨Nat.le_of_ble_eq_true rfl, Nat.le_of_ble_eq_true rfl⟩ rfl rfl (Nat.le_of_ble_eq_true rfl) dX5_readLine_59 (Nat.zero_le _) (Nat.zero_le _) ?_
          refine g_if_eq B 70 dX5_readLine_62 (by decide) (fun hc => ?_) (fun hc => ?_)
          · replace h := ifn (bI0 hc) h
            refine g_aload_n B 0 dX5_readLine_70 rfl rfl ?_
            refine g_ldcS B (j := 10) rfl dX5_readLine_71 ?_
            replace h := bnP_s h
            obtain ⟨x11, h12, h⟩ := h
            refine g_callVs0 (st := []) B (cX5_isAtWordc h12) (Nat.le_of_ble_eq_true rfl) rfl rfl mi_X5_isAtWord lk_RX5_80 ⟨Nat.le_of_ble_eq_true rfl, Nat.le_of_ble_eq_true rfl⟩ rfl rfl (Nat.le_of_ble_eq_true rfl) dX5_readLine_73 (Nat.zero_le _) (Nat.zero_le _) ?_
            refine g_if_eq B 84 dX5_readLine_76 (by decide) (fun hc => ?_) (fun hc => ?_)
            · replace h := ifn (bI0 hc) h
              refine g_aload_n B 0 dX5_readLine_84 rfl rfl ?_
              refine g_ldcS B (j := 11) rfl dX5_readLine_85 ?_
              replace h := bnP_s h
              obtain ⟨x13, h14, h⟩ := h
              refine g_callVs0 (st := []) B (cX5_isAtWordc h14) (Nat.le_of_ble_eq_true rfl) rfl rfl mi_X5_isAtWord lk_RX5_80 ⟨Nat.le_of_ble_eq_true rfl, Nat.le_of_ble_eq_true rfl⟩ rfl rfl (Nat.le_of_ble_eq_true rfl) dX5_readLine_87 (Nat.zero_le _) (Nat.zero_le _) ?_
              refine g_if_eq B 98 dX5_readLine_90 (by decide) (fun hc => ?_) (fun hc => ?_)
              · replace h := ifn (bI0 hc) h
                refine g_aload_n B 0 dX5_readLine_98 rfl rfl ?_
                refine g_ldcS B (j := 12) rfl dX5_readLine_99 ?_
                replace h := bnP_s h
                obtain ⟨x15, h16, h⟩ := h
                refine g_callVs0 (st := []) B (cX5_isAtWordc h16) (Nat.le_of_ble_eq_true rfl) rfl rfl mi_X5_isAtWord lk_RX5_80 ⟨Nat.le_of_ble_eq_true rfl, Nat.le_of_ble_eq_true rfl⟩ rfl rfl (Nat.le_of_ble_eq_true rfl) dX5_readLine_101 (Nat.zero_le _) (Nat.zero_le _) ?_
                refine g_if_eq B 123 dX5_readLine_104 (by decide) (fun hc => ?_) (fun hc => ?_)
                · replace h := ifn (bI0 hc) h
                  refine g_aload_n B 0 dX5_readLine_123 rfl rfl ?_
                  replace h := bnS_s h
                  obtain ⟨x17, s19, h18, h⟩ := h
                  refine g_callVs0 (st := []) B (cX5_readLeafLinec h18) (Nat.le_of_ble_eq_true rfl) rfl rfl mi_X5_readLeafLine lk_RX5_146 ⟨Nat.le_of_ble_eq_true rfl, Nat.le_of_ble_eq_true rfl⟩ rfl rfl (Nat.le_of_ble_eq_true rfl) dX5_readLine_124 (Nat.zero_le _) (Nat.zero_le _) ?_
                  obtain ⟨w1, w2⟩ := inS h
                  clear h
                  subst w1
                  subst w2
                  exact g_zret B hE (nar_bI _) (Nat.zero_le _) (Nat.zero_le _) dX5_readLine_127
                · replace h := ifp (bI1 hc) h
                  refine g_aload_n B 0 dX5_readLine_107 rfl rfl ?_
                  replace h := bnP_s h
                  obtain ⟨x20, h21, h⟩ := h
                  refine g_getR B fl_RX5_28 (by decide) dX5_readLine_108 h21 ?_
                  replace h := bnP_s h
                  obtain ⟨x22, h23, h⟩ := h
                  refine g_getRg B fl_RX5_93 (by decide) dX5_readLine_111 h23 ?_
                  replace h := bnS_s h
                  obtain ⟨x24, s26, h25, h⟩ := h
                  refine g_callVs0 (st := []) B (cX4_dropLoosec h25) (Nat.le_of_ble_eq_true rfl) rfl rfl mi_X4_dropLoose lk_RX5_142 ⟨Nat.le_of_ble_eq_true rfl, Nat.le_of_ble_eq_true rfl⟩ rfl rfl (Nat.le_of_ble_eq_true rfl) dX5_readLine_114 (Nat.zero_le _) (Nat.zero_le _) ?_
                  refine g_pop B dX5_readLine_117 rfl ?_
                  refine g_aload_n B 0 dX5_readLine_118 rfl rfl ?_
                  replace h := bnS_s h
                  obtain ⟨x27, s29, h28, h⟩ := h
                  refine g_callVs0 (st := []) B (cX5_finishLinec h28) (Nat.le_of_ble_eq_true rfl) rfl rfl mi_X5_finishLine lk_RX5_102 ⟨Nat.le_of_ble_eq_true rfl, Nat.le_of_ble_eq_true rfl⟩ rfl rfl (Nat.le_of_ble_eq_true rfl) dX5_readLine_119 (Nat.zero_le _) (Nat.zero_le _) ?_
                  obtain ⟨w1, w2⟩ := inS h
                  clear h
                  subst w1
                  subst w2
                  exact g_zret B hE (nar_bI _) (Nat.zero_le _) (Nat.zero_le _) dX5_readLine_122
              · replace h := ifp (bI1 hc) h
                refine g_aload_n B 0 dX5_readLine_93 rfl rfl ?_
                replace h := bnS_s h
                obtain ⟨x30, s32, h31, h⟩ := h
                refine g_callVs0 (st := []) B (cX5_readCopyLinec h31) (Nat.le_of_ble_eq_true rfl) rfl rfl mi_X5_readCopyLine lk_RX5_137 ⟨Nat.le_of_ble_eq_true rfl, Nat.le_of_ble_eq_true rfl⟩ rfl rfl (Nat.le_of_ble_eq_true rfl) dX5_readLine_94 (Nat.zero_le _) (Nat.zero_le _) ?_
                obtain ⟨w1, w2⟩ := inS h
                clear h
                subst w1
                subst w2
                exact g_zret B hE (nar_bI _) (Nat.zero_le _) (Nat.zero_le _) dX5_readLine_97
            · replace h := ifp (bI1 hc) h
              refine g_aload_n B 0 dX5_readLine_79 rfl rfl ?_
              replace h := bnS_s h
              obtain ⟨x33, s35, h34, h⟩ := h
              refine g_callVs0 (st := []) B (cX5_readCancelLinec h34) (Nat.le_of_ble_eq_true rfl) rfl rfl mi_X5_readCancelLine lk_RX5_132 ⟨Nat.le_of_ble_eq_true rfl, Nat.le_of_ble_eq_true rfl⟩ rfl rfl (Nat.le_of_ble_eq_true rfl) dX5_readLine_80 (Nat.zero_le _) (Nat.zero_le _) ?_
              obtain ⟨w1, w2⟩ := inS h
              clear h
              subst w1
              subst w2
              exact g_zret B hE (nar_bI _) (Nat.zero_le _) (Nat.zero_le _) dX5_readLine_83
          · replace h := ifp (bI1 hc) h
            refine g_aload_n B 0 dX5_readLine_65 rfl rfl ?_
            replace h := bnS_s h
            obtain ⟨x36, s38, h37, h⟩ := h
            refine g_callVs0 (st := []) B (cX5_readSealLinec h37) (Nat.le_of_ble_eq_true rfl) rfl rfl mi_X5_readSealLine lk_RX5_127 ⟨Nat.le_of_ble_eq_true rfl, Nat.le_of_ble_eq_true rfl⟩ rfl rfl (Nat.le_of_ble_eq_true rfl) dX5_readLine_66 (Nat.zero_le _) (Nat.zero_le _) ?_
            obtain ⟨w1, w2⟩ := inS h
            clear h
            subst w1
            subst w2
            exact g_zret B hE (nar_bI _) (Nat.zero_le _) (Nat.zero_le _) dX5_readLine_69
        · replace h := ifp (bI1 hc) h
          refine g_aload_n B 0 dX5_readLine_51 rfl rfl ?_
          replace h := bnS_s h
          obtain ⟨x39, s41, h40, h⟩ := h
          refine g_callVs0 (st := []) B (cX5_readInsertLinec h40) (Nat.le_of_ble_eq_true rfl) rfl rfl mi_X5_readInsertLine lk_RX5_122 ⟨Nat.le_of_ble_eq_true rfl, Nat.le_of_ble_eq_true rfl⟩ rfl rfl (Nat.le_of_ble_eq_true rfl) dX5_readLine_52 (Nat.zero_le _) (Nat.zero_le _) ?_
          obtain ⟨w1, w2⟩ := inS h
          clear h
          subst w1
          subst w2
          exact g_zret B hE (nar_bI _) (Nat.zero_le _) (Nat.zero_le _) dX5_readLine_55
      · replace h := ifp (bI1 hc) h
        refine g_aload_n B 0 dX5_readLine_37 rfl rfl ?_
        replace h := bnS_s h
        obtain ⟨x42, s44, h43, h⟩ := h
        refine g_callVs0 (st := []) B (cX5_readOutLinec h43) (Nat.le_of_ble_eq_true rfl) rfl rfl mi_X5_readOutLine lk_RX5_117 ⟨Nat.le_of_ble_eq_true rfl, Nat.le_of_ble_eq_true rfl⟩ rfl rfl (Nat.le_of_ble_eq_true rfl) dX5_readLine_38 (Nat.zero_le _) (Nat.zero_le _) ?_
        obtain ⟨w1, w2⟩ := inS h
        clear h
        subst w1
        subst w2
        exact g_zret B hE (nar_bI _) (Nat.zero_le _) (Nat.zero_le _) dX5_readLine_41
    · replace h := ifp (bI1 hc) h
      refine g_aload_n B 0 dX5_readLine_23 rfl rfl ?_
      replace h := bnS_s h
      obtain ⟨x45, s47, h46, h⟩ := h
      refine g_callVs0 (st := []) B (cX5_readStrikeLinec h46) (Nat.le_of_ble_eq_true rfl) rfl rfl mi_X5_readStrikeLine lk_RX5_112 ⟨Nat.le_of_ble_eq_true rfl, Nat.le_of_ble_eq_true rfl⟩ rfl rfl (Nat.le_of_ble_eq_true rfl) dX5_readLine_24 (Nat.zero_le _) (Nat.zero_le _) ?_
      obtain ⟨w1, w2⟩ := inS h
      clear h
      subst w1
      subst w2
      exact g_zret B hE (nar_bI _) (Nat.zero_le _) (Nat.zero_le _) dX5_readLine_27
  · replace h := ifp (bI1 hc) h
    refine g_aload_n B 0 dX5_readLine_9 rfl rfl ?_
    replace h := bnS_s h
    obtain ⟨x48, s50, h49, h⟩ := h
    refine g_callVs0 (st := []) B (cX5_readActLinec h49) (Nat.le_of_ble_eq_true rfl) rfl rfl mi_X5_readActLine lk_RX5_107 ⟨Nat.le_of_ble_eq_true rfl, Nat.le_of_ble_eq_true rfl⟩ rfl rfl (Nat.le_of_ble_eq_true rfl) dX5_readLine_10 (Nat.zero_le _) (Nat.zero_le _) ?_
    obtain ⟨w1, w2⟩ := inS h
    clear h
    subst w1
    subst w2
    exact g_zret B hE (nar_bI _) (Nat.zero_le _) (Nat.zero_le _) dX5_readLine_13
set_option maxRecDepth 100000 in
set_option maxHeartbeats 4000000 in
theorem cX5_readTextc {l : Launch} {v0 : Option Nat} {v1 : Option Nat} {v2 : Int32} {v3 : Option Nat} {σ : HpT} {r : Bool} {σ' : HpT} (h : fX5_readText v0 v1 v2 v3 σ = some (r, σ')) : IsK σ v0 5 ∧ Ct l yX5_readText cX5_readText 5 (some .boolean) 9 190 [va_rf v0, va_rf v1, .int v2, va_rf v3] σ (.ok (some (.int (bI r)))) σ' 0 0 := by
  unfold fX5_readText at h
  replace h := bnP_s h
  obtain ⟨u, hk, h⟩ := h
  replace hk := isK_s hk
  refine ⟨hk, ?_⟩
  refine ct_start mi_X5_readText.1 rfl (al_le (al_1 (rf_cat _) (al_1 (rf_cat _) (al_1 rfl (al_1 (rf_cat _) al_n)))) (Nat.le_of_ble_eq_true rfl)) (ag_1 (rf_cat _) (ag_1 (rf_cat _) (ag_1 rfl (ag_1 (rf_cat _) ag_n)))) (fun Δ Γ B hE hnm => ?_)
  refine g_aload_n B 0 dX5_readText_0 rfl rfl ?_
  refine g_aload_n B 3 dX5_readText_1 rfl rfl ?_
  replace h := bnP_s h
  obtain ⟨s3, h2, h⟩ := h
  refine g_putR B fl_RX5_28 (by decide) (Or.inl ⟨_, rfl⟩) dX5_readText_2 h2 ?_
  refine g_aload_n B 0 dX5_readText_5 rfl rfl ?_
  replace h := bnP_s h
  obtain ⟨x4, h5, h⟩ := h
  refine g_getR B fl_RX5_28 (by decide) dX5_readText_6 h5 ?_
  replace h := bnP_s h
  obtain ⟨s8, h7, h⟩ := h
  refine g_callVv0 (st := []) B (cX1_clearc h7) (Nat.le_of_ble_eq_true rfl) rfl rfl mi_X1_clear lk_RX5_32 ⟨Nat.le_of_ble_eq_true rfl, Nat.le_of_ble_eq_true rfl⟩ rfl rfl (Nat.le_of_ble_eq_true rfl) dX5_readText_9 (Nat.zero_le _) (Nat.zero_le _) ?_
  refine g_aload_n B 0 dX5_readText_12 rfl rfl ?_
  replace h := bnP_s h
  obtain ⟨x9, h10, h⟩ := h
  refine g_getR B fl_RX5_12 (by decide) dX5_readText_13 h10 ?_
  refine g_aload_n B 1 dX5_readText_16 rfl rfl ?_
  refine g_iload_n B 2 dX5_readText_17 rfl rfl ?_
  replace h := bnP_s h
  obtain ⟨s13, h12, h⟩ := h
  refine g_callVv0 (st := []) B (cX7_startAtc h12) (Nat.le_of_ble_eq_true rfl) rfl rfl mi_X7_startAt lk_RX5_37 ⟨Nat.le_of_ble_eq_true rfl, Nat.le_of_ble_eq_true rfl⟩ rfl rfl (Nat.le_of_ble_eq_true rfl) dX5_readText_18 (Nat.zero_le _) (Nat.zero_le _) ?_
  refine g_aload_n B 0 dX5_readText_21 rfl rfl ?_
  replace h := bnS_s h
  obtain ⟨x14, s16, h15, h⟩ := h
  refine g_callVs0 (st := []) B (cX5_readHeadc h15) (Nat.le_of_ble_eq_true rfl) rfl rfl mi_X5_readHead lk_RX5_41 ⟨Nat.le_of_ble_eq_true rfl, Nat.le_of_ble_eq_true rfl⟩ rfl rfl (Nat.le_of_ble_eq_true rfl) dX5_readText_22 (Nat.zero_le _) (Nat.zero_le _) ?_
  refine g_if_ne B 30 dX5_readText_25 (by decide) (fun hc => ?_) (fun hc => ?_)
  · replace h := ifp (bI1 hc) h
    refine g_iconst (v := 0) B dX5_readText_30 (by decide) ?_
    refine g_istore B dX5_readText_31 (Nat.le_of_ble_eq_true rfl) (s1_c (f1_k rfl (f1_k rfl (f1_k rfl (f1_1 rfl (rf_cat _) f1_n))))) ?_
    replace h := bnS_s h
    obtain ⟨r18, s51, h19, h⟩ := h
    have kE20 : ∀ y50, r18 = .inl y50 → GW Δ Γ (0) (0) 96 [(0, va_rf v0)] [] s51 := by
      intro y50 er
      subst er
      dsimp only at h
      refine g_aload_n B 0 dX5_readText_96 rfl rfl ?_
      refine g_iconst (v := 1) B dX5_readText_97 (by decide) ?_
      replace h := bnS_s h
      obtain ⟨x52, s54, h53, h⟩ := h
      refine g_callVs0 (st := []) B (cX5_failc h53) (Nat.le_of_ble_eq_true rfl) rfl rfl mi_X5_fail lk_RX5_51 ⟨Nat.le_of_ble_eq_true rfl, Nat.le_of_ble_eq_true rfl⟩ rfl rfl (Nat.le_of_ble_eq_true rfl) dX5_readText_98 (Nat.zero_le _) (Nat.zero_le _) ?_
      obtain ⟨w1, w2⟩ := inS h
      clear h
      subst w1
      subst w2
      exact g_zret B hE (nar_bI _) (Nat.zero_le _) (Nat.zero_le _) dX5_readText_101
    have kR21 : ∀ vv, r18 = .inr vv → En Δ Γ (.ok (some (.int (bI vv)))) s51 0 0 (some .boolean) ∧ 0 ≤ 0 ∧ 0 ≤ 0 := by
      intro vv er
      subst er
      dsimp only at h
      obtain ⟨w1, w2⟩ := inS h
      clear h
      subst w1
      subst w2
      exact ⟨hE, Nat.zero_le _, Nat.zero_le _⟩
    clear h
    refine g_sub [1, 0] rfl ?_
    refine lpS_w (I := fun q17 s26 => GW Δ Γ (0) (0) 33 [(0, va_rf v0), (4, .int q17)] [] s26) (r := r18) (σr := s51) ?_ FUEL 0 s16 h19
    intro q17 s26 x24 s9 h hI22 hR23
    unfold fX5_readText_l1 at h
    refine g_iload B 1 dX5_readText_33 rfl ?_
    refine g_aload_n B 0 dX5_readText_35 rfl rfl ?_
    replace h := bnP_s h
    obtain ⟨x27, h28, h⟩ := h
    refine g_getR B fl_RX5_12 (by decide) dX5_readText_36 h28 ?_
    replace h := bnP_s h
    obtain ⟨x29, h30, h⟩ := h
    refine g_getI B fl_RX5_45 (by decide) dX5_readText_39 h30 ?_
    refine g_icmp_gt B 96 dX5_readText_42 (by decide) (fun hc => ?_) (fun hc => ?_)
    · replace h := ifp hc h
      obtain ⟨w1, w2⟩ := inS h
      clear h
      subst w1
      subst w2
      obtain ⟨e8, e7⟩ := hR23 _ rfl
      subst e8
      subst e7
      exact g_sub [0] rfl (kE20 _ rfl)
    · replace h := ifn hc h
      refine g_aload_n B 0 dX5_readText_45 rfl rfl ?_
      replace h := bnP_s h
      obtain ⟨x31, h32, h⟩ := h
      refine g_getR B fl_RX5_12 (by decide) dX5_readText_46 h32 ?_
      replace h := bnP_s h
      obtain ⟨x33, h34, h⟩ := h
      refine g_getI B fl_RX5_48 (by decide) dX5_readText_49 h34 ?_
      refine g_if_ne B 57 dX5_readText_52 (by decide) (fun hc => ?_) (fun hc => ?_)
      · replace h := ifn hc h
        refine g_aload_n B 0 dX5_readText_57 rfl rfl ?_
        replace h := bnP_s h
        obtain ⟨x35, h36, h⟩ := h
        refine g_getR B fl_RX5_12 (by decide) dX5_readText_58 h36 ?_
        replace h := bnP_s h
        obtain ⟨x37, h38, h⟩ := h
        refine g_getI B fl_RX5_48 (by decide) dX5_readText_61 h38 ?_
        refine g_iconst (v := 3) B dX5_readText_64 (by decide) ?_
        refine g_icmp_eq B 74 dX5_readText_65 (by decide) (fun hc => ?_) (fun hc => ?_)
        · replace h := ifp hc h
          refine g_aload_n B 0 dX5_readText_74 rfl rfl ?_
          replace h := bnP_s h
          obtain ⟨x39, h40, h⟩ := h
          refine g_getR B fl_RX5_12 (by decide) dX5_readText_75 h40 ?_
          replace h := bnP_s h
          obtain ⟨s43, h42, h⟩ := h
          refine g_callVv0 (st := []) B (cX7_stepc h42) (Nat.le_of_ble_eq_true rfl) rfl rfl mi_X7_step lk_RX5_55 ⟨Nat.le_of_ble_eq_true rfl, Nat.le_of_ble_eq_true rfl⟩ rfl rfl (Nat.le_of_ble_eq_true rfl) dX5_readText_78 (Nat.zero_le _) (Nat.zero_le _) ?_
          refine g_aload_n B 0 dX5_readText_81 rfl rfl ?_
          replace h := bnS_s h
          obtain ⟨x44, s46, h45, h⟩ := h
          refine g_callVs0 (st := []) B (cX5_readLinec h45) (Nat.le_of_ble_eq_true rfl) rfl rfl mi_X5_readLine lk_RX5_58 ⟨Nat.le_of_ble_eq_true rfl, Nat.le_of_ble_eq_true rfl⟩ rfl rfl (Nat.le_of_ble_eq_true rfl) dX5_readText_82 (Nat.zero_le _) (Nat.zero_le _) ?_
          refine g_if_ne B 90 dX5_readText_85 (by decide) (fun hc => ?_) (fun hc => ?_)
          · replace h := ifp (bI1 hc) h
            refine g_iinc (v := (q17 + 1)) B 1 dX5_readText_90 rfl (by first | rfl | (congr 1; decide)) (Nat.le_of_ble_eq_true rfl) (s1_c (f1_k rfl (f1_x f1_n))) ?_
            refine g_goto B 33 dX5_readText_93 (by decide) ?_
            obtain ⟨w1, w2⟩ := inS h
            clear h
            subst w1
            subst w2
            exact g_sub [1, 0] rfl (hI22 _ rfl)
          · replace h := ifn (bI0 hc) h
            refine g_iconst (v := 0) B dX5_readText_88 (by decide) ?_
            obtain ⟨w1, w2⟩ := inS h
            clear h
            subst w1
            subst w2
            obtain ⟨e8, e7⟩ := hR23 _ rfl
            subst e7
            obtain ⟨hE, hc9, hs9⟩ := kR21 _ e8.symm
            exact g_zret B hE rfl hc9 hs9 dX5_readText_89
        · replace h := ifn hc h
          refine g_aload_n B 0 dX5_readText_68 rfl rfl ?_
          refine g_iconst (v := 1) B dX5_readText_69 (by decide) ?_
          replace h := bnS_s h
          obtain ⟨x47, s49, h48, h⟩ := h
          refine g_callVs0 (st := []) B (cX5_failc h48) (Nat.le_of_ble_eq_true rfl) rfl rfl mi_X5_fail lk_RX5_51 ⟨Nat.le_of_ble_eq_true rfl, Nat.le_of_ble_eq_true rfl⟩ rfl rfl (Nat.le_of_ble_eq_true rfl) dX5_readText_70 (Nat.zero_le _) (Nat.zero_le _) ?_
          obtain ⟨w1, w2⟩ := inS h
          clear h
          subst w1
          subst w2
          obtain ⟨e8, e7⟩ := hR23 _ rfl
          subst e7
          obtain ⟨hE, hc9, hs9⟩ := kR21 _ e8.symm
          exact g_zret B hE (nar_bI _) hc9 hs9 dX5_readText_73
      · replace h := ifp hc h
        refine g_iconst (v := 1) B dX5_readText_55 (by decide) ?_
        obtain ⟨w1, w2⟩ := inS h
        clear h
        subst w1
        subst w2
        obtain ⟨e8, e7⟩ := hR23 _ rfl
        subst e7
        obtain ⟨hE, hc9, hs9⟩ := kR21 _ e8.symm
        exact g_zret B hE rfl hc9 hs9 dX5_readText_56
  · replace h := ifn (bI0 hc) h
    refine g_iconst (v := 0) B dX5_readText_28 (by decide) ?_
    obtain ⟨w1, w2⟩ := inS h
    clear h
    subst w1
    subst w2
    exact g_zret B hE rfl (Nat.zero_le _) (Nat.zero_le _) dX5_readText_29
set_option maxRecDepth 100000 in
set_option maxHeartbeats 4000000 in
theorem cX6_initc {l : Launch} {v0 : Option Nat} {σ : HpT} {o : Except Nat (Unit)} {σ' : HpT} {a b : Nat} (h : fX6_init v0 σ = some (o, σ', a, b)) : IsK σ v0 6 ∧ Ct l yX6_init cX6_init 1 none 3 62 [va_rf v0] σ (oU o) σ' a b := by
  unfold fX6_init at h
  replace h := bnP_s h
  obtain ⟨u, hk, h⟩ := h
  replace hk := isK_s hk
  refine ⟨hk, ?_⟩
  refine ct_start mi_X6_init.1 rfl (al_le (al_1 (rf_cat _) al_n) (Nat.le_of_ble_eq_true rfl)) (ag_1 (rf_cat _) ag_n) (fun Δ Γ B hE hnm => ?_)
  have hka : 0 + a = a := Nat.zero_add a
  have hkb : 0 + b = b := Nat.zero_add b
  have hla : a ≤ a := Nat.le_refl a
  have hlb : b ≤ b := Nat.le_refl b
  refine g_aload_n B 0 dX6_init_0 rfl rfl ?_
  refine g_objInit9 B hk obj_RX6_1 (by decide) (Nat.le_of_ble_eq_true rfl) dX6_init_1 ?_
  refine g_aload_n B 0 dX6_init_4 rfl rfl ?_
  replace h := bnA_s h
  rcases h with ⟨e9, h2, e8⟩ | ⟨x1, s3, a4, b5, a6, b7, h2, h, ea, eb⟩
  · exact absurd h2 (by simp [nwA, nwR]; try (split <;> simp))
  · subst ea; subst eb
    have hka := bk hka
    have hkb := bk hkb
    refine g_new B nw_RX6_7 dX6_init_5 h2 (Nat.le_trans (bm hka) hla) (Nat.le_trans (bm hkb) hlb) ?_
    refine g_dup B dX6_init_8 (rf_cat _) ?_
    replace h := bnA_s h
    rcases h with ⟨e9, h9, e8⟩ | ⟨x8, s10, a11, b12, a13, b14, h9, h, ea, eb⟩
    · subst e8
      exact g_callIx (st := [va_rf x1, va_rf v0]) B (cJ4_init_da8c8c (o := .error e9) h9) mi_J4_init_da8c8 lk_RX6_9 ⟨Nat.le_of_ble_eq_true rfl, Nat.le_of_ble_eq_true rfl⟩ rfl rfl (Nat.le_of_ble_eq_true rfl) dX6_init_9 (Nat.le_trans (Nat.le_of_eq hka) hla) (Nat.le_trans (Nat.le_of_eq hkb) hlb) hE
    · subst ea; subst eb
      have hka := bk hka
      have hkb := bk hkb
      refine g_callIvA (st := [va_rf x1, va_rf v0]) B (cJ4_init_da8c8c (o := .ok x8) h9) mi_J4_init_da8c8 lk_RX6_9 ⟨Nat.le_of_ble_eq_true rfl, Nat.le_of_ble_eq_true rfl⟩ rfl rfl (Nat.le_of_ble_eq_true rfl) dX6_init_9 (Nat.le_trans (bm hka) hla) (Nat.le_trans (bm hkb) hlb) ?_
      replace h := bnP_s h
      obtain ⟨s17, h16, h⟩ := h
      refine g_putRF B fl_RX6_10 (by decide) (Or.inl ⟨_, rfl⟩) hnm dX6_init_12 h16 ?_
      obtain ⟨w1, w2, w3, w4⟩ := inA h
      clear h
      subst w1
      subst w2
      subst w3
      subst w4
      exact g_vret B hE (Nat.le_trans (Nat.le_of_eq hka) hla) (Nat.le_trans (Nat.le_of_eq hkb) hlb) dX6_init_15
set_option maxRecDepth 100000 in
set_option maxHeartbeats 4000000 in
theorem cX8_clausesFromc {l : Launch} {v0 : Option Nat} {v1 : Int32} {v2 : Int32} {σ : HpT} {r : Int32} (h : fX8_clausesFrom v0 v1 v2 σ = some r) : IsK σ v0 8 ∧ Ct l yX8_clausesFrom cX8_clausesFrom 5 (some .int) 0 0 [va_rf v0, .int v1, .int v2] σ (.ok (some (.int r))) σ 0 0 := by
  unfold fX8_clausesFrom at h
  replace h := bnP_s h
  obtain ⟨u, hk, h⟩ := h
  replace hk := isK_s hk
  refine ⟨hk, ?_⟩
  refine ct_start mi_X8_clausesFrom.1 rfl (al_le (al_1 (rf_cat _) (al_1 rfl (al_1 rfl al_n))) (Nat.le_of_ble_eq_true rfl)) (ag_1 (rf_cat _) (ag_1 rfl (ag_1 rfl ag_n))) (fun Δ Γ B hE hnm => ?_)
  refine g_iconst (v := 0) B dX8_clausesFrom_0 (by decide) ?_
  refine g_istore_n B dX8_clausesFrom_1 rfl (Nat.le_of_ble_eq_true rfl) (s1_c (f1_k rfl (f1_k rfl (f1_1 rfl rfl f1_n)))) ?_
  refine g_iload_n B 2 dX8_clausesFrom_2 rfl rfl ?_
  refine g_istore B dX8_clausesFrom_3 (Nat.le_of_ble_eq_true rfl) (s1_c (f1_1 rfl rfl (f1_k rfl (f1_k rfl (f1_k rfl f1_n))))) ?_
  replace h := bnP_s h
  obtain ⟨r2, h3, h⟩ := h
  have kE4 : GW Δ Γ (0) (0) 29 [(3, .int r2)] [] σ := by
    refine g_iload_n B 0 dX8_clausesFrom_29 rfl rfl ?_
    replace h := Option.some.inj h
    subst h
    exact g_iret B hE (Nat.zero_le _) (Nat.zero_le _) dX8_clausesFrom_30
  clear h
  refine g_sub [2, 3, 4, 1, 0] rfl ?_
  refine lpP_w (I := fun q1 => GW Δ Γ (0) (0) 5 [(0, va_rf v0), (1, .int v1), (2, .int v2), (3, .int q1.1), (4, .int q1.2)] [] σ) (r := r2) ?_ FUEL (0, v1) h3
  intro q1 x8 h hI6 hR7
  unfold fX8_clausesFrom_l1 at h
  refine g_iload B 4 dX8_clausesFrom_5 rfl ?_
  refine g_iload_n B 1 dX8_clausesFrom_7 rfl rfl ?_
  refine g_iload_n B 2 dX8_clausesFrom_8 rfl rfl ?_
  refine g_iadd B dX8_clausesFrom_9 ?_
  refine g_icmp_ge B 29 dX8_clausesFrom_10 (by decide) (fun hc => ?_) (fun hc => ?_)
  · replace h := ifp hc h
    replace h := Option.some.inj h
    subst h
    have e8 := hR7 _ rfl
    subst e8
    exact g_sub [3] rfl kE4
  · replace h := ifn hc h
    refine g_iload_n B 3 dX8_clausesFrom_13 rfl rfl ?_
    refine g_aload_n B 0 dX8_clausesFrom_14 rfl rfl ?_
    replace h := bnP_s h
    obtain ⟨x10, h11, h⟩ := h
    refine g_getR B fl_RX8_15 (by decide) dX8_clausesFrom_15 h11 ?_
    refine g_iload B 4 dX8_clausesFrom_18 rfl ?_
    replace h := bnP_s h
    obtain ⟨x12, h13, h⟩ := h
    refine g_iald B dX8_clausesFrom_20 h13 ?_
    refine g_iadd B dX8_clausesFrom_21 ?_
    refine g_istore_n B dX8_clausesFrom_22 rfl (Nat.le_of_ble_eq_true rfl) (s1_c (f1_k rfl (f1_k rfl (f1_1 rfl rfl (f1_x (f1_k rfl f1_n)))))) ?_
    refine g_iinc (v := (q1.2 + 1)) B 4 dX8_clausesFrom_23 rfl (by first | rfl | (congr 1; decide)) (Nat.le_of_ble_eq_true rfl) (s1_c (f1_1 rfl rfl (f1_k rfl (f1_k rfl (f1_k rfl (f1_x f1_n)))))) ?_
    refine g_goto B 5 dX8_clausesFrom_26 (by decide) ?_
    replace h := Option.some.inj h
    subst h
    exact g_sub [2, 3, 4, 1, 0] rfl (hI6 _ rfl)
set_option maxRecDepth 100000 in
set_option maxHeartbeats 4000000 in
theorem cX8_greatestDepthc {l : Launch} {v0 : Option Nat} {v1 : Int32} {v2 : Int32} {σ : HpT} {r : Int32} (h : fX8_greatestDepth v0 v1 v2 σ = some r) : IsK σ v0 8 ∧ Ct l yX8_greatestDepth cX8_greatestDepth 6 (some .int) 1 21 [va_rf v0, .int v1, .int v2] σ (.ok (some (.int r))) σ 0 0 := by
  unfold fX8_greatestDepth at h
  replace h := bnP_s h
  obtain ⟨u, hk, h⟩ := h
  replace hk := isK_s hk
  refine ⟨hk, ?_⟩
  refine ct_start mi_X8_greatestDepth.1 rfl (al_le (al_1 (rf_cat _) (al_1 rfl (al_1 rfl al_n))) (Nat.le_of_ble_eq_true rfl)) (ag_1 (rf_cat _) (ag_1 rfl (ag_1 rfl ag_n))) (fun Δ Γ B hE hnm => ?_)
  refine g_iconst (v := 0) B dX8_greatestDepth_0 (by decide) ?_
  refine g_istore_n B dX8_greatestDepth_1 rfl (Nat.le_of_ble_eq_true rfl) (s1_c (f1_k rfl (f1_k rfl (f1_1 rfl rfl f1_n)))) ?_
  refine g_iconst (v := 0) B dX8_greatestDepth_2 (by decide) ?_
  refine g_istore B dX8_greatestDepth_3 (Nat.le_of_ble_eq_true rfl) (s1_c (f1_1 rfl rfl (f1_k rfl (f1_k rfl (f1_k rfl f1_n))))) ?_
  refine g_iload_n B 3 dX8_greatestDepth_5 rfl rfl ?_
  refine g_istore B dX8_greatestDepth_6 (Nat.le_of_ble_eq_true rfl) (s1_c (f1_1 rfl rfl (f1_k rfl (f1_k rfl (f1_k rfl (f1_k rfl f1_n)))))) ?_
  replace h := bnP_s h
  obtain ⟨r2, h3, h⟩ := h
  have kE4 : GW Δ Γ (0) (0) 53 [(3, .int r2)] [] σ := by
    refine g_iload_n B 0 dX8_greatestDepth_53 rfl rfl ?_
    replace h := Option.some.inj h
    subst h
    exact g_iret B hE (Nat.zero_le _) (Nat.zero_le _) dX8_greatestDepth_54
  clear h
  refine g_sub [3, 4, 5, 2, 1, 0] rfl ?_
  refine lpP_w (I := fun q1 => GW Δ Γ (0) (0) 8 [(0, va_rf v0), (1, .int v1), (2, .int v2), (3, .int q1.1), (4, .int q1.2.1), (5, .int q1.2.2)] [] σ) (r := r2) ?_ FUEL (0, 0, v1) h3
  intro q1 x8 h hI6 hR7
  unfold fX8_greatestDepth_l1 at h
  refine g_iload B 5 dX8_greatestDepth_8 rfl ?_
  refine g_iload_n B 1 dX8_greatestDepth_10 rfl rfl ?_
  refine g_iload_n B 2 dX8_greatestDepth_11 rfl rfl ?_
  refine g_iadd B dX8_greatestDepth_12 ?_
  refine g_icmp_ge B 53 dX8_greatestDepth_13 (by decide) (fun hc => ?_) (fun hc => ?_)
  · replace h := ifp hc h
    replace h := Option.some.inj h
    subst h
    have e8 := hR7 _ rfl
    subst e8
    exact g_sub [3] rfl kE4
  · replace h := ifn hc h
    refine g_iload B 4 dX8_greatestDepth_16 rfl ?_
    refine g_aload_n B 0 dX8_greatestDepth_18 rfl rfl ?_
    replace h := bnP_s h
    obtain ⟨x10, h11, h⟩ := h
    refine g_getR B fl_RX8_15 (by decide) dX8_greatestDepth_19 h11 ?_
    refine g_iload B 5 dX8_greatestDepth_22 rfl ?_
    replace h := bnP_s h
    obtain ⟨x12, h13, h⟩ := h
    refine g_iald B dX8_greatestDepth_24 h13 ?_
    refine g_iadd B dX8_greatestDepth_25 ?_
    refine g_istore B dX8_greatestDepth_26 (Nat.le_of_ble_eq_true rfl) (s1_c (f1_k rfl (f1_k rfl (f1_k rfl (f1_1 rfl rfl (f1_x (f1_k rfl f1_n))))))) ?_
    refine g_iload_n B 4 dX8_greatestDepth_28 rfl rfl ?_
    refine g_iload B 0 dX8_greatestDepth_29 rfl ?_
    refine g_mmax B mt_RX8_59 (by decide) (Nat.le_of_ble_eq_true rfl) dX8_greatestDepth_31 (Nat.zero_le _) (Nat.zero_le _) ?_
    refine g_istore_n B dX8_greatestDepth_34 rfl (Nat.le_of_ble_eq_true rfl) (s1_c (f1_k rfl (f1_k rfl (f1_k rfl (f1_1 rfl rfl (f1_x (f1_k rfl f1_n))))))) ?_
    refine g_iload B 1 dX8_greatestDepth_35 rfl ?_
    refine g_aload_n B 2 dX8_greatestDepth_37 rfl rfl ?_
    replace h := bnP_s h
    obtain ⟨x14, h15, h⟩ := h
    refine g_getR B fl_RX8_19 (by decide) dX8_greatestDepth_38 h15 ?_
    refine g_iload B 5 dX8_greatestDepth_41 rfl ?_
    replace h := bnP_s h
    obtain ⟨x16, h17, h⟩ := h
    refine g_iald B dX8_greatestDepth_43 h17 ?_
    refine g_isub B dX8_greatestDepth_44 ?_
    refine g_istore B dX8_greatestDepth_45 (Nat.le_of_ble_eq_true rfl) (s1_c (f1_1 rfl rfl (f1_x (f1_k rfl (f1_k rfl (f1_k rfl (f1_k rfl f1_n))))))) ?_
    refine g_iinc (v := (q1.2.2 + 1)) B 5 dX8_greatestDepth_47 rfl (by first | rfl | (congr 1; decide)) (Nat.le_of_ble_eq_true rfl) (s1_c (f1_1 rfl rfl (f1_k rfl (f1_k rfl (f1_k rfl (f1_k rfl (f1_x f1_n))))))) ?_
    refine g_goto B 8 dX8_greatestDepth_50 (by decide) ?_
    replace h := Option.some.inj h
    subst h
    exact g_sub [3, 4, 5, 2, 1, 0] rfl (hI6 _ rfl)
set_option maxRecDepth 100000 in
set_option maxHeartbeats 4000000 in
theorem cX9_initc {l : Launch} {v0 : Option Nat} {σ : HpT} {o : Except Nat (Unit)} {σ' : HpT} {a b : Nat} (h : fX9_init v0 σ = some (o, σ', a, b)) : IsK σ v0 9 ∧ Ct l yX9_init cX9_init 1 none 4 82 [va_rf v0] σ (oU o) σ' a b := by
  unfold fX9_init at h
  replace h := bnP_s h
  obtain ⟨u, hk, h⟩ := h
  replace hk := isK_s hk
  refine ⟨hk, ?_⟩
  refine ct_start mi_X9_init.1 rfl (al_le (al_1 (rf_cat _) al_n) (Nat.le_of_ble_eq_true rfl)) (ag_1 (rf_cat _) ag_n) (fun Δ Γ B hE hnm => ?_)
  have hka : 0 + a = a := Nat.zero_add a
  have hkb : 0 + b = b := Nat.zero_add b
  have hla : a ≤ a := Nat.le_refl a
  have hlb : b ≤ b := Nat.le_refl b
  refine g_aload_n B 0 dX9_init_0 rfl rfl ?_
  refine g_objInit9 B hk obj_RX9_1 (by decide) (Nat.le_of_ble_eq_true rfl) dX9_init_1 ?_
  refine g_aload_n B 0 dX9_init_4 rfl rfl ?_
  refine g_sipush (v := 600) B dX9_init_5 (by decide) ?_
  replace h := bnA_s h
  rcases h with ⟨e9, h2, e8⟩ | ⟨x1, s3, a4, b5, a6, b7, h2, h, ea, eb⟩
  · exact absurd h2 (by simp [nwA, nwR]; try (split <;> simp))
  · subst ea; subst eb
    have hka := bk hka
    have hkb := bk hkb
    refine g_newarr B (Or.inr (Or.inr (Or.inl ⟨rfl, rfl⟩))) na_byte dX9_init_8 h2 (Nat.le_trans (bm hka) hla) (Nat.le_trans (bm hkb) hlb) ?_
    replace h := bnP_s h
    obtain ⟨s10, h9, h⟩ := h
    refine g_putRF B fl_RX9_9 (by decide) (Or.inr ⟨_, rfl⟩) hnm dX9_init_10 h9 ?_
    refine g_aload_n B 0 dX9_init_13 rfl rfl ?_
    refine g_iconst (v := (-1)) B dX9_init_14 (by decide) ?_
    replace h := bnP_s h
    obtain ⟨s13, h12, h⟩ := h
    refine g_putI B fl_RX9_13 (by decide) dX9_init_15 h12 ?_
    refine g_aload_n B 0 dX9_init_18 rfl rfl ?_
    replace h := bnA_s h
    rcases h with ⟨e9, h15, e8⟩ | ⟨x14, s16, a17, b18, a19, b20, h15, h, ea, eb⟩
    · exact absurd h15 (by simp [nwA, nwR]; try (split <;> simp))
    · subst ea; subst eb
      have hka := bk hka
      have hkb := bk hkb
      refine g_new B nw_RX9_17 dX9_init_19 h15 (Nat.le_trans (bm hka) hla) (Nat.le_trans (bm hkb) hlb) ?_
      refine g_dup B dX9_init_22 (rf_cat _) ?_
      replace h := bnA_s h
      rcases h with ⟨e9, h22, e8⟩ | ⟨x21, s23, a24, b25, a26, b27, h22, h, ea, eb⟩
      · subst e8
        exact g_callIx (st := [va_rf x14, va_rf v0]) B (cX1_initc (o := .error e9) h22) mi_X1_init lk_RX9_19 ⟨Nat.le_of_ble_eq_true rfl, Nat.le_of_ble_eq_true rfl⟩ rfl rfl (Nat.le_of_ble_eq_true rfl) dX9_init_23 (Nat.le_trans (Nat.le_of_eq hka) hla) (Nat.le_trans (Nat.le_of_eq hkb) hlb) hE
      · subst ea; subst eb
        have hka := bk hka
        have hkb := bk hkb
        refine g_callIvA (st := [va_rf x14, va_rf v0]) B (cX1_initc (o := .ok x21) h22) mi_X1_init lk_RX9_19 ⟨Nat.le_of_ble_eq_true rfl, Nat.le_of_ble_eq_true rfl⟩ rfl rfl (Nat.le_of_ble_eq_true rfl) dX9_init_23 (Nat.le_trans (bm hka) hla) (Nat.le_trans (bm hkb) hlb) ?_
        replace h := bnP_s h
        obtain ⟨s30, h29, h⟩ := h
        refine g_putR B fl_RX9_20 (by decide) (Or.inl ⟨_, rfl⟩) dX9_init_26 h29 ?_
        refine g_aload_n B 0 dX9_init_29 rfl rfl ?_
        replace h := bnA_s h
        rcases h with ⟨e9, h32, e8⟩ | ⟨x31, s33, a34, b35, a36, b37, h32, h, ea, eb⟩
        · exact absurd h32 (by simp [nwA, nwR]; try (split <;> simp))
        · subst ea; subst eb
          have hka := bk hka
          have hkb := bk hkb
          refine g_new B nw_RX9_17 dX9_init_30 h32 (Nat.le_trans (bm hka) hla) (Nat.le_trans (bm hkb) hlb) ?_
          refine g_dup B dX9_init_33 (rf_cat _) ?_
          replace h := bnA_s h
          rcases h with ⟨e9, h39, e8⟩ | ⟨x38, s40, a41, b42, a43, b44, h39, h, ea, eb⟩
          · subst e8
            exact g_callIx (st := [va_rf x31, va_rf v0]) B (cX1_initc (o := .error e9) h39) mi_X1_init lk_RX9_19 ⟨Nat.le_of_ble_eq_true rfl, Nat.le_of_ble_eq_true rfl⟩ rfl rfl (Nat.le_of_ble_eq_true rfl) dX9_init_34 (Nat.le_trans (Nat.le_of_eq hka) hla) (Nat.le_trans (Nat.le_of_eq hkb) hlb) hE
          · subst ea; subst eb
            have hka := bk hka
            have hkb := bk hkb
            refine g_callIvA (st := [va_rf x31, va_rf v0]) B (cX1_initc (o := .ok x38) h39) mi_X1_init lk_RX9_19 ⟨Nat.le_of_ble_eq_true rfl, Nat.le_of_ble_eq_true rfl⟩ rfl rfl (Nat.le_of_ble_eq_true rfl) dX9_init_34 (Nat.le_trans (bm hka) hla) (Nat.le_trans (bm hkb) hlb) ?_
            replace h := bnP_s h
            obtain ⟨s47, h46, h⟩ := h
            refine g_putR B fl_RX9_24 (by decide) (Or.inl ⟨_, rfl⟩) dX9_init_37 h46 ?_
            refine g_aload_n B 0 dX9_init_40 rfl rfl ?_
            replace h := bnA_s h
            rcases h with ⟨e9, h49, e8⟩ | ⟨x48, s50, a51, b52, a53, b54, h49, h, ea, eb⟩
            · exact absurd h49 (by simp [nwA, nwR]; try (split <;> simp))
            · subst ea; subst eb
              have hka := bk hka
              have hkb := bk hkb
              refine g_new B nw_RX9_27 dX9_init_41 h49 (Nat.le_trans (bm hka) hla) (Nat.le_trans (bm hkb) hlb) ?_
              refine g_dup B dX9_init_44 (rf_cat _) ?_
              replace h := bnA_s h
              rcases h with ⟨e9, h56, e8⟩ | ⟨x55, s57, a58, b59, a60, b61, h56, h, ea, eb⟩
              · subst e8
                exact g_callNIx (st := [va_rf x48, va_rf v0]) B (cX5_initc (o := .error e9) h56) mi_X5_init lk_RX9_29 ⟨Nat.le_of_ble_eq_true rfl, Nat.le_of_ble_eq_true rfl⟩ rfl rfl (Nat.le_of_ble_eq_true rfl) dX9_init_45 (Nat.le_trans (Nat.le_of_eq hka) hla) (Nat.le_trans (Nat.le_of_eq hkb) hlb) hE
              · subst ea; subst eb
                have hka := bk hka
                have hkb := bk hkb
                refine g_callNIvA (st := [va_rf x48, va_rf v0]) B (cX5_initc (o := .ok x55) h56) mi_X5_init lk_RX9_29 ⟨Nat.le_of_ble_eq_true rfl, Nat.le_of_ble_eq_true rfl⟩ rfl rfl (Nat.le_of_ble_eq_true rfl) dX9_init_45 (Nat.le_trans (bm hka) hla) (Nat.le_trans (bm hkb) hlb) ?_
                replace h := bnP_s h
                obtain ⟨s64, h63, h⟩ := h
                refine g_putRF B fl_RX9_30 (by decide) (Or.inl ⟨_, rfl⟩) hnm dX9_init_48 h63 ?_
                refine g_aload_n B 0 dX9_init_51 rfl rfl ?_
                refine g_bipush (v := 8) B dX9_init_52 (by decide) ?_
                replace h := bnA_s h
                rcases h with ⟨e9, h66, e8⟩ | ⟨x65, s67, a68, b69, a70, b71, h66, h, ea, eb⟩
                · exact absurd h66 (by simp [nwA, nwR]; try (split <;> simp))
                · subst ea; subst eb
                  have hka := bk hka
                  have hkb := bk hkb
                  refine g_anew B (κ := 27) (by decide) an_RX9_17.1 an_RX9_17.2 (fun _ => rfl) (by decide +kernel : _ = "[LNotaryBook$Book;") dX9_init_54 h66 (Nat.le_trans (bm hka) hla) (Nat.le_trans (bm hkb) hlb) ?_
                  replace h := bnP_s h
                  obtain ⟨s74, h73, h⟩ := h
                  refine g_putRF B fl_RX9_34 (by decide) (Or.inr ⟨_, rfl⟩) hnm dX9_init_57 h73 ?_
                  refine g_aload_n B 0 dX9_init_60 rfl rfl ?_
                  refine g_iconst (v := 2) B dX9_init_61 (by decide) ?_
                  replace h := bnA_s h
                  rcases h with ⟨e9, h76, e8⟩ | ⟨x75, s77, a78, b79, a80, b81, h76, h, ea, eb⟩
                  · exact absurd h76 (by simp [nwA, nwR]; try (split <;> simp))
                  · subst ea; subst eb
                    have hka := bk hka
                    have hkb := bk hkb
                    refine g_anew B (κ := 27) (by decide) an_RX9_17.1 an_RX9_17.2 (fun _ => rfl) (by decide +kernel : _ = "[LNotaryBook$Book;") dX9_init_62 h76 (Nat.le_trans (bm hka) hla) (Nat.le_trans (bm hkb) hlb) ?_
                    replace h := bnP_s h
                    obtain ⟨s84, h83, h⟩ := h
                    refine g_putRF B fl_RX9_38 (by decide) (Or.inr ⟨_, rfl⟩) hnm dX9_init_65 h83 ?_
                    refine g_aload_n B 0 dX9_init_68 rfl rfl ?_
                    refine g_iconst (v := 2) B dX9_init_69 (by decide) ?_
                    replace h := bnA_s h
                    rcases h with ⟨e9, h86, e8⟩ | ⟨x85, s87, a88, b89, a90, b91, h86, h, ea, eb⟩
                    · exact absurd h86 (by simp [nwA, nwR]; try (split <;> simp))
                    · subst ea; subst eb
                      have hka := bk hka
                      have hkb := bk hkb
                      refine g_newarr B (Or.inr (Or.inr (Or.inr ⟨rfl, rfl⟩))) na_boolean dX9_init_70 h86 (Nat.le_trans (bm hka) hla) (Nat.le_trans (bm hkb) hlb) ?_
                      replace h := bnP_s h
                      obtain ⟨s94, h93, h⟩ := h
                      refine g_putRF B fl_RX9_41 (by decide) (Or.inr ⟨_, rfl⟩) hnm dX9_init_72 h93 ?_
                      refine g_aload_n B 0 dX9_init_75 rfl rfl ?_
                      replace h := bnA_s h
                      rcases h with ⟨e9, h96, e8⟩ | ⟨x95, s97, a98, b99, a100, b101, h96, h, ea, eb⟩
                      · exact absurd h96 (by simp [nwA, nwR]; try (split <;> simp))
                      · subst ea; subst eb
                        have hka := bk hka
                        have hkb := bk hkb
                        refine g_new B nw_RX9_45 dX9_init_76 h96 (Nat.le_trans (bm hka) hla) (Nat.le_trans (bm hkb) hlb) ?_
                        refine g_dup B dX9_init_79 (rf_cat _) ?_
                        replace h := bnA_s h
                        rcases h with ⟨e9, h103, e8⟩ | ⟨x102, s104, a105, b106, a107, b108, h103, h, ea, eb⟩
                        · subst e8
                          exact g_callNIx (st := [va_rf x95, va_rf v0]) B (cX4_initc (o := .error e9) h103) mi_X4_init lk_RX9_47 ⟨Nat.le_of_ble_eq_true rfl, Nat.le_of_ble_eq_true rfl⟩ rfl rfl (Nat.le_of_ble_eq_true rfl) dX9_init_80 (Nat.le_trans (Nat.le_of_eq hka) hla) (Nat.le_trans (Nat.le_of_eq hkb) hlb) hE
                        · subst ea; subst eb
                          have hka := bk hka
                          have hkb := bk hkb
                          refine g_callNIvA (st := [va_rf x95, va_rf v0]) B (cX4_initc (o := .ok x102) h103) mi_X4_init lk_RX9_47 ⟨Nat.le_of_ble_eq_true rfl, Nat.le_of_ble_eq_true rfl⟩ rfl rfl (Nat.le_of_ble_eq_true rfl) dX9_init_80 (Nat.le_trans (bm hka) hla) (Nat.le_trans (bm hkb) hlb) ?_
                          replace h := bnP_s h
                          obtain ⟨s111, h110, h⟩ := h
                          refine g_putRF B fl_RX9_48 (by decide) (Or.inl ⟨_, rfl⟩) hnm dX9_init_83 h110 ?_
                          refine g_aload_n B 0 dX9_init_86 rfl rfl ?_
                          replace h := bnA_s h
                          rcases h with ⟨e9, h113, e8⟩ | ⟨x112, s114, a115, b116, a117, b118, h113, h, ea, eb⟩
                          · exact absurd h113 (by simp [nwA, nwR]; try (split <;> simp))
                          · subst ea; subst eb
                            have hka := bk hka
                            have hkb := bk hkb
                            refine g_new B nw_RX9_52 dX9_init_87 h113 (Nat.le_trans (bm hka) hla) (Nat.le_trans (bm hkb) hlb) ?_
                            refine g_dup B dX9_init_90 (rf_cat _) ?_
                            replace h := bnA_s h
                            rcases h with ⟨e9, h120, e8⟩ | ⟨x119, s121, a122, b123, a124, b125, h120, h, ea, eb⟩
                            · subst e8
                              exact g_callNIx (st := [va_rf x112, va_rf v0]) B (cX6_initc (o := .error e9) h120) mi_X6_init lk_RX9_54 ⟨Nat.le_of_ble_eq_true rfl, Nat.le_of_ble_eq_true rfl⟩ rfl rfl (Nat.le_of_ble_eq_true rfl) dX9_init_91 (Nat.le_trans (Nat.le_of_eq hka) hla) (Nat.le_trans (Nat.le_of_eq hkb) hlb) hE
                            · subst ea; subst eb
                              have hka := bk hka
                              have hkb := bk hkb
                              refine g_callNIvA (st := [va_rf x112, va_rf v0]) B (cX6_initc (o := .ok x119) h120) mi_X6_init lk_RX9_54 ⟨Nat.le_of_ble_eq_true rfl, Nat.le_of_ble_eq_true rfl⟩ rfl rfl (Nat.le_of_ble_eq_true rfl) dX9_init_91 (Nat.le_trans (bm hka) hla) (Nat.le_trans (bm hkb) hlb) ?_
                              replace h := bnP_s h
                              obtain ⟨s128, h127, h⟩ := h
                              refine g_putRF B fl_RX9_55 (by decide) (Or.inl ⟨_, rfl⟩) hnm dX9_init_94 h127 ?_
                              obtain ⟨w1, w2, w3, w4⟩ := inA h
                              clear h
                              subst w1
                              subst w2
                              subst w3
                              subst w4
                              exact g_vret B hE (Nat.le_trans (Nat.le_of_eq hka) hla) (Nat.le_trans (Nat.le_of_eq hkb) hlb) dX9_init_97
set_option maxRecDepth 100000 in
set_option maxHeartbeats 4000000 in
theorem cX9_putFourBytesc {l : Launch} {v0 : Option Nat} {v1 : Int32} {σ : HpT} {σ' : HpT} (h : fX9_putFourBytes v0 v1 σ = some σ') : IsK σ v0 9 ∧ Ct l yX9_putFourBytes cX9_putFourBytes 3 none 0 0 [va_rf v0, .int v1] σ (.ok none) σ' 0 0 := by
  unfold fX9_putFourBytes at h
  replace h := bnP_s h
  obtain ⟨u, hk, h⟩ := h
  replace hk := isK_s hk
  refine ⟨hk, ?_⟩
  refine ct_start mi_X9_putFourBytes.1 rfl (al_le (al_1 (rf_cat _) (al_1 rfl al_n)) (Nat.le_of_ble_eq_true rfl)) (ag_1 (rf_cat _) (ag_1 rfl ag_n)) (fun Δ Γ B hE hnm => ?_)
  refine g_bipush (v := 24) B dX9_putFourBytes_0 (by decide) ?_
  refine g_istore_n B dX9_putFourBytes_2 rfl (Nat.le_of_ble_eq_true rfl) (s1_c (f1_k rfl (f1_1 rfl rfl f1_n))) ?_
  replace h := bnS_s h
  obtain ⟨r2, s25, h3, h⟩ := h
  have kE4 : GW Δ Γ (0) (0) 46 [] [] s25 := by
    replace h := Option.some.inj h
    subst h
    exact g_vret B hE (Nat.zero_le _) (Nat.zero_le _) dX9_putFourBytes_46
  clear h
  refine g_sub [1, 2, 0] rfl ?_
  refine lpS_w (I := fun q1 s10 => GW Δ Γ (0) (0) 3 [(0, va_rf v0), (1, .int v1), (2, .int q1)] [] s10) (r := r2) (σr := s25) ?_ FUEL 24 σ h3
  intro q1 s10 x8 s9 h hI6 hR7
  unfold fX9_putFourBytes_l1 at h
  refine g_iload_n B 2 dX9_putFourBytes_3 rfl rfl ?_
  refine g_if_lt B 46 dX9_putFourBytes_4 (by decide) (fun hc => ?_) (fun hc => ?_)
  · replace h := ifp hc h
    obtain ⟨w1, w2⟩ := inS h
    clear h
    subst w1
    subst w2
    obtain ⟨e8, e7⟩ := hR7 _ rfl
    subst e8
    subst e7
    exact g_sub [] rfl kE4
  · replace h := ifn hc h
    refine g_aload_n B 0 dX9_putFourBytes_7 rfl rfl ?_
    replace h := bnP_s h
    obtain ⟨x11, h12, h⟩ := h
    refine g_getI B fl_RX9_59 (by decide) dX9_putFourBytes_8 h12 ?_
    refine g_sipush (v := 600) B dX9_putFourBytes_11 (by decide) ?_
    refine g_icmp_ge B 46 dX9_putFourBytes_14 (by decide) (fun hc => ?_) (fun hc => ?_)
    · replace h := ifp hc h
      obtain ⟨w1, w2⟩ := inS h
      clear h
      subst w1
      subst w2
      obtain ⟨e8, e7⟩ := hR7 _ rfl
      subst e8
      subst e7
      exact g_sub [] rfl kE4
    · replace h := ifn hc h
      refine g_aload_n B 0 dX9_putFourBytes_17 rfl rfl ?_
      replace h := bnP_s h
      obtain ⟨x13, h14, h⟩ := h
      refine g_getR B fl_RX9_9 (by decide) dX9_putFourBytes_18 h14 ?_
      refine g_aload_n B 0 dX9_putFourBytes_21 rfl rfl ?_
      replace h := bnP_s h
      obtain ⟨x15, h16, h⟩ := h
      refine g_getI B fl_RX9_59 (by decide) dX9_putFourBytes_22 h16 ?_
      refine g_iload_n B 1 dX9_putFourBytes_25 rfl rfl ?_
      refine g_iload_n B 2 dX9_putFourBytes_26 rfl rfl ?_
      refine g_ishr B dX9_putFourBytes_27 ?_
      refine g_i2b B dX9_putFourBytes_28 ?_
      replace h := bnP_s h
      obtain ⟨s19, h18, h⟩ := h
      refine g_bast B dX9_putFourBytes_29 h18 ?_
      refine g_aload_n B 0 dX9_putFourBytes_30 rfl rfl ?_
      refine g_dup B dX9_putFourBytes_31 (rf_cat _) ?_
      replace h := bnP_s h
      obtain ⟨x20, h21, h⟩ := h
      refine g_getI B fl_RX9_59 (by decide) dX9_putFourBytes_32 h21 ?_
      refine g_iconst (v := 1) B dX9_putFourBytes_35 (by decide) ?_
      refine g_iadd B dX9_putFourBytes_36 ?_
      replace h := bnP_s h
      obtain ⟨s24, h23, h⟩ := h
      refine g_putI B fl_RX9_59 (by decide) dX9_putFourBytes_37 h23 ?_
      refine g_iinc (v := (q1 + (-8))) B 2 dX9_putFourBytes_40 rfl (by first | rfl | (congr 1; decide)) (Nat.le_of_ble_eq_true rfl) (s1_c (f1_k rfl (f1_1 rfl rfl (f1_x f1_n)))) ?_
      refine g_goto B 3 dX9_putFourBytes_43 (by decide) ?_
      obtain ⟨w1, w2⟩ := inS h
      clear h
      subst w1
      subst w2
      exact g_sub [1, 2, 0] rfl (hI6 _ rfl)
set_option maxRecDepth 100000 in
set_option maxHeartbeats 4000000 in
theorem cX9_appendc {l : Launch} {v0 : Option Nat} {v1 : Int32} {v2 : Int32} {v3 : Int32} {v4 : Int32} {v5 : Int32} {σ : HpT} {r : Int32} {σ' : HpT} (h : fX9_append v0 v1 v2 v3 v4 v5 σ = some (r, σ')) : IsK σ v0 9 ∧ Ct l yX9_append cX9_append 6 (some .int) 1 22 [va_rf v0, .int v1, .int v2, .int v3, .int v4, .int v5] σ (.ok (some (.int r))) σ' 0 0 := by
  unfold fX9_append at h
  replace h := bnP_s h
  obtain ⟨u, hk, h⟩ := h
  replace hk := isK_s hk
  refine ⟨hk, ?_⟩
  refine ct_start mi_X9_append.1 rfl (al_le (al_1 (rf_cat _) (al_1 rfl (al_1 rfl (al_1 rfl (al_1 rfl (al_1 rfl al_n)))))) (Nat.le_of_ble_eq_true rfl)) (ag_1 (rf_cat _) (ag_1 rfl (ag_1 rfl (ag_1 rfl (ag_1 rfl (ag_1 rfl ag_n)))))) (fun Δ Γ B hE hnm => ?_)
  refine g_aload_n B 0 dX9_append_0 rfl rfl ?_
  replace h := bnP_s h
  obtain ⟨x1, h2, h⟩ := h
  refine g_getI B fl_RX9_59 (by decide) dX9_append_1 h2 ?_
  refine g_bipush (v := 20) B dX9_append_4 (by decide) ?_
  refine g_iadd B dX9_append_6 ?_
  refine g_sipush (v := 600) B dX9_append_7 (by decide) ?_
  refine g_icmp_le B 15 dX9_append_10 (by decide) (fun hc => ?_) (fun hc => ?_)
  · replace h := ifp hc h
    refine g_aload_n B 0 dX9_append_15 rfl rfl ?_
    refine g_iload_n B 1 dX9_append_16 rfl rfl ?_
    replace h := bnP_s h
    obtain ⟨s5, h4, h⟩ := h
    refine g_callVv0 (st := []) B (cX9_putFourBytesc h4) (Nat.le_of_ble_eq_true rfl) rfl rfl mi_X9_putFourBytes lk_RX9_62 ⟨Nat.le_of_ble_eq_true rfl, Nat.le_of_ble_eq_true rfl⟩ rfl rfl (Nat.le_of_ble_eq_true rfl) dX9_append_17 (Nat.zero_le _) (Nat.zero_le _) ?_
    refine g_aload_n B 0 dX9_append_20 rfl rfl ?_
    refine g_iload_n B 2 dX9_append_21 rfl rfl ?_
    replace h := bnP_s h
    obtain ⟨s8, h7, h⟩ := h
    refine g_callVv0 (st := []) B (cX9_putFourBytesc h7) (Nat.le_of_ble_eq_true rfl) rfl rfl mi_X9_putFourBytes lk_RX9_62 ⟨Nat.le_of_ble_eq_true rfl, Nat.le_of_ble_eq_true rfl⟩ rfl rfl (Nat.le_of_ble_eq_true rfl) dX9_append_22 (Nat.zero_le _) (Nat.zero_le _) ?_
    refine g_aload_n B 0 dX9_append_25 rfl rfl ?_
    refine g_iload_n B 3 dX9_append_26 rfl rfl ?_
    replace h := bnP_s h
    obtain ⟨s11, h10, h⟩ := h
    refine g_callVv0 (st := []) B (cX9_putFourBytesc h10) (Nat.le_of_ble_eq_true rfl) rfl rfl mi_X9_putFourBytes lk_RX9_62 ⟨Nat.le_of_ble_eq_true rfl, Nat.le_of_ble_eq_true rfl⟩ rfl rfl (Nat.le_of_ble_eq_true rfl) dX9_append_27 (Nat.zero_le _) (Nat.zero_le _) ?_
    refine g_aload_n B 0 dX9_append_30 rfl rfl ?_
    refine g_iload B 4 dX9_append_31 rfl ?_
    replace h := bnP_s h
    obtain ⟨s14, h13, h⟩ := h
    refine g_callVv0 (st := []) B (cX9_putFourBytesc h13) (Nat.le_of_ble_eq_true rfl) rfl rfl mi_X9_putFourBytes lk_RX9_62 ⟨Nat.le_of_ble_eq_true rfl, Nat.le_of_ble_eq_true rfl⟩ rfl rfl (Nat.le_of_ble_eq_true rfl) dX9_append_33 (Nat.zero_le _) (Nat.zero_le _) ?_
    refine g_aload_n B 0 dX9_append_36 rfl rfl ?_
    refine g_iload B 5 dX9_append_37 rfl ?_
    replace h := bnP_s h
    obtain ⟨s17, h16, h⟩ := h
    refine g_callVv0 (st := []) B (cX9_putFourBytesc h16) (Nat.le_of_ble_eq_true rfl) rfl rfl mi_X9_putFourBytes lk_RX9_62 ⟨Nat.le_of_ble_eq_true rfl, Nat.le_of_ble_eq_true rfl⟩ rfl rfl (Nat.le_of_ble_eq_true rfl) dX9_append_39 (Nat.zero_le _) (Nat.zero_le _) ?_
    refine g_aload_n B 0 dX9_append_42 rfl rfl ?_
    replace h := bnP_s h
    obtain ⟨x18, h19, h⟩ := h
    refine g_getI B fl_RX9_59 (by decide) dX9_append_43 h19 ?_
    obtain ⟨w1, w2⟩ := inS h
    clear h
    subst w1
    subst w2
    exact g_iret B hE (Nat.zero_le _) (Nat.zero_le _) dX9_append_46
  · replace h := ifn hc h
    refine g_iconst (v := (-1)) B dX9_append_13 (by decide) ?_
    obtain ⟨w1, w2⟩ := inS h
    clear h
    subst w1
    subst w2
    exact g_iret B hE (Nat.zero_le _) (Nat.zero_le _) dX9_append_14
set_option maxRecDepth 100000 in
set_option maxHeartbeats 4000000 in
theorem cX9_requireBytesc {l : Launch} {v0 : Option Nat} {v1 : Int32} {σ : HpT} {o : Except Nat (Unit)} (h : fX9_requireBytes v0 v1 σ = some o) : IsK σ v0 9 ∧ Ct l yX9_requireBytes cX9_requireBytes 2 none 6 90 [va_rf v0, .int v1] σ (oU o) σ (xc o) (xs o) := by
  unfold fX9_requireBytes at h
  replace h := bnP_s h
  obtain ⟨u, hk, h⟩ := h
  replace hk := isK_s hk
  refine ⟨hk, ?_⟩
  refine ct_start mi_X9_requireBytes.1 rfl (al_le (al_1 (rf_cat _) (al_1 rfl al_n)) (Nat.le_of_ble_eq_true rfl)) (ag_1 (rf_cat _) (ag_1 rfl ag_n)) (fun Δ Γ B hE hnm => ?_)
  refine g_iload_n B 1 dX9_requireBytes_0 rfl rfl ?_
  refine g_if_lt B 12 dX9_requireBytes_1 (by decide) (fun hc => ?_) (fun hc => ?_)
  · replace h := ifp hc h
    replace h := Option.some.inj h
    subst h
    exact g_throwW B tw_RX9_238_242 (j := 0) rfl hE (by decide) (Nat.le_of_ble_eq_true rfl) dX9_requireBytes_12 dX9_requireBytes_15 dX9_requireBytes_16 dX9_requireBytes_19 dX9_requireBytes_22 (Nat.le_refl 1) (Nat.le_refl 6)
  · replace h := ifn hc h
    refine g_iload_n B 1 dX9_requireBytes_4 rfl rfl ?_
    refine g_aload_n B 0 dX9_requireBytes_5 rfl rfl ?_
    replace h := bnP_s h
    obtain ⟨x1, h2, h⟩ := h
    refine g_getI B fl_RX9_59 (by decide) dX9_requireBytes_6 h2 ?_
    refine g_icmp_le B 23 dX9_requireBytes_9 (by decide) (fun hc => ?_) (fun hc => ?_)
    · replace h := ifp hc h
      replace h := Option.some.inj h
      subst h
      exact g_vret B hE (Nat.zero_le _) (Nat.zero_le _) dX9_requireBytes_23
    · replace h := ifn hc h
      replace h := Option.some.inj h
      subst h
      exact g_throwW B tw_RX9_238_242 (j := 0) rfl hE (by decide) (Nat.le_of_ble_eq_true rfl) dX9_requireBytes_12 dX9_requireBytes_15 dX9_requireBytes_16 dX9_requireBytes_19 dX9_requireBytes_22 (Nat.le_refl 1) (Nat.le_refl 6)
set_option maxRecDepth 100000 in
set_option maxHeartbeats 4000000 in
theorem cX9_forgetPastc {l : Launch} {v0 : Option Nat} {σ : HpT} {σ' : HpT} (h : fX9_forgetPast v0 σ = some σ') : IsK σ v0 9 ∧ Ct l yX9_forgetPast cX9_forgetPast 1 none 0 0 [va_rf v0] σ (.ok none) σ' 0 0 := by
  unfold fX9_forgetPast at h
  replace h := bnP_s h
  obtain ⟨u, hk, h⟩ := h
  replace hk := isK_s hk
  refine ⟨hk, ?_⟩
  refine ct_start mi_X9_forgetPast.1 rfl (al_le (al_1 (rf_cat _) al_n) (Nat.le_of_ble_eq_true rfl)) (ag_1 (rf_cat _) ag_n) (fun Δ Γ B hE hnm => ?_)
  refine g_aload_n B 0 dX9_forgetPast_0 rfl rfl ?_
  refine g_iconst (v := 0) B dX9_forgetPast_1 (by decide) ?_
  replace h := bnP_s h
  obtain ⟨s3, h2, h⟩ := h
  refine g_putI B fl_RX9_499 (by decide) dX9_forgetPast_2 h2 ?_
  refine g_aload_n B 0 dX9_forgetPast_5 rfl rfl ?_
  refine g_iconst (v := 0) B dX9_forgetPast_6 (by decide) ?_
  replace h := bnP_s h
  obtain ⟨s6, h5, h⟩ := h
  refine g_putI B fl_RX9_491 (by decide) dX9_forgetPast_7 h5 ?_
  replace h := Option.some.inj h
  subst h
  exact g_vret B hE (Nat.zero_le _) (Nat.zero_le _) dX9_forgetPast_10
