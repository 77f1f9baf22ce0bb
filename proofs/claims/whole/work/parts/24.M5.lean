theorem mi_X10_actWith : MI yX10_actWith cX10_actWith 4 (some .int) 2 := ⟨by decide +kernel, (mw (i := 2660) (by decide +kernel) rfl), (mw (i := 176) (by decide +kernel) rfl), by decide +kernel, by decide +kernel⟩
theorem mi_X10_areLetters : MI yX10_areLetters cX10_areLetters 3 (some .boolean) 1 := ⟨by decide +kernel, (mw (i := 2656) (by decide +kernel) rfl), (mw (i := 176) (by decide +kernel) rfl), by decide +kernel, by decide +kernel⟩
theorem mi_X10_common : MI yX10_common cX10_common 5 (some .int) 2 := ⟨by decide +kernel, (mw (i := 2676) (by decide +kernel) rfl), (mw (i := 176) (by decide +kernel) rfl), by decide +kernel, by decide +kernel⟩
theorem mi_X10_findWord : MI yX10_findWord cX10_findWord 2 (some .int) 1 := ⟨by decide +kernel, (mw (i := 2652) (by decide +kernel) rfl), (mw (i := 176) (by decide +kernel) rfl), by decide +kernel, by decide +kernel⟩
theorem mi_X10_isAlike : MI yX10_isAlike cX10_isAlike 4 (some .boolean) 3 := ⟨by decide +kernel, (mw (i := 2668) (by decide +kernel) rfl), (mw (i := 176) (by decide +kernel) rfl), by decide +kernel, by decide +kernel⟩
theorem mi_X10_isWrittenIn : MI yX10_isWrittenIn cX10_isWrittenIn 5 (some .boolean) 3 := ⟨by decide +kernel, (mw (i := 2680) (by decide +kernel) rfl), (mw (i := 176) (by decide +kernel) rfl), by decide +kernel, by decide +kernel⟩
theorem mi_X10_knownShare : MI yX10_knownShare cX10_knownShare 1 (some .float) 0 := ⟨by decide +kernel, (mw (i := 2684) (by decide +kernel) rfl), (mw (i := 176) (by decide +kernel) rfl), by decide +kernel, by decide +kernel⟩
theorem mi_X10_longest : MI yX10_longest cX10_longest 7 (some .int) 1 := ⟨by decide +kernel, (mw (i := 2672) (by decide +kernel) rfl), (mw (i := 176) (by decide +kernel) rfl), by decide +kernel, by decide +kernel⟩
theorem mi_X10_meanWords : MI yX10_meanWords cX10_meanWords 1 (some .double) 0 := ⟨by decide +kernel, (mw (i := 2688) (by decide +kernel) rfl), (mw (i := 176) (by decide +kernel) rfl), by decide +kernel, by decide +kernel⟩
theorem mi_X10_remembers : MI yX10_remembers cX10_remembers 2 none 0 := ⟨by decide +kernel, (mw (i := 2768) (by decide +kernel) rfl), (mw (i := 176) (by decide +kernel) rfl), by decide +kernel, by decide +kernel⟩
theorem mi_X10_standsAt : MI yX10_standsAt cX10_standsAt 6 (some .boolean) 3 := ⟨by decide +kernel, (mw (i := 2664) (by decide +kernel) rfl), (mw (i := 176) (by decide +kernel) rfl), by decide +kernel, by decide +kernel⟩
theorem mi_X10_textByte : MI yX10_textByte cX10_textByte 2 (some .int) 1 := ⟨by decide +kernel, (mw (i := 2752) (by decide +kernel) rfl), (mw (i := 176) (by decide +kernel) rfl), by decide +kernel, by decide +kernel⟩
theorem mi_X10_writeAct : MI yX10_writeAct cX10_writeAct 3 (some .int) 1 := ⟨by decide +kernel, (mw (i := 2692) (by decide +kernel) rfl), (mw (i := 176) (by decide +kernel) rfl), by decide +kernel, by decide +kernel⟩
theorem mi_X10_writeCopy : MI yX10_writeCopy cX10_writeCopy 4 (some .int) 1 := ⟨by decide +kernel, (mw (i := 2744) (by decide +kernel) rfl), (mw (i := 176) (by decide +kernel) rfl), by decide +kernel, by decide +kernel⟩
theorem mi_X10_writeLeaf : MI yX10_writeLeaf cX10_writeLeaf 3 (some .int) 1 := ⟨by decide +kernel, (mw (i := 2732) (by decide +kernel) rfl), (mw (i := 176) (by decide +kernel) rfl), by decide +kernel, by decide +kernel⟩
theorem mi_X10_writeStanding : MI yX10_writeStanding cX10_writeStanding 3 (some .int) 1 := ⟨by decide +kernel, (mw (i := 2724) (by decide +kernel) rfl), (mw (i := 176) (by decide +kernel) rfl), by decide +kernel, by decide +kernel⟩
theorem mi_X10_writesBlank : MI yX10_writesBlank cX10_writesBlank 1 none 0 := ⟨by decide +kernel, (mw (i := 2700) (by decide +kernel) rfl), (mw (i := 176) (by decide +kernel) rfl), by decide +kernel, by decide +kernel⟩
theorem mi_X10_writesByte : MI yX10_writesByte cX10_writesByte 2 none 1 := ⟨by decide +kernel, (mw (i := 2704) (by decide +kernel) rfl), (mw (i := 176) (by decide +kernel) rfl), by decide +kernel, by decide +kernel⟩
theorem mi_X10_writesClosing : MI yX10_writesClosing cX10_writesClosing 4 none 2 := ⟨by decide +kernel, (mw (i := 2720) (by decide +kernel) rfl), (mw (i := 176) (by decide +kernel) rfl), by decide +kernel, by decide +kernel⟩
theorem mi_X10_writesInner : MI yX10_writesInner cX10_writesInner 4 none 2 := ⟨by decide +kernel, (mw (i := 2716) (by decide +kernel) rfl), (mw (i := 176) (by decide +kernel) rfl), by decide +kernel, by decide +kernel⟩
theorem mi_X10_writesLetters : MI yX10_writesLetters cX10_writesLetters 3 none 1 := ⟨by decide +kernel, (mw (i := 2712) (by decide +kernel) rfl), (mw (i := 176) (by decide +kernel) rfl), by decide +kernel, by decide +kernel⟩
theorem mi_X10_writesNumber : MI yX10_writesNumber cX10_writesNumber 2 none 1 := ⟨by decide +kernel, (mw (i := 2740) (by decide +kernel) rfl), (mw (i := 176) (by decide +kernel) rfl), by decide +kernel, by decide +kernel⟩
theorem mi_X10_writesOnLeaf : MI yX10_writesOnLeaf cX10_writesOnLeaf 3 none 1 := ⟨by decide +kernel, (mw (i := 2736) (by decide +kernel) rfl), (mw (i := 176) (by decide +kernel) rfl), by decide +kernel, by decide +kernel⟩
theorem mi_X10_writesOpening : MI yX10_writesOpening cX10_writesOpening 4 none 2 := ⟨by decide +kernel, (mw (i := 2696) (by decide +kernel) rfl), (mw (i := 176) (by decide +kernel) rfl), by decide +kernel, by decide +kernel⟩
theorem mi_X10_writesWord : MI yX10_writesWord cX10_writesWord 3 none 2 := ⟨by decide +kernel, (mw (i := 2708) (by decide +kernel) rfl), (mw (i := 176) (by decide +kernel) rfl), by decide +kernel, by decide +kernel⟩
theorem mi_X10_written : MI yX10_written cX10_written 1 (some .int) 0 := ⟨by decide +kernel, (mw (i := 2728) (by decide +kernel) rfl), (mw (i := 176) (by decide +kernel) rfl), by decide +kernel, by decide +kernel⟩
theorem fl_RX10_506 : Fl RX10 506 10 23 .int false := ⟨RX10, TX10, 24, tyX10, rfl, by decide, rfl, lay_10, (mw (i := 2024) (by decide +kernel) rfl), tyX10_ok, nmX10, tyX10_ok 23 (by decide), rfl, by decide, by decide⟩
theorem lk_RX10_491 : LV RX10 491 yX10_isAlike := ⟨(mw (i := 2665) (by decide +kernel) rfl), (mw (i := 2667) (by decide +kernel) rfl), (mw (i := 144) (by decide +kernel) rfl)⟩
theorem lk_RX10_494 : LV RX10 494 yX10_standsAt := ⟨(mw (i := 2661) (by decide +kernel) rfl), (mw (i := 2663) (by decide +kernel) rfl), (mw (i := 143) (by decide +kernel) rfl)⟩
theorem lk_RX10_497 : LV RX10 497 yX10_areLetters := ⟨(mw (i := 2653) (by decide +kernel) rfl), (mw (i := 2655) (by decide +kernel) rfl), (mw (i := 141) (by decide +kernel) rfl)⟩
theorem lk_RX10_500 : LV RX10 500 yX10_actWith := ⟨(mw (i := 2657) (by decide +kernel) rfl), (mw (i := 2659) (by decide +kernel) rfl), (mw (i := 142) (by decide +kernel) rfl)⟩
theorem lk_RX10_503 : LV RX10 503 yX10_isWrittenIn := ⟨(mw (i := 2677) (by decide +kernel) rfl), (mw (i := 2679) (by decide +kernel) rfl), (mw (i := 145) (by decide +kernel) rfl)⟩
theorem lk_RX10_509 : LV RX10 509 yX10_writesByte := ⟨(mw (i := 2701) (by decide +kernel) rfl), (mw (i := 2703) (by decide +kernel) rfl), (mw (i := 148) (by decide +kernel) rfl)⟩
theorem lk_RX10_512 : LV RX10 512 yX10_writesBlank := ⟨(mw (i := 2697) (by decide +kernel) rfl), (mw (i := 2699) (by decide +kernel) rfl), (mw (i := 147) (by decide +kernel) rfl)⟩
theorem lk_RX10_515 : LV RX10 515 yX10_writesLetters := ⟨(mw (i := 2709) (by decide +kernel) rfl), (mw (i := 2711) (by decide +kernel) rfl), (mw (i := 150) (by decide +kernel) rfl)⟩
theorem lk_RX10_518 : LV RX10 518 yX10_writesOpening := ⟨(mw (i := 2693) (by decide +kernel) rfl), (mw (i := 2695) (by decide +kernel) rfl), (mw (i := 146) (by decide +kernel) rfl)⟩
theorem lk_RX10_521 : LV RX10 521 yX10_writesWord := ⟨(mw (i := 2705) (by decide +kernel) rfl), (mw (i := 2707) (by decide +kernel) rfl), (mw (i := 149) (by decide +kernel) rfl)⟩
theorem lk_RX10_525 : LV RX10 525 yX10_writesInner := ⟨(mw (i := 2713) (by decide +kernel) rfl), (mw (i := 2715) (by decide +kernel) rfl), (mw (i := 151) (by decide +kernel) rfl)⟩
theorem lk_RX10_528 : LV RX10 528 yX10_writesClosing := ⟨(mw (i := 2717) (by decide +kernel) rfl), (mw (i := 2719) (by decide +kernel) rfl), (mw (i := 152) (by decide +kernel) rfl)⟩
theorem lk_RX10_531 : LV RX10 531 yX10_written := ⟨(mw (i := 2725) (by decide +kernel) rfl), (mw (i := 2727) (by decide +kernel) rfl), (mw (i := 153) (by decide +kernel) rfl)⟩
theorem lk_RX10_534 : LV RX10 534 yX10_writesNumber := ⟨(mw (i := 2737) (by decide +kernel) rfl), (mw (i := 2739) (by decide +kernel) rfl), (mw (i := 155) (by decide +kernel) rfl)⟩
theorem lk_RX10_537 : LV RX10 537 yX10_writesOnLeaf := ⟨(mw (i := 2733) (by decide +kernel) rfl), (mw (i := 2735) (by decide +kernel) rfl), (mw (i := 154) (by decide +kernel) rfl)⟩
theorem lk_RX10_540 : LV RX10 540 yX10_mayCopy := ⟨(mw (i := 2745) (by decide +kernel) rfl), (mw (i := 2747) (by decide +kernel) rfl), (mw (i := 156) (by decide +kernel) rfl)⟩
theorem cs_RX10_543 : Cond.constant RX10 543 42973 ∈ ALLw := mw (i := 2769) (by decide +kernel) rfl
theorem dX10_areLetters_0 : decode cX10_areLetters 0 = .ok (.iconst 0, 1) := by decide +kernel
theorem dX10_areLetters_1 : decode cX10_areLetters 1 = .ok (.istore_n 2, 1) := by decide +kernel
theorem dX10_areLetters_2 : decode cX10_areLetters 2 = .ok (.iload_n 2, 1) := by decide +kernel
theorem dX10_areLetters_3 : decode cX10_areLetters 3 = .ok (.iload_n 1, 1) := by decide +kernel
theorem dX10_areLetters_4 : decode cX10_areLetters 4 = .ok (.if_icmp .ge 27, 3) := by decide +kernel
theorem dX10_areLetters_7 : decode cX10_areLetters 7 = .ok (.aload_n 0, 1) := by decide +kernel
theorem dX10_areLetters_8 : decode cX10_areLetters 8 = .ok (.getfield 27, 3) := by decide +kernel
theorem dX10_areLetters_11 : decode cX10_areLetters 11 = .ok (.iload_n 2, 1) := by decide +kernel
theorem dX10_areLetters_12 : decode cX10_areLetters 12 = .ok (.baload, 1) := by decide +kernel
theorem dX10_areLetters_13 : decode cX10_areLetters 13 = .ok (.bipush 97, 2) := by decide +kernel
theorem dX10_areLetters_15 : decode cX10_areLetters 15 = .ok (.bipush 122, 2) := by decide +kernel
theorem dX10_areLetters_17 : decode cX10_areLetters 17 = .ok (.invokestatic 69, 3) := by decide +kernel
theorem dX10_areLetters_20 : decode cX10_areLetters 20 = .ok (.ifCond .ne 5, 3) := by decide +kernel
theorem dX10_areLetters_23 : decode cX10_areLetters 23 = .ok (.iconst 0, 1) := by decide +kernel
theorem dX10_areLetters_24 : decode cX10_areLetters 24 = .ok (.ireturn, 1) := by decide +kernel
theorem dX10_areLetters_25 : decode cX10_areLetters 25 = .ok (.iinc 2 1, 3) := by decide +kernel
theorem dX10_areLetters_28 : decode cX10_areLetters 28 = .ok (.goto (-26), 3) := by decide +kernel
theorem dX10_areLetters_31 : decode cX10_areLetters 31 = .ok (.iload_n 1, 1) := by decide +kernel
theorem dX10_areLetters_32 : decode cX10_areLetters 32 = .ok (.iconst 1, 1) := by decide +kernel
theorem dX10_areLetters_33 : decode cX10_areLetters 33 = .ok (.bipush 8, 2) := by decide +kernel
theorem dX10_areLetters_35 : decode cX10_areLetters 35 = .ok (.invokestatic 69, 3) := by decide +kernel
theorem dX10_areLetters_38 : decode cX10_areLetters 38 = .ok (.ireturn, 1) := by decide +kernel
theorem dX10_isAlike_0 : decode cX10_isAlike 0 = .ok (.aload_n 0, 1) := by decide +kernel
theorem dX10_isAlike_1 : decode cX10_isAlike 1 = .ok (.getfield 9, 3) := by decide +kernel
theorem dX10_isAlike_4 : decode cX10_isAlike 4 = .ok (.iload_n 1, 1) := by decide +kernel
theorem dX10_isAlike_5 : decode cX10_isAlike 5 = .ok (.iaload, 1) := by decide +kernel
theorem dX10_isAlike_6 : decode cX10_isAlike 6 = .ok (.iload_n 2, 1) := by decide +kernel
theorem dX10_isAlike_7 : decode cX10_isAlike 7 = .ok (.if_icmp .ne 19, 3) := by decide +kernel
theorem dX10_isAlike_10 : decode cX10_isAlike 10 = .ok (.aload_n 0, 1) := by decide +kernel
theorem dX10_isAlike_11 : decode cX10_isAlike 11 = .ok (.getfield 9, 3) := by decide +kernel
theorem dX10_isAlike_14 : decode cX10_isAlike 14 = .ok (.iload_n 1, 1) := by decide +kernel
theorem dX10_isAlike_15 : decode cX10_isAlike 15 = .ok (.iconst 1, 1) := by decide +kernel
theorem dX10_isAlike_16 : decode cX10_isAlike 16 = .ok (.iadd, 1) := by decide +kernel
theorem dX10_isAlike_17 : decode cX10_isAlike 17 = .ok (.iaload, 1) := by decide +kernel
theorem dX10_isAlike_18 : decode cX10_isAlike 18 = .ok (.iload_n 3, 1) := by decide +kernel
theorem dX10_isAlike_19 : decode cX10_isAlike 19 = .ok (.if_icmp .ne 7, 3) := by decide +kernel
theorem dX10_isAlike_22 : decode cX10_isAlike 22 = .ok (.iconst 1, 1) := by decide +kernel
theorem dX10_isAlike_23 : decode cX10_isAlike 23 = .ok (.goto 4, 3) := by decide +kernel
theorem dX10_isAlike_26 : decode cX10_isAlike 26 = .ok (.iconst 0, 1) := by decide +kernel
theorem dX10_isAlike_27 : decode cX10_isAlike 27 = .ok (.ireturn, 1) := by decide +kernel
theorem dX10_standsAt_0 : decode cX10_standsAt 0 = .ok (.bipush 127, 2) := by decide +kernel
theorem dX10_standsAt_2 : decode cX10_standsAt 2 = .ok (.bipush 13, 2) := by decide +kernel
theorem dX10_standsAt_4 : decode cX10_standsAt 4 = .ok (.iload_n 1, 1) := by decide +kernel
theorem dX10_standsAt_5 : decode cX10_standsAt 5 = .ok (.imul, 1) := by decide +kernel
theorem dX10_standsAt_6 : decode cX10_standsAt 6 = .ok (.iadd, 1) := by decide +kernel
theorem dX10_standsAt_7 : decode cX10_standsAt 7 = .ok (.istore 4, 2) := by decide +kernel
theorem dX10_standsAt_9 : decode cX10_standsAt 9 = .ok (.aload_n 0, 1) := by decide +kernel
theorem dX10_standsAt_10 : decode cX10_standsAt 10 = .ok (.iload_n 1, 1) := by decide +kernel
theorem dX10_standsAt_11 : decode cX10_standsAt 11 = .ok (.invokevirtual 330, 3) := by decide +kernel
theorem dX10_standsAt_14 : decode cX10_standsAt 14 = .ok (.ifCond .eq 16, 3) := by decide +kernel
theorem dX10_standsAt_17 : decode cX10_standsAt 17 = .ok (.aload_n 0, 1) := by decide +kernel
theorem dX10_standsAt_18 : decode cX10_standsAt 18 = .ok (.iload 4, 2) := by decide +kernel
theorem dX10_standsAt_20 : decode cX10_standsAt 20 = .ok (.iload_n 2, 1) := by decide +kernel
theorem dX10_standsAt_21 : decode cX10_standsAt 21 = .ok (.iload_n 3, 1) := by decide +kernel
theorem dX10_standsAt_22 : decode cX10_standsAt 22 = .ok (.invokevirtual 491, 3) := by decide +kernel
theorem dX10_standsAt_25 : decode cX10_standsAt 25 = .ok (.ifCond .eq 5, 3) := by decide +kernel
theorem dX10_standsAt_28 : decode cX10_standsAt 28 = .ok (.iconst 1, 1) := by decide +kernel
theorem dX10_standsAt_29 : decode cX10_standsAt 29 = .ok (.ireturn, 1) := by decide +kernel
theorem dX10_standsAt_30 : decode cX10_standsAt 30 = .ok (.iconst 0, 1) := by decide +kernel
theorem dX10_standsAt_31 : decode cX10_standsAt 31 = .ok (.istore 5, 2) := by decide +kernel
theorem dX10_standsAt_33 : decode cX10_standsAt 33 = .ok (.iload 5, 2) := by decide +kernel
theorem dX10_standsAt_35 : decode cX10_standsAt 35 = .ok (.aload_n 0, 1) := by decide +kernel
theorem dX10_standsAt_36 : decode cX10_standsAt 36 = .ok (.iload_n 1, 1) := by decide +kernel
theorem dX10_standsAt_37 : decode cX10_standsAt 37 = .ok (.iconst 4, 1) := by decide +kernel
theorem dX10_standsAt_38 : decode cX10_standsAt 38 = .ok (.invokevirtual 209, 3) := by decide +kernel
theorem dX10_standsAt_41 : decode cX10_standsAt 41 = .ok (.if_icmp .ge 29, 3) := by decide +kernel
theorem dX10_standsAt_44 : decode cX10_standsAt 44 = .ok (.aload_n 0, 1) := by decide +kernel
theorem dX10_standsAt_45 : decode cX10_standsAt 45 = .ok (.iload 4, 2) := by decide +kernel
theorem dX10_standsAt_47 : decode cX10_standsAt 47 = .ok (.iconst 5, 1) := by decide +kernel
theorem dX10_standsAt_48 : decode cX10_standsAt 48 = .ok (.iadd, 1) := by decide +kernel
theorem dX10_standsAt_49 : decode cX10_standsAt 49 = .ok (.iconst 2, 1) := by decide +kernel
theorem dX10_standsAt_50 : decode cX10_standsAt 50 = .ok (.iload 5, 2) := by decide +kernel
theorem dX10_standsAt_52 : decode cX10_standsAt 52 = .ok (.imul, 1) := by decide +kernel
theorem dX10_standsAt_53 : decode cX10_standsAt 53 = .ok (.iadd, 1) := by decide +kernel
theorem dX10_standsAt_54 : decode cX10_standsAt 54 = .ok (.iload_n 2, 1) := by decide +kernel
theorem dX10_standsAt_55 : decode cX10_standsAt 55 = .ok (.iload_n 3, 1) := by decide +kernel
theorem dX10_standsAt_56 : decode cX10_standsAt 56 = .ok (.invokevirtual 491, 3) := by decide +kernel
theorem dX10_standsAt_59 : decode cX10_standsAt 59 = .ok (.ifCond .eq 5, 3) := by decide +kernel
theorem dX10_standsAt_62 : decode cX10_standsAt 62 = .ok (.iconst 1, 1) := by decide +kernel
theorem dX10_standsAt_63 : decode cX10_standsAt 63 = .ok (.ireturn, 1) := by decide +kernel
theorem dX10_standsAt_64 : decode cX10_standsAt 64 = .ok (.iinc 5 1, 3) := by decide +kernel
theorem dX10_standsAt_67 : decode cX10_standsAt 67 = .ok (.goto (-34), 3) := by decide +kernel
theorem dX10_standsAt_70 : decode cX10_standsAt 70 = .ok (.iconst 0, 1) := by decide +kernel
theorem dX10_standsAt_71 : decode cX10_standsAt 71 = .ok (.ireturn, 1) := by decide +kernel
theorem dX10_actWith_0 : decode cX10_actWith 0 = .ok (.iconst 0, 1) := by decide +kernel
theorem dX10_actWith_1 : decode cX10_actWith 1 = .ok (.istore_n 3, 1) := by decide +kernel
theorem dX10_actWith_2 : decode cX10_actWith 2 = .ok (.iload_n 3, 1) := by decide +kernel
theorem dX10_actWith_3 : decode cX10_actWith 3 = .ok (.aload_n 0, 1) := by decide +kernel
theorem dX10_actWith_4 : decode cX10_actWith 4 = .ok (.getfield 9, 3) := by decide +kernel
theorem dX10_actWith_7 : decode cX10_actWith 7 = .ok (.iconst 4, 1) := by decide +kernel
theorem dX10_actWith_8 : decode cX10_actWith 8 = .ok (.iaload, 1) := by decide +kernel
theorem dX10_actWith_9 : decode cX10_actWith 9 = .ok (.if_icmp .ge 27, 3) := by decide +kernel
theorem dX10_actWith_12 : decode cX10_actWith 12 = .ok (.aload_n 0, 1) := by decide +kernel
theorem dX10_actWith_13 : decode cX10_actWith 13 = .ok (.iload_n 3, 1) := by decide +kernel
theorem dX10_actWith_14 : decode cX10_actWith 14 = .ok (.iload_n 1, 1) := by decide +kernel
theorem dX10_actWith_15 : decode cX10_actWith 15 = .ok (.iload_n 2, 1) := by decide +kernel
theorem dX10_actWith_16 : decode cX10_actWith 16 = .ok (.invokevirtual 494, 3) := by decide +kernel
theorem dX10_actWith_19 : decode cX10_actWith 19 = .ok (.ifCond .eq 11, 3) := by decide +kernel
theorem dX10_actWith_22 : decode cX10_actWith 22 = .ok (.aload_n 0, 1) := by decide +kernel
theorem dX10_actWith_23 : decode cX10_actWith 23 = .ok (.iload_n 3, 1) := by decide +kernel
theorem dX10_actWith_24 : decode cX10_actWith 24 = .ok (.invokevirtual 358, 3) := by decide +kernel
theorem dX10_actWith_27 : decode cX10_actWith 27 = .ok (.iconst 1, 1) := by decide +kernel
theorem dX10_actWith_28 : decode cX10_actWith 28 = .ok (.iadd, 1) := by decide +kernel
theorem dX10_actWith_29 : decode cX10_actWith 29 = .ok (.ireturn, 1) := by decide +kernel
theorem dX10_actWith_30 : decode cX10_actWith 30 = .ok (.iinc 3 1, 3) := by decide +kernel
theorem dX10_actWith_33 : decode cX10_actWith 33 = .ok (.goto (-31), 3) := by decide +kernel
theorem dX10_actWith_36 : decode cX10_actWith 36 = .ok (.iconst 0, 1) := by decide +kernel
theorem dX10_actWith_37 : decode cX10_actWith 37 = .ok (.ireturn, 1) := by decide +kernel
theorem dX10_findWord_0 : decode cX10_findWord 0 = .ok (.aload_n 0, 1) := by decide +kernel
theorem dX10_findWord_1 : decode cX10_findWord 1 = .ok (.aload_n 0, 1) := by decide +kernel
theorem dX10_findWord_2 : decode cX10_findWord 2 = .ok (.getfield 48, 3) := by decide +kernel
theorem dX10_findWord_5 : decode cX10_findWord 5 = .ok (.iload_n 1, 1) := by decide +kernel
theorem dX10_findWord_6 : decode cX10_findWord 6 = .ok (.iconst 0, 1) := by decide +kernel
theorem dX10_findWord_7 : decode cX10_findWord 7 = .ok (.aload_n 0, 1) := by decide +kernel
theorem dX10_findWord_8 : decode cX10_findWord 8 = .ok (.getfield 56, 3) := by decide +kernel
theorem dX10_findWord_11 : decode cX10_findWord 11 = .ok (.invokestatic 69, 3) := by decide +kernel
theorem dX10_findWord_14 : decode cX10_findWord 14 = .ok (.invokevirtual 380, 3) := by decide +kernel
theorem dX10_findWord_17 : decode cX10_findWord 17 = .ok (.ifCond .ne 5, 3) := by decide +kernel
theorem dX10_findWord_20 : decode cX10_findWord 20 = .ok (.iconst 0, 1) := by decide +kernel
theorem dX10_findWord_21 : decode cX10_findWord 21 = .ok (.ireturn, 1) := by decide +kernel
theorem dX10_findWord_22 : decode cX10_findWord 22 = .ok (.aload_n 0, 1) := by decide +kernel
theorem dX10_findWord_23 : decode cX10_findWord 23 = .ok (.iconst 0, 1) := by decide +kernel
theorem dX10_findWord_24 : decode cX10_findWord 24 = .ok (.putfield 56, 3) := by decide +kernel
theorem dX10_findWord_27 : decode cX10_findWord 27 = .ok (.aload_n 0, 1) := by decide +kernel
theorem dX10_findWord_28 : decode cX10_findWord 28 = .ok (.iload_n 1, 1) := by decide +kernel
theorem dX10_findWord_29 : decode cX10_findWord 29 = .ok (.invokevirtual 497, 3) := by decide +kernel
theorem dX10_findWord_32 : decode cX10_findWord 32 = .ok (.ifCond .eq 24, 3) := by decide +kernel
theorem dX10_findWord_35 : decode cX10_findWord 35 = .ok (.aload_n 0, 1) := by decide +kernel
theorem dX10_findWord_36 : decode cX10_findWord 36 = .ok (.aload_n 0, 1) := by decide +kernel
theorem dX10_findWord_37 : decode cX10_findWord 37 = .ok (.iconst 0, 1) := by decide +kernel
theorem dX10_findWord_38 : decode cX10_findWord 38 = .ok (.iload_n 1, 1) := by decide +kernel
theorem dX10_findWord_39 : decode cX10_findWord 39 = .ok (.iconst 0, 1) := by decide +kernel
theorem dX10_findWord_40 : decode cX10_findWord 40 = .ok (.invokevirtual 160, 3) := by decide +kernel
theorem dX10_findWord_43 : decode cX10_findWord 43 = .ok (.aload_n 0, 1) := by decide +kernel
theorem dX10_findWord_44 : decode cX10_findWord 44 = .ok (.iconst 0, 1) := by decide +kernel
theorem dX10_findWord_45 : decode cX10_findWord 45 = .ok (.iload_n 1, 1) := by decide +kernel
theorem dX10_findWord_46 : decode cX10_findWord 46 = .ok (.iconst 1, 1) := by decide +kernel
theorem dX10_findWord_47 : decode cX10_findWord 47 = .ok (.invokevirtual 160, 3) := by decide +kernel
theorem dX10_findWord_50 : decode cX10_findWord 50 = .ok (.invokevirtual 500, 3) := by decide +kernel
theorem dX10_findWord_53 : decode cX10_findWord 53 = .ok (.goto 4, 3) := by decide +kernel
theorem dX10_findWord_56 : decode cX10_findWord 56 = .ok (.iconst 0, 1) := by decide +kernel
theorem dX10_findWord_57 : decode cX10_findWord 57 = .ok (.ireturn, 1) := by decide +kernel
theorem dX10_longest_0 : decode cX10_longest 0 = .ok (.aload_n 0, 1) := by decide +kernel
theorem dX10_longest_1 : decode cX10_longest 1 = .ok (.iload_n 1, 1) := by decide +kernel
theorem dX10_longest_2 : decode cX10_longest 2 = .ok (.invokevirtual 455, 3) := by decide +kernel
theorem dX10_longest_5 : decode cX10_longest 5 = .ok (.ifCond .ne 5, 3) := by decide +kernel
theorem dX10_longest_8 : decode cX10_longest 8 = .ok (.iconst 0, 1) := by decide +kernel
theorem dX10_longest_9 : decode cX10_longest 9 = .ok (.ireturn, 1) := by decide +kernel
theorem dX10_longest_10 : decode cX10_longest 10 = .ok (.iconst (-1), 1) := by decide +kernel
theorem dX10_longest_11 : decode cX10_longest 11 = .ok (.istore_n 2, 1) := by decide +kernel
theorem dX10_longest_12 : decode cX10_longest 12 = .ok (.iconst 0, 1) := by decide +kernel
theorem dX10_longest_13 : decode cX10_longest 13 = .ok (.istore_n 3, 1) := by decide +kernel
theorem dX10_longest_14 : decode cX10_longest 14 = .ok (.iconst 0, 1) := by decide +kernel
theorem dX10_longest_15 : decode cX10_longest 15 = .ok (.istore 4, 2) := by decide +kernel
theorem dX10_longest_17 : decode cX10_longest 17 = .ok (.iload 4, 2) := by decide +kernel
theorem dX10_longest_19 : decode cX10_longest 19 = .ok (.aload_n 0, 1) := by decide +kernel
theorem dX10_longest_20 : decode cX10_longest 20 = .ok (.iload_n 1, 1) := by decide +kernel
theorem dX10_longest_21 : decode cX10_longest 21 = .ok (.iconst 1, 1) := by decide +kernel
theorem dX10_longest_22 : decode cX10_longest 22 = .ok (.isub, 1) := by decide +kernel
theorem dX10_longest_23 : decode cX10_longest 23 = .ok (.bipush 6, 2) := by decide +kernel
theorem dX10_longest_25 : decode cX10_longest 25 = .ok (.invokevirtual 138, 3) := by decide +kernel
theorem dX10_longest_28 : decode cX10_longest 28 = .ok (.if_icmp .ge 65, 3) := by decide +kernel
theorem dX10_longest_31 : decode cX10_longest 31 = .ok (.aload_n 0, 1) := by decide +kernel
theorem dX10_longest_32 : decode cX10_longest 32 = .ok (.iload_n 1, 1) := by decide +kernel
theorem dX10_longest_33 : decode cX10_longest 33 = .ok (.iload 4, 2) := by decide +kernel
theorem dX10_longest_35 : decode cX10_longest 35 = .ok (.invokevirtual 425, 3) := by decide +kernel
theorem dX10_longest_38 : decode cX10_longest 38 = .ok (.istore 5, 2) := by decide +kernel
theorem dX10_longest_40 : decode cX10_longest 40 = .ok (.aload_n 0, 1) := by decide +kernel
theorem dX10_longest_41 : decode cX10_longest 41 = .ok (.iload 5, 2) := by decide +kernel
theorem dX10_longest_43 : decode cX10_longest 43 = .ok (.invokevirtual 330, 3) := by decide +kernel
theorem dX10_longest_46 : decode cX10_longest 46 = .ok (.ifCond .eq 23, 3) := by decide +kernel
theorem dX10_longest_49 : decode cX10_longest 49 = .ok (.aload_n 0, 1) := by decide +kernel
theorem dX10_longest_50 : decode cX10_longest 50 = .ok (.iload 5, 2) := by decide +kernel
theorem dX10_longest_52 : decode cX10_longest 52 = .ok (.iconst 0, 1) := by decide +kernel
theorem dX10_longest_53 : decode cX10_longest 53 = .ok (.invokevirtual 209, 3) := by decide +kernel
theorem dX10_longest_56 : decode cX10_longest 56 = .ok (.aload_n 0, 1) := by decide +kernel
theorem dX10_longest_57 : decode cX10_longest 57 = .ok (.iload 5, 2) := by decide +kernel
theorem dX10_longest_59 : decode cX10_longest 59 = .ok (.iconst 1, 1) := by decide +kernel
theorem dX10_longest_60 : decode cX10_longest 60 = .ok (.invokevirtual 209, 3) := by decide +kernel
theorem dX10_longest_63 : decode cX10_longest 63 = .ok (.invokestatic 428, 3) := by decide +kernel
theorem dX10_longest_66 : decode cX10_longest 66 = .ok (.goto 4, 3) := by decide +kernel
theorem dX10_longest_69 : decode cX10_longest 69 = .ok (.iconst 0, 1) := by decide +kernel
theorem dX10_longest_70 : decode cX10_longest 70 = .ok (.istore 6, 2) := by decide +kernel
theorem dX10_longest_72 : decode cX10_longest 72 = .ok (.iload 6, 2) := by decide +kernel
theorem dX10_longest_74 : decode cX10_longest 74 = .ok (.iload_n 3, 1) := by decide +kernel
theorem dX10_longest_75 : decode cX10_longest 75 = .ok (.if_icmp .gt 6, 3) := by decide +kernel
theorem dX10_longest_78 : decode cX10_longest 78 = .ok (.goto 9, 3) := by decide +kernel
theorem dX10_longest_81 : decode cX10_longest 81 = .ok (.iload 6, 2) := by decide +kernel
theorem dX10_longest_83 : decode cX10_longest 83 = .ok (.istore_n 3, 1) := by decide +kernel
theorem dX10_longest_84 : decode cX10_longest 84 = .ok (.iload 4, 2) := by decide +kernel
theorem dX10_longest_86 : decode cX10_longest 86 = .ok (.istore_n 2, 1) := by decide +kernel
theorem dX10_longest_87 : decode cX10_longest 87 = .ok (.iinc 4 1, 3) := by decide +kernel
theorem dX10_longest_90 : decode cX10_longest 90 = .ok (.goto (-73), 3) := by decide +kernel
theorem dX10_longest_93 : decode cX10_longest 93 = .ok (.iload_n 2, 1) := by decide +kernel
theorem dX10_longest_94 : decode cX10_longest 94 = .ok (.ireturn, 1) := by decide +kernel
theorem dX10_isWrittenIn_0 : decode cX10_isWrittenIn 0 = .ok (.aload_n 0, 1) := by decide +kernel
theorem dX10_isWrittenIn_1 : decode cX10_isWrittenIn 1 = .ok (.iload_n 1, 1) := by decide +kernel
theorem dX10_isWrittenIn_2 : decode cX10_isWrittenIn 2 = .ok (.iconst 5, 1) := by decide +kernel
theorem dX10_isWrittenIn_3 : decode cX10_isWrittenIn 3 = .ok (.invokevirtual 138, 3) := by decide +kernel
theorem dX10_isWrittenIn_6 : decode cX10_isWrittenIn 6 = .ok (.istore 4, 2) := by decide +kernel
theorem dX10_isWrittenIn_8 : decode cX10_isWrittenIn 8 = .ok (.iload 4, 2) := by decide +kernel
theorem dX10_isWrittenIn_10 : decode cX10_isWrittenIn 10 = .ok (.aload_n 0, 1) := by decide +kernel
theorem dX10_isWrittenIn_11 : decode cX10_isWrittenIn 11 = .ok (.iload_n 1, 1) := by decide +kernel
theorem dX10_isWrittenIn_12 : decode cX10_isWrittenIn 12 = .ok (.invokevirtual 327, 3) := by decide +kernel
theorem dX10_isWrittenIn_15 : decode cX10_isWrittenIn 15 = .ok (.if_icmp .gt 37, 3) := by decide +kernel
theorem dX10_isWrittenIn_18 : decode cX10_isWrittenIn 18 = .ok (.aload_n 0, 1) := by decide +kernel
theorem dX10_isWrittenIn_19 : decode cX10_isWrittenIn 19 = .ok (.iload 4, 2) := by decide +kernel
theorem dX10_isWrittenIn_21 : decode cX10_isWrittenIn 21 = .ok (.invokevirtual 330, 3) := by decide +kernel
theorem dX10_isWrittenIn_24 : decode cX10_isWrittenIn 24 = .ok (.ifCond .eq 22, 3) := by decide +kernel
theorem dX10_isWrittenIn_27 : decode cX10_isWrittenIn 27 = .ok (.aload_n 0, 1) := by decide +kernel
theorem dX10_isWrittenIn_28 : decode cX10_isWrittenIn 28 = .ok (.bipush 127, 2) := by decide +kernel
theorem dX10_isWrittenIn_30 : decode cX10_isWrittenIn 30 = .ok (.bipush 13, 2) := by decide +kernel
theorem dX10_isWrittenIn_32 : decode cX10_isWrittenIn 32 = .ok (.iload 4, 2) := by decide +kernel
theorem dX10_isWrittenIn_34 : decode cX10_isWrittenIn 34 = .ok (.imul, 1) := by decide +kernel
theorem dX10_isWrittenIn_35 : decode cX10_isWrittenIn 35 = .ok (.iadd, 1) := by decide +kernel
theorem dX10_isWrittenIn_36 : decode cX10_isWrittenIn 36 = .ok (.iload_n 2, 1) := by decide +kernel
theorem dX10_isWrittenIn_37 : decode cX10_isWrittenIn 37 = .ok (.iload_n 3, 1) := by decide +kernel
theorem dX10_isWrittenIn_38 : decode cX10_isWrittenIn 38 = .ok (.invokevirtual 491, 3) := by decide +kernel
theorem dX10_isWrittenIn_41 : decode cX10_isWrittenIn 41 = .ok (.ifCond .eq 5, 3) := by decide +kernel
theorem dX10_isWrittenIn_44 : decode cX10_isWrittenIn 44 = .ok (.iconst 1, 1) := by decide +kernel
theorem dX10_isWrittenIn_45 : decode cX10_isWrittenIn 45 = .ok (.ireturn, 1) := by decide +kernel
theorem dX10_isWrittenIn_46 : decode cX10_isWrittenIn 46 = .ok (.iinc 4 1, 3) := by decide +kernel
theorem dX10_isWrittenIn_49 : decode cX10_isWrittenIn 49 = .ok (.goto (-41), 3) := by decide +kernel
theorem dX10_isWrittenIn_52 : decode cX10_isWrittenIn 52 = .ok (.iconst 0, 1) := by decide +kernel
theorem dX10_isWrittenIn_53 : decode cX10_isWrittenIn 53 = .ok (.ireturn, 1) := by decide +kernel
theorem dX10_common_0 : decode cX10_common 0 = .ok (.aload_n 0, 1) := by decide +kernel
theorem dX10_common_1 : decode cX10_common 1 = .ok (.aload_n 0, 1) := by decide +kernel
theorem dX10_common_2 : decode cX10_common 2 = .ok (.getfield 48, 3) := by decide +kernel
theorem dX10_common_5 : decode cX10_common 5 = .ok (.aload_n 0, 1) := by decide +kernel
theorem dX10_common_6 : decode cX10_common 6 = .ok (.iload_n 1, 1) := by decide +kernel
theorem dX10_common_7 : decode cX10_common 7 = .ok (.invokevirtual 399, 3) := by decide +kernel
theorem dX10_common_10 : decode cX10_common 10 = .ok (.ifCond .eq 15, 3) := by decide +kernel
theorem dX10_common_13 : decode cX10_common 13 = .ok (.aload_n 0, 1) := by decide +kernel
theorem dX10_common_14 : decode cX10_common 14 = .ok (.iload_n 2, 1) := by decide +kernel
theorem dX10_common_15 : decode cX10_common 15 = .ok (.invokevirtual 399, 3) := by decide +kernel
theorem dX10_common_18 : decode cX10_common 18 = .ok (.ifCond .eq 7, 3) := by decide +kernel
theorem dX10_common_21 : decode cX10_common 21 = .ok (.iconst 1, 1) := by decide +kernel
theorem dX10_common_22 : decode cX10_common 22 = .ok (.goto 4, 3) := by decide +kernel
theorem dX10_common_25 : decode cX10_common 25 = .ok (.iconst 0, 1) := by decide +kernel
theorem dX10_common_26 : decode cX10_common 26 = .ok (.invokevirtual 380, 3) := by decide +kernel
theorem dX10_common_29 : decode cX10_common 29 = .ok (.ifCond .ne 5, 3) := by decide +kernel
theorem dX10_common_32 : decode cX10_common 32 = .ok (.iconst 0, 1) := by decide +kernel
theorem dX10_common_33 : decode cX10_common 33 = .ok (.ireturn, 1) := by decide +kernel
theorem dX10_common_34 : decode cX10_common 34 = .ok (.iconst 0, 1) := by decide +kernel
theorem dX10_common_35 : decode cX10_common 35 = .ok (.istore_n 3, 1) := by decide +kernel
theorem dX10_common_36 : decode cX10_common 36 = .ok (.aload_n 0, 1) := by decide +kernel
theorem dX10_common_37 : decode cX10_common 37 = .ok (.iload_n 1, 1) := by decide +kernel
theorem dX10_common_38 : decode cX10_common 38 = .ok (.iconst 1, 1) := by decide +kernel
theorem dX10_common_39 : decode cX10_common 39 = .ok (.isub, 1) := by decide +kernel
theorem dX10_common_40 : decode cX10_common 40 = .ok (.iconst 5, 1) := by decide +kernel
theorem dX10_common_41 : decode cX10_common 41 = .ok (.invokevirtual 138, 3) := by decide +kernel
theorem dX10_common_44 : decode cX10_common 44 = .ok (.istore 4, 2) := by decide +kernel
theorem dX10_common_46 : decode cX10_common 46 = .ok (.iload 4, 2) := by decide +kernel
theorem dX10_common_48 : decode cX10_common 48 = .ok (.aload_n 0, 1) := by decide +kernel
theorem dX10_common_49 : decode cX10_common 49 = .ok (.iload_n 1, 1) := by decide +kernel
theorem dX10_common_50 : decode cX10_common 50 = .ok (.iconst 1, 1) := by decide +kernel
theorem dX10_common_51 : decode cX10_common 51 = .ok (.isub, 1) := by decide +kernel
theorem dX10_common_52 : decode cX10_common 52 = .ok (.invokevirtual 327, 3) := by decide +kernel
theorem dX10_common_55 : decode cX10_common 55 = .ok (.if_icmp .gt 53, 3) := by decide +kernel
theorem dX10_common_58 : decode cX10_common 58 = .ok (.iload_n 3, 1) := by decide +kernel
theorem dX10_common_59 : decode cX10_common 59 = .ok (.aload_n 0, 1) := by decide +kernel
theorem dX10_common_60 : decode cX10_common 60 = .ok (.iload 4, 2) := by decide +kernel
theorem dX10_common_62 : decode cX10_common 62 = .ok (.invokevirtual 330, 3) := by decide +kernel
theorem dX10_common_65 : decode cX10_common 65 = .ok (.ifCond .eq 31, 3) := by decide +kernel
theorem dX10_common_68 : decode cX10_common 68 = .ok (.aload_n 0, 1) := by decide +kernel
theorem dX10_common_69 : decode cX10_common 69 = .ok (.iload_n 2, 1) := by decide +kernel
theorem dX10_common_70 : decode cX10_common 70 = .ok (.iconst 1, 1) := by decide +kernel
theorem dX10_common_71 : decode cX10_common 71 = .ok (.isub, 1) := by decide +kernel
theorem dX10_common_72 : decode cX10_common 72 = .ok (.aload_n 0, 1) := by decide +kernel
theorem dX10_common_73 : decode cX10_common 73 = .ok (.iload 4, 2) := by decide +kernel
theorem dX10_common_75 : decode cX10_common 75 = .ok (.iconst 0, 1) := by decide +kernel
theorem dX10_common_76 : decode cX10_common 76 = .ok (.invokevirtual 209, 3) := by decide +kernel
theorem dX10_common_79 : decode cX10_common 79 = .ok (.aload_n 0, 1) := by decide +kernel
theorem dX10_common_80 : decode cX10_common 80 = .ok (.iload 4, 2) := by decide +kernel
theorem dX10_common_82 : decode cX10_common 82 = .ok (.iconst 1, 1) := by decide +kernel
theorem dX10_common_83 : decode cX10_common 83 = .ok (.invokevirtual 209, 3) := by decide +kernel
theorem dX10_common_86 : decode cX10_common 86 = .ok (.invokevirtual 503, 3) := by decide +kernel
theorem dX10_common_89 : decode cX10_common 89 = .ok (.ifCond .eq 7, 3) := by decide +kernel
theorem dX10_common_92 : decode cX10_common 92 = .ok (.iconst 1, 1) := by decide +kernel
theorem dX10_common_93 : decode cX10_common 93 = .ok (.goto 4, 3) := by decide +kernel
theorem dX10_common_96 : decode cX10_common 96 = .ok (.iconst 0, 1) := by decide +kernel
theorem dX10_common_97 : decode cX10_common 97 = .ok (.invokestatic 333, 3) := by decide +kernel
theorem dX10_common_100 : decode cX10_common 100 = .ok (.iadd, 1) := by decide +kernel
theorem dX10_common_101 : decode cX10_common 101 = .ok (.istore_n 3, 1) := by decide +kernel
theorem dX10_common_102 : decode cX10_common 102 = .ok (.iinc 4 1, 3) := by decide +kernel
theorem dX10_common_105 : decode cX10_common 105 = .ok (.goto (-59), 3) := by decide +kernel
theorem dX10_common_108 : decode cX10_common 108 = .ok (.iload_n 3, 1) := by decide +kernel
theorem dX10_common_109 : decode cX10_common 109 = .ok (.ireturn, 1) := by decide +kernel
theorem dX10_knownShare_0 : decode cX10_knownShare 0 = .ok (.aload_n 0, 1) := by decide +kernel
theorem dX10_knownShare_1 : decode cX10_knownShare 1 = .ok (.invokevirtual 461, 3) := by decide +kernel
theorem dX10_knownShare_4 : decode cX10_knownShare 4 = .ok (.ifCond .eq 35, 3) := by decide +kernel
theorem dX10_knownShare_7 : decode cX10_knownShare 7 = .ok (.aload_n 0, 1) := by decide +kernel
theorem dX10_knownShare_8 : decode cX10_knownShare 8 = .ok (.getfield 9, 3) := by decide +kernel
theorem dX10_knownShare_11 : decode cX10_knownShare 11 = .ok (.iconst 4, 1) := by decide +kernel
theorem dX10_knownShare_12 : decode cX10_knownShare 12 = .ok (.iaload, 1) := by decide +kernel
theorem dX10_knownShare_13 : decode cX10_knownShare 13 = .ok (.ifCond .le 26, 3) := by decide +kernel
theorem dX10_knownShare_16 : decode cX10_knownShare 16 = .ok (.aload_n 0, 1) := by decide +kernel
theorem dX10_knownShare_17 : decode cX10_knownShare 17 = .ok (.getfield 9, 3) := by decide +kernel
theorem dX10_knownShare_20 : decode cX10_knownShare 20 = .ok (.iconst 4, 1) := by decide +kernel
theorem dX10_knownShare_21 : decode cX10_knownShare 21 = .ok (.iaload, 1) := by decide +kernel
theorem dX10_knownShare_22 : decode cX10_knownShare 22 = .ok (.aload_n 0, 1) := by decide +kernel
theorem dX10_knownShare_23 : decode cX10_knownShare 23 = .ok (.invokevirtual 396, 3) := by decide +kernel
theorem dX10_knownShare_26 : decode cX10_knownShare 26 = .ok (.isub, 1) := by decide +kernel
theorem dX10_knownShare_27 : decode cX10_knownShare 27 = .ok (.i2f, 1) := by decide +kernel
theorem dX10_knownShare_28 : decode cX10_knownShare 28 = .ok (.aload_n 0, 1) := by decide +kernel
theorem dX10_knownShare_29 : decode cX10_knownShare 29 = .ok (.getfield 9, 3) := by decide +kernel
theorem dX10_knownShare_32 : decode cX10_knownShare 32 = .ok (.iconst 4, 1) := by decide +kernel
theorem dX10_knownShare_33 : decode cX10_knownShare 33 = .ok (.iaload, 1) := by decide +kernel
theorem dX10_knownShare_34 : decode cX10_knownShare 34 = .ok (.i2f, 1) := by decide +kernel
theorem dX10_knownShare_35 : decode cX10_knownShare 35 = .ok (.fdiv, 1) := by decide +kernel
theorem dX10_knownShare_36 : decode cX10_knownShare 36 = .ok (.goto 4, 3) := by decide +kernel
theorem dX10_knownShare_39 : decode cX10_knownShare 39 = .ok (.fconst 0, 1) := by decide +kernel
theorem dX10_knownShare_40 : decode cX10_knownShare 40 = .ok (.freturn, 1) := by decide +kernel
theorem dX10_meanWords_0 : decode cX10_meanWords 0 = .ok (.aload_n 0, 1) := by decide +kernel
theorem dX10_meanWords_1 : decode cX10_meanWords 1 = .ok (.invokevirtual 461, 3) := by decide +kernel
theorem dX10_meanWords_4 : decode cX10_meanWords 4 = .ok (.ifCond .eq 27, 3) := by decide +kernel
theorem dX10_meanWords_7 : decode cX10_meanWords 7 = .ok (.aload_n 0, 1) := by decide +kernel
theorem dX10_meanWords_8 : decode cX10_meanWords 8 = .ok (.iconst 1, 1) := by decide +kernel
theorem dX10_meanWords_9 : decode cX10_meanWords 9 = .ok (.invokevirtual 393, 3) := by decide +kernel
theorem dX10_meanWords_12 : decode cX10_meanWords 12 = .ok (.ifCond .le 19, 3) := by decide +kernel
theorem dX10_meanWords_15 : decode cX10_meanWords 15 = .ok (.aload_n 0, 1) := by decide +kernel
theorem dX10_meanWords_16 : decode cX10_meanWords 16 = .ok (.iconst 1, 1) := by decide +kernel
theorem dX10_meanWords_17 : decode cX10_meanWords 17 = .ok (.invokevirtual 390, 3) := by decide +kernel
theorem dX10_meanWords_20 : decode cX10_meanWords 20 = .ok (.i2d, 1) := by decide +kernel
theorem dX10_meanWords_21 : decode cX10_meanWords 21 = .ok (.aload_n 0, 1) := by decide +kernel
theorem dX10_meanWords_22 : decode cX10_meanWords 22 = .ok (.iconst 1, 1) := by decide +kernel
theorem dX10_meanWords_23 : decode cX10_meanWords 23 = .ok (.invokevirtual 393, 3) := by decide +kernel
theorem dX10_meanWords_26 : decode cX10_meanWords 26 = .ok (.i2d, 1) := by decide +kernel
theorem dX10_meanWords_27 : decode cX10_meanWords 27 = .ok (.ddiv, 1) := by decide +kernel
theorem dX10_meanWords_28 : decode cX10_meanWords 28 = .ok (.goto 4, 3) := by decide +kernel
theorem dX10_meanWords_31 : decode cX10_meanWords 31 = .ok (.dconst 0, 1) := by decide +kernel
theorem dX10_meanWords_32 : decode cX10_meanWords 32 = .ok (.dreturn, 1) := by decide +kernel
theorem dX10_writesByte_0 : decode cX10_writesByte 0 = .ok (.aload_n 0, 1) := by decide +kernel
theorem dX10_writesByte_1 : decode cX10_writesByte 1 = .ok (.getfield 38, 3) := by decide +kernel
theorem dX10_writesByte_4 : decode cX10_writesByte 4 = .ok (.aload_n 0, 1) := by decide +kernel
theorem dX10_writesByte_5 : decode cX10_writesByte 5 = .ok (.getfield 506, 3) := by decide +kernel
theorem dX10_writesByte_8 : decode cX10_writesByte 8 = .ok (.iload_n 1, 1) := by decide +kernel
theorem dX10_writesByte_9 : decode cX10_writesByte 9 = .ok (.i2b, 1) := by decide +kernel
theorem dX10_writesByte_10 : decode cX10_writesByte 10 = .ok (.bastore, 1) := by decide +kernel
theorem dX10_writesByte_11 : decode cX10_writesByte 11 = .ok (.aload_n 0, 1) := by decide +kernel
theorem dX10_writesByte_12 : decode cX10_writesByte 12 = .ok (.dup, 1) := by decide +kernel
theorem dX10_writesByte_13 : decode cX10_writesByte 13 = .ok (.getfield 506, 3) := by decide +kernel
theorem dX10_writesByte_16 : decode cX10_writesByte 16 = .ok (.iconst 1, 1) := by decide +kernel
theorem dX10_writesByte_17 : decode cX10_writesByte 17 = .ok (.iadd, 1) := by decide +kernel
theorem dX10_writesByte_18 : decode cX10_writesByte 18 = .ok (.putfield 506, 3) := by decide +kernel
theorem dX10_writesByte_21 : decode cX10_writesByte 21 = .ok (.return_, 1) := by decide +kernel
theorem dX10_writesBlank_0 : decode cX10_writesBlank 0 = .ok (.aload_n 0, 1) := by decide +kernel
theorem dX10_writesBlank_1 : decode cX10_writesBlank 1 = .ok (.getfield 506, 3) := by decide +kernel
theorem dX10_writesBlank_4 : decode cX10_writesBlank 4 = .ok (.ifCond .le 9, 3) := by decide +kernel
theorem dX10_writesBlank_7 : decode cX10_writesBlank 7 = .ok (.aload_n 0, 1) := by decide +kernel
theorem dX10_writesBlank_8 : decode cX10_writesBlank 8 = .ok (.bipush 32, 2) := by decide +kernel
theorem dX10_writesBlank_10 : decode cX10_writesBlank 10 = .ok (.invokevirtual 509, 3) := by decide +kernel
theorem dX10_writesBlank_13 : decode cX10_writesBlank 13 = .ok (.return_, 1) := by decide +kernel
theorem dX10_writesLetters_0 : decode cX10_writesLetters 0 = .ok (.iconst 0, 1) := by decide +kernel
theorem dX10_writesLetters_1 : decode cX10_writesLetters 1 = .ok (.istore_n 2, 1) := by decide +kernel
theorem dX10_writesLetters_2 : decode cX10_writesLetters 2 = .ok (.aload_n 0, 1) := by decide +kernel
theorem dX10_writesLetters_3 : decode cX10_writesLetters 3 = .ok (.getfield 9, 3) := by decide +kernel
theorem dX10_writesLetters_6 : decode cX10_writesLetters 6 = .ok (.iload_n 1, 1) := by decide +kernel
theorem dX10_writesLetters_7 : decode cX10_writesLetters 7 = .ok (.iaload, 1) := by decide +kernel
theorem dX10_writesLetters_8 : decode cX10_writesLetters 8 = .ok (.aload_n 0, 1) := by decide +kernel
theorem dX10_writesLetters_9 : decode cX10_writesLetters 9 = .ok (.getfield 9, 3) := by decide +kernel
theorem dX10_writesLetters_12 : decode cX10_writesLetters 12 = .ok (.iload_n 1, 1) := by decide +kernel
theorem dX10_writesLetters_13 : decode cX10_writesLetters 13 = .ok (.iconst 1, 1) := by decide +kernel
theorem dX10_writesLetters_14 : decode cX10_writesLetters 14 = .ok (.iadd, 1) := by decide +kernel
theorem dX10_writesLetters_15 : decode cX10_writesLetters 15 = .ok (.iaload, 1) := by decide +kernel
theorem dX10_writesLetters_16 : decode cX10_writesLetters 16 = .ok (.iload_n 2, 1) := by decide +kernel
theorem dX10_writesLetters_17 : decode cX10_writesLetters 17 = .ok (.invokestatic 128, 3) := by decide +kernel
theorem dX10_writesLetters_20 : decode cX10_writesLetters 20 = .ok (.iconst (-1), 1) := by decide +kernel
theorem dX10_writesLetters_21 : decode cX10_writesLetters 21 = .ok (.if_icmp .eq 31, 3) := by decide +kernel
theorem dX10_writesLetters_24 : decode cX10_writesLetters 24 = .ok (.aload_n 0, 1) := by decide +kernel
theorem dX10_writesLetters_25 : decode cX10_writesLetters 25 = .ok (.aload_n 0, 1) := by decide +kernel
theorem dX10_writesLetters_26 : decode cX10_writesLetters 26 = .ok (.getfield 9, 3) := by decide +kernel
theorem dX10_writesLetters_29 : decode cX10_writesLetters 29 = .ok (.iload_n 1, 1) := by decide +kernel
theorem dX10_writesLetters_30 : decode cX10_writesLetters 30 = .ok (.iaload, 1) := by decide +kernel
theorem dX10_writesLetters_31 : decode cX10_writesLetters 31 = .ok (.aload_n 0, 1) := by decide +kernel
theorem dX10_writesLetters_32 : decode cX10_writesLetters 32 = .ok (.getfield 9, 3) := by decide +kernel
theorem dX10_writesLetters_35 : decode cX10_writesLetters 35 = .ok (.iload_n 1, 1) := by decide +kernel
theorem dX10_writesLetters_36 : decode cX10_writesLetters 36 = .ok (.iconst 1, 1) := by decide +kernel
theorem dX10_writesLetters_37 : decode cX10_writesLetters 37 = .ok (.iadd, 1) := by decide +kernel
theorem dX10_writesLetters_38 : decode cX10_writesLetters 38 = .ok (.iaload, 1) := by decide +kernel
theorem dX10_writesLetters_39 : decode cX10_writesLetters 39 = .ok (.iload_n 2, 1) := by decide +kernel
theorem dX10_writesLetters_40 : decode cX10_writesLetters 40 = .ok (.invokestatic 128, 3) := by decide +kernel
theorem dX10_writesLetters_43 : decode cX10_writesLetters 43 = .ok (.invokevirtual 509, 3) := by decide +kernel
theorem dX10_writesLetters_46 : decode cX10_writesLetters 46 = .ok (.iinc 2 1, 3) := by decide +kernel
theorem dX10_writesLetters_49 : decode cX10_writesLetters 49 = .ok (.goto (-47), 3) := by decide +kernel
theorem dX10_writesLetters_52 : decode cX10_writesLetters 52 = .ok (.return_, 1) := by decide +kernel
theorem dX10_writesInner_0 : decode cX10_writesInner 0 = .ok (.iconst 0, 1) := by decide +kernel
theorem dX10_writesInner_1 : decode cX10_writesInner 1 = .ok (.istore_n 3, 1) := by decide +kernel
theorem dX10_writesInner_2 : decode cX10_writesInner 2 = .ok (.iload_n 3, 1) := by decide +kernel
theorem dX10_writesInner_3 : decode cX10_writesInner 3 = .ok (.aload_n 0, 1) := by decide +kernel
theorem dX10_writesInner_4 : decode cX10_writesInner 4 = .ok (.iload_n 1, 1) := by decide +kernel
theorem dX10_writesInner_5 : decode cX10_writesInner 5 = .ok (.iconst 4, 1) := by decide +kernel
theorem dX10_writesInner_6 : decode cX10_writesInner 6 = .ok (.invokevirtual 209, 3) := by decide +kernel
theorem dX10_writesInner_9 : decode cX10_writesInner 9 = .ok (.if_icmp .ge 39, 3) := by decide +kernel
theorem dX10_writesInner_12 : decode cX10_writesInner 12 = .ok (.aload_n 0, 1) := by decide +kernel
theorem dX10_writesInner_13 : decode cX10_writesInner 13 = .ok (.invokevirtual 512, 3) := by decide +kernel
theorem dX10_writesInner_16 : decode cX10_writesInner 16 = .ok (.iload_n 2, 1) := by decide +kernel
theorem dX10_writesInner_17 : decode cX10_writesInner 17 = .ok (.ifCond .le 8, 3) := by decide +kernel
theorem dX10_writesInner_20 : decode cX10_writesInner 20 = .ok (.aload_n 0, 1) := by decide +kernel
theorem dX10_writesInner_21 : decode cX10_writesInner 21 = .ok (.iload_n 2, 1) := by decide +kernel
theorem dX10_writesInner_22 : decode cX10_writesInner 22 = .ok (.invokevirtual 509, 3) := by decide +kernel
theorem dX10_writesInner_25 : decode cX10_writesInner 25 = .ok (.aload_n 0, 1) := by decide +kernel
theorem dX10_writesInner_26 : decode cX10_writesInner 26 = .ok (.bipush 127, 2) := by decide +kernel
theorem dX10_writesInner_28 : decode cX10_writesInner 28 = .ok (.bipush 13, 2) := by decide +kernel
theorem dX10_writesInner_30 : decode cX10_writesInner 30 = .ok (.iload_n 1, 1) := by decide +kernel
theorem dX10_writesInner_31 : decode cX10_writesInner 31 = .ok (.imul, 1) := by decide +kernel
theorem dX10_writesInner_32 : decode cX10_writesInner 32 = .ok (.iadd, 1) := by decide +kernel
theorem dX10_writesInner_33 : decode cX10_writesInner 33 = .ok (.iconst 5, 1) := by decide +kernel
theorem dX10_writesInner_34 : decode cX10_writesInner 34 = .ok (.iadd, 1) := by decide +kernel
theorem dX10_writesInner_35 : decode cX10_writesInner 35 = .ok (.iconst 2, 1) := by decide +kernel
theorem dX10_writesInner_36 : decode cX10_writesInner 36 = .ok (.iload_n 3, 1) := by decide +kernel
theorem dX10_writesInner_37 : decode cX10_writesInner 37 = .ok (.imul, 1) := by decide +kernel
theorem dX10_writesInner_38 : decode cX10_writesInner 38 = .ok (.iadd, 1) := by decide +kernel
theorem dX10_writesInner_39 : decode cX10_writesInner 39 = .ok (.invokevirtual 515, 3) := by decide +kernel
theorem dX10_writesInner_42 : decode cX10_writesInner 42 = .ok (.iinc 3 1, 3) := by decide +kernel
theorem dX10_writesInner_45 : decode cX10_writesInner 45 = .ok (.goto (-43), 3) := by decide +kernel
theorem dX10_writesInner_48 : decode cX10_writesInner 48 = .ok (.return_, 1) := by decide +kernel
theorem dX10_writesOpening_0 : decode cX10_writesOpening 0 = .ok (.iconst 0, 1) := by decide +kernel
theorem dX10_writesOpening_1 : decode cX10_writesOpening 1 = .ok (.istore_n 3, 1) := by decide +kernel
theorem dX10_writesOpening_2 : decode cX10_writesOpening 2 = .ok (.iload_n 3, 1) := by decide +kernel
theorem dX10_writesOpening_3 : decode cX10_writesOpening 3 = .ok (.aload_n 0, 1) := by decide +kernel
theorem dX10_writesOpening_4 : decode cX10_writesOpening 4 = .ok (.iload_n 1, 1) := by decide +kernel
theorem dX10_writesOpening_5 : decode cX10_writesOpening 5 = .ok (.bipush 8, 2) := by decide +kernel
theorem dX10_writesOpening_7 : decode cX10_writesOpening 7 = .ok (.invokevirtual 138, 3) := by decide +kernel
theorem dX10_writesOpening_10 : decode cX10_writesOpening 10 = .ok (.if_icmp .ge 40, 3) := by decide +kernel
theorem dX10_writesOpening_13 : decode cX10_writesOpening 13 = .ok (.aload_n 0, 1) := by decide +kernel
theorem dX10_writesOpening_14 : decode cX10_writesOpening 14 = .ok (.aload_n 0, 1) := by decide +kernel
theorem dX10_writesOpening_15 : decode cX10_writesOpening 15 = .ok (.iload_n 1, 1) := by decide +kernel
theorem dX10_writesOpening_16 : decode cX10_writesOpening 16 = .ok (.bipush 7, 2) := by decide +kernel
theorem dX10_writesOpening_18 : decode cX10_writesOpening 18 = .ok (.invokevirtual 138, 3) := by decide +kernel
theorem dX10_writesOpening_21 : decode cX10_writesOpening 21 = .ok (.iload_n 3, 1) := by decide +kernel
theorem dX10_writesOpening_22 : decode cX10_writesOpening 22 = .ok (.iadd, 1) := by decide +kernel
theorem dX10_writesOpening_23 : decode cX10_writesOpening 23 = .ok (.iconst 0, 1) := by decide +kernel
theorem dX10_writesOpening_24 : decode cX10_writesOpening 24 = .ok (.invokevirtual 145, 3) := by decide +kernel
theorem dX10_writesOpening_27 : decode cX10_writesOpening 27 = .ok (.iload_n 2, 1) := by decide +kernel
theorem dX10_writesOpening_28 : decode cX10_writesOpening 28 = .ok (.if_icmp .eq 6, 3) := by decide +kernel
theorem dX10_writesOpening_31 : decode cX10_writesOpening 31 = .ok (.goto 13, 3) := by decide +kernel
theorem dX10_writesOpening_34 : decode cX10_writesOpening 34 = .ok (.aload_n 0, 1) := by decide +kernel
theorem dX10_writesOpening_35 : decode cX10_writesOpening 35 = .ok (.invokevirtual 512, 3) := by decide +kernel
theorem dX10_writesOpening_38 : decode cX10_writesOpening 38 = .ok (.aload_n 0, 1) := by decide +kernel
theorem dX10_writesOpening_39 : decode cX10_writesOpening 39 = .ok (.bipush 40, 2) := by decide +kernel
theorem dX10_writesOpening_41 : decode cX10_writesOpening 41 = .ok (.invokevirtual 509, 3) := by decide +kernel
theorem dX10_writesOpening_44 : decode cX10_writesOpening 44 = .ok (.iinc 3 1, 3) := by decide +kernel
theorem dX10_writesOpening_47 : decode cX10_writesOpening 47 = .ok (.goto (-45), 3) := by decide +kernel
theorem dX10_writesOpening_50 : decode cX10_writesOpening 50 = .ok (.return_, 1) := by decide +kernel
theorem dX10_writesClosing_0 : decode cX10_writesClosing 0 = .ok (.iconst 0, 1) := by decide +kernel
theorem dX10_writesClosing_1 : decode cX10_writesClosing 1 = .ok (.istore_n 3, 1) := by decide +kernel
theorem dX10_writesClosing_2 : decode cX10_writesClosing 2 = .ok (.iload_n 3, 1) := by decide +kernel
theorem dX10_writesClosing_3 : decode cX10_writesClosing 3 = .ok (.aload_n 0, 1) := by decide +kernel
theorem dX10_writesClosing_4 : decode cX10_writesClosing 4 = .ok (.iload_n 1, 1) := by decide +kernel
theorem dX10_writesClosing_5 : decode cX10_writesClosing 5 = .ok (.bipush 8, 2) := by decide +kernel
theorem dX10_writesClosing_7 : decode cX10_writesClosing 7 = .ok (.invokevirtual 138, 3) := by decide +kernel
theorem dX10_writesClosing_10 : decode cX10_writesClosing 10 = .ok (.if_icmp .ge 40, 3) := by decide +kernel
theorem dX10_writesClosing_13 : decode cX10_writesClosing 13 = .ok (.aload_n 0, 1) := by decide +kernel
theorem dX10_writesClosing_14 : decode cX10_writesClosing 14 = .ok (.aload_n 0, 1) := by decide +kernel
theorem dX10_writesClosing_15 : decode cX10_writesClosing 15 = .ok (.iload_n 1, 1) := by decide +kernel
theorem dX10_writesClosing_16 : decode cX10_writesClosing 16 = .ok (.bipush 7, 2) := by decide +kernel
theorem dX10_writesClosing_18 : decode cX10_writesClosing 18 = .ok (.invokevirtual 138, 3) := by decide +kernel
theorem dX10_writesClosing_21 : decode cX10_writesClosing 21 = .ok (.iload_n 3, 1) := by decide +kernel
theorem dX10_writesClosing_22 : decode cX10_writesClosing 22 = .ok (.iadd, 1) := by decide +kernel
theorem dX10_writesClosing_23 : decode cX10_writesClosing 23 = .ok (.iconst 1, 1) := by decide +kernel
theorem dX10_writesClosing_24 : decode cX10_writesClosing 24 = .ok (.invokevirtual 145, 3) := by decide +kernel
theorem dX10_writesClosing_27 : decode cX10_writesClosing 27 = .ok (.iload_n 2, 1) := by decide +kernel
theorem dX10_writesClosing_28 : decode cX10_writesClosing 28 = .ok (.if_icmp .eq 6, 3) := by decide +kernel
theorem dX10_writesClosing_31 : decode cX10_writesClosing 31 = .ok (.goto 13, 3) := by decide +kernel
theorem dX10_writesClosing_34 : decode cX10_writesClosing 34 = .ok (.aload_n 0, 1) := by decide +kernel
theorem dX10_writesClosing_35 : decode cX10_writesClosing 35 = .ok (.invokevirtual 512, 3) := by decide +kernel
theorem dX10_writesClosing_38 : decode cX10_writesClosing 38 = .ok (.aload_n 0, 1) := by decide +kernel
theorem dX10_writesClosing_39 : decode cX10_writesClosing 39 = .ok (.bipush 41, 2) := by decide +kernel
theorem dX10_writesClosing_41 : decode cX10_writesClosing 41 = .ok (.invokevirtual 509, 3) := by decide +kernel
theorem dX10_writesClosing_44 : decode cX10_writesClosing 44 = .ok (.iinc 3 1, 3) := by decide +kernel
theorem dX10_writesClosing_47 : decode cX10_writesClosing 47 = .ok (.goto (-45), 3) := by decide +kernel
theorem dX10_writesClosing_50 : decode cX10_writesClosing 50 = .ok (.return_, 1) := by decide +kernel
theorem dX10_writesWord_0 : decode cX10_writesWord 0 = .ok (.aload_n 0, 1) := by decide +kernel
theorem dX10_writesWord_1 : decode cX10_writesWord 1 = .ok (.invokevirtual 512, 3) := by decide +kernel
theorem dX10_writesWord_4 : decode cX10_writesWord 4 = .ok (.aload_n 0, 1) := by decide +kernel
theorem dX10_writesWord_5 : decode cX10_writesWord 5 = .ok (.iload_n 1, 1) := by decide +kernel
theorem dX10_writesWord_6 : decode cX10_writesWord 6 = .ok (.invokevirtual 374, 3) := by decide +kernel
theorem dX10_writesWord_9 : decode cX10_writesWord 9 = .ok (.ifCond .ne 10, 3) := by decide +kernel
theorem dX10_writesWord_12 : decode cX10_writesWord 12 = .ok (.aload_n 0, 1) := by decide +kernel
theorem dX10_writesWord_13 : decode cX10_writesWord 13 = .ok (.bipush 63, 2) := by decide +kernel
theorem dX10_writesWord_15 : decode cX10_writesWord 15 = .ok (.invokevirtual 509, 3) := by decide +kernel
theorem dX10_writesWord_18 : decode cX10_writesWord 18 = .ok (.return_, 1) := by decide +kernel
theorem dX10_writesWord_19 : decode cX10_writesWord 19 = .ok (.iload_n 2, 1) := by decide +kernel
theorem dX10_writesWord_20 : decode cX10_writesWord 20 = .ok (.ifCond .eq 17, 3) := by decide +kernel
theorem dX10_writesWord_23 : decode cX10_writesWord 23 = .ok (.aload_n 0, 1) := by decide +kernel
theorem dX10_writesWord_24 : decode cX10_writesWord 24 = .ok (.iload_n 1, 1) := by decide +kernel
theorem dX10_writesWord_25 : decode cX10_writesWord 25 = .ok (.invokevirtual 330, 3) := by decide +kernel
theorem dX10_writesWord_28 : decode cX10_writesWord 28 = .ok (.ifCond .ne 9, 3) := by decide +kernel
theorem dX10_writesWord_31 : decode cX10_writesWord 31 = .ok (.aload_n 0, 1) := by decide +kernel
theorem dX10_writesWord_32 : decode cX10_writesWord 32 = .ok (.bipush 45, 2) := by decide +kernel
theorem dX10_writesWord_34 : decode cX10_writesWord 34 = .ok (.invokevirtual 509, 3) := by decide +kernel
theorem dX10_writesWord_37 : decode cX10_writesWord 37 = .ok (.aload_n 0, 1) := by decide +kernel
theorem dX10_writesWord_38 : decode cX10_writesWord 38 = .ok (.bipush 127, 2) := by decide +kernel
theorem dX10_writesWord_40 : decode cX10_writesWord 40 = .ok (.bipush 13, 2) := by decide +kernel
theorem dX10_writesWord_42 : decode cX10_writesWord 42 = .ok (.iload_n 1, 1) := by decide +kernel
theorem dX10_writesWord_43 : decode cX10_writesWord 43 = .ok (.imul, 1) := by decide +kernel
theorem dX10_writesWord_44 : decode cX10_writesWord 44 = .ok (.iadd, 1) := by decide +kernel
theorem dX10_writesWord_45 : decode cX10_writesWord 45 = .ok (.invokevirtual 515, 3) := by decide +kernel
theorem dX10_writesWord_48 : decode cX10_writesWord 48 = .ok (.return_, 1) := by decide +kernel
theorem dX10_writeAct_0 : decode cX10_writeAct 0 = .ok (.aload_n 0, 1) := by decide +kernel
theorem dX10_writeAct_1 : decode cX10_writeAct 1 = .ok (.iload_n 1, 1) := by decide +kernel
theorem dX10_writeAct_2 : decode cX10_writeAct 2 = .ok (.invokevirtual 455, 3) := by decide +kernel
theorem dX10_writeAct_5 : decode cX10_writeAct 5 = .ok (.ifCond .ne 5, 3) := by decide +kernel
theorem dX10_writeAct_8 : decode cX10_writeAct 8 = .ok (.iconst 0, 1) := by decide +kernel
theorem dX10_writeAct_9 : decode cX10_writeAct 9 = .ok (.ireturn, 1) := by decide +kernel
theorem dX10_writeAct_10 : decode cX10_writeAct 10 = .ok (.aload_n 0, 1) := by decide +kernel
theorem dX10_writeAct_11 : decode cX10_writeAct 11 = .ok (.iconst 0, 1) := by decide +kernel
theorem dX10_writeAct_12 : decode cX10_writeAct 12 = .ok (.putfield 506, 3) := by decide +kernel
theorem dX10_writeAct_15 : decode cX10_writeAct 15 = .ok (.aload_n 0, 1) := by decide +kernel
theorem dX10_writeAct_16 : decode cX10_writeAct 16 = .ok (.iload_n 1, 1) := by decide +kernel
theorem dX10_writeAct_17 : decode cX10_writeAct 17 = .ok (.iconst 1, 1) := by decide +kernel
theorem dX10_writeAct_18 : decode cX10_writeAct 18 = .ok (.isub, 1) := by decide +kernel
theorem dX10_writeAct_19 : decode cX10_writeAct 19 = .ok (.iconst 5, 1) := by decide +kernel
theorem dX10_writeAct_20 : decode cX10_writeAct 20 = .ok (.invokevirtual 138, 3) := by decide +kernel
theorem dX10_writeAct_23 : decode cX10_writeAct 23 = .ok (.istore_n 2, 1) := by decide +kernel
theorem dX10_writeAct_24 : decode cX10_writeAct 24 = .ok (.iload_n 2, 1) := by decide +kernel
theorem dX10_writeAct_25 : decode cX10_writeAct 25 = .ok (.aload_n 0, 1) := by decide +kernel
theorem dX10_writeAct_26 : decode cX10_writeAct 26 = .ok (.iload_n 1, 1) := by decide +kernel
theorem dX10_writeAct_27 : decode cX10_writeAct 27 = .ok (.iconst 1, 1) := by decide +kernel
theorem dX10_writeAct_28 : decode cX10_writeAct 28 = .ok (.isub, 1) := by decide +kernel
theorem dX10_writeAct_29 : decode cX10_writeAct 29 = .ok (.invokevirtual 327, 3) := by decide +kernel
theorem dX10_writeAct_32 : decode cX10_writeAct 32 = .ok (.if_icmp .gt 38, 3) := by decide +kernel
theorem dX10_writeAct_35 : decode cX10_writeAct 35 = .ok (.aload_n 0, 1) := by decide +kernel
theorem dX10_writeAct_36 : decode cX10_writeAct 36 = .ok (.iload_n 1, 1) := by decide +kernel
theorem dX10_writeAct_37 : decode cX10_writeAct 37 = .ok (.iconst 1, 1) := by decide +kernel
theorem dX10_writeAct_38 : decode cX10_writeAct 38 = .ok (.isub, 1) := by decide +kernel
theorem dX10_writeAct_39 : decode cX10_writeAct 39 = .ok (.iload_n 2, 1) := by decide +kernel
theorem dX10_writeAct_40 : decode cX10_writeAct 40 = .ok (.invokevirtual 518, 3) := by decide +kernel
theorem dX10_writeAct_43 : decode cX10_writeAct 43 = .ok (.aload_n 0, 1) := by decide +kernel
theorem dX10_writeAct_44 : decode cX10_writeAct 44 = .ok (.iload_n 2, 1) := by decide +kernel
theorem dX10_writeAct_45 : decode cX10_writeAct 45 = .ok (.iconst 1, 1) := by decide +kernel
theorem dX10_writeAct_46 : decode cX10_writeAct 46 = .ok (.invokevirtual 521, 3) := by decide +kernel
theorem dX10_writeAct_49 : decode cX10_writeAct 49 = .ok (.aload_n 0, 1) := by decide +kernel
theorem dX10_writeAct_50 : decode cX10_writeAct 50 = .ok (.iload_n 2, 1) := by decide +kernel
theorem dX10_writeAct_51 : decode cX10_writeAct 51 = .ok (.bipush 94, 2) := by decide +kernel
theorem dX10_writeAct_53 : decode cX10_writeAct 53 = .ok (.invokevirtual 525, 3) := by decide +kernel
theorem dX10_writeAct_56 : decode cX10_writeAct 56 = .ok (.aload_n 0, 1) := by decide +kernel
theorem dX10_writeAct_57 : decode cX10_writeAct 57 = .ok (.iload_n 1, 1) := by decide +kernel
theorem dX10_writeAct_58 : decode cX10_writeAct 58 = .ok (.iconst 1, 1) := by decide +kernel
theorem dX10_writeAct_59 : decode cX10_writeAct 59 = .ok (.isub, 1) := by decide +kernel
theorem dX10_writeAct_60 : decode cX10_writeAct 60 = .ok (.iload_n 2, 1) := by decide +kernel
theorem dX10_writeAct_61 : decode cX10_writeAct 61 = .ok (.invokevirtual 528, 3) := by decide +kernel
theorem dX10_writeAct_64 : decode cX10_writeAct 64 = .ok (.iinc 2 1, 3) := by decide +kernel
theorem dX10_writeAct_67 : decode cX10_writeAct 67 = .ok (.goto (-43), 3) := by decide +kernel
theorem dX10_writeAct_70 : decode cX10_writeAct 70 = .ok (.aload_n 0, 1) := by decide +kernel
theorem dX10_writeAct_71 : decode cX10_writeAct 71 = .ok (.getfield 506, 3) := by decide +kernel
theorem dX10_writeAct_74 : decode cX10_writeAct 74 = .ok (.ireturn, 1) := by decide +kernel
theorem dX10_written_0 : decode cX10_written 0 = .ok (.aload_n 0, 1) := by decide +kernel
theorem dX10_written_1 : decode cX10_written 1 = .ok (.getfield 506, 3) := by decide +kernel
theorem dX10_written_4 : decode cX10_written 4 = .ok (.ifCond .ne 9, 3) := by decide +kernel
theorem dX10_written_7 : decode cX10_written 7 = .ok (.aload_n 0, 1) := by decide +kernel
theorem dX10_written_8 : decode cX10_written 8 = .ok (.bipush 46, 2) := by decide +kernel
theorem dX10_written_10 : decode cX10_written 10 = .ok (.invokevirtual 509, 3) := by decide +kernel
theorem dX10_written_13 : decode cX10_written 13 = .ok (.aload_n 0, 1) := by decide +kernel
theorem dX10_written_14 : decode cX10_written 14 = .ok (.getfield 506, 3) := by decide +kernel
theorem dX10_written_17 : decode cX10_written 17 = .ok (.ireturn, 1) := by decide +kernel
theorem dX10_writeStanding_0 : decode cX10_writeStanding 0 = .ok (.aload_n 0, 1) := by decide +kernel
theorem dX10_writeStanding_1 : decode cX10_writeStanding 1 = .ok (.iload_n 1, 1) := by decide +kernel
theorem dX10_writeStanding_2 : decode cX10_writeStanding 2 = .ok (.invokevirtual 455, 3) := by decide +kernel
theorem dX10_writeStanding_5 : decode cX10_writeStanding 5 = .ok (.ifCond .ne 5, 3) := by decide +kernel
theorem dX10_writeStanding_8 : decode cX10_writeStanding 8 = .ok (.iconst 0, 1) := by decide +kernel
theorem dX10_writeStanding_9 : decode cX10_writeStanding 9 = .ok (.ireturn, 1) := by decide +kernel
theorem dX10_writeStanding_10 : decode cX10_writeStanding 10 = .ok (.aload_n 0, 1) := by decide +kernel
theorem dX10_writeStanding_11 : decode cX10_writeStanding 11 = .ok (.iconst 0, 1) := by decide +kernel
theorem dX10_writeStanding_12 : decode cX10_writeStanding 12 = .ok (.putfield 506, 3) := by decide +kernel
theorem dX10_writeStanding_15 : decode cX10_writeStanding 15 = .ok (.aload_n 0, 1) := by decide +kernel
theorem dX10_writeStanding_16 : decode cX10_writeStanding 16 = .ok (.iload_n 1, 1) := by decide +kernel
theorem dX10_writeStanding_17 : decode cX10_writeStanding 17 = .ok (.iconst 1, 1) := by decide +kernel
theorem dX10_writeStanding_18 : decode cX10_writeStanding 18 = .ok (.isub, 1) := by decide +kernel
theorem dX10_writeStanding_19 : decode cX10_writeStanding 19 = .ok (.iconst 5, 1) := by decide +kernel
theorem dX10_writeStanding_20 : decode cX10_writeStanding 20 = .ok (.invokevirtual 138, 3) := by decide +kernel
theorem dX10_writeStanding_23 : decode cX10_writeStanding 23 = .ok (.istore_n 2, 1) := by decide +kernel
theorem dX10_writeStanding_24 : decode cX10_writeStanding 24 = .ok (.iload_n 2, 1) := by decide +kernel
theorem dX10_writeStanding_25 : decode cX10_writeStanding 25 = .ok (.aload_n 0, 1) := by decide +kernel
theorem dX10_writeStanding_26 : decode cX10_writeStanding 26 = .ok (.iload_n 1, 1) := by decide +kernel
theorem dX10_writeStanding_27 : decode cX10_writeStanding 27 = .ok (.iconst 1, 1) := by decide +kernel
theorem dX10_writeStanding_28 : decode cX10_writeStanding 28 = .ok (.isub, 1) := by decide +kernel
theorem dX10_writeStanding_29 : decode cX10_writeStanding 29 = .ok (.invokevirtual 327, 3) := by decide +kernel
theorem dX10_writeStanding_32 : decode cX10_writeStanding 32 = .ok (.if_icmp .gt 29, 3) := by decide +kernel
theorem dX10_writeStanding_35 : decode cX10_writeStanding 35 = .ok (.aload_n 0, 1) := by decide +kernel
theorem dX10_writeStanding_36 : decode cX10_writeStanding 36 = .ok (.iload_n 2, 1) := by decide +kernel
theorem dX10_writeStanding_37 : decode cX10_writeStanding 37 = .ok (.invokevirtual 330, 3) := by decide +kernel
theorem dX10_writeStanding_40 : decode cX10_writeStanding 40 = .ok (.ifCond .eq 9, 3) := by decide +kernel
theorem dX10_writeStanding_43 : decode cX10_writeStanding 43 = .ok (.aload_n 0, 1) := by decide +kernel
theorem dX10_writeStanding_44 : decode cX10_writeStanding 44 = .ok (.iload_n 2, 1) := by decide +kernel
theorem dX10_writeStanding_45 : decode cX10_writeStanding 45 = .ok (.iconst 0, 1) := by decide +kernel
theorem dX10_writeStanding_46 : decode cX10_writeStanding 46 = .ok (.invokevirtual 521, 3) := by decide +kernel
theorem dX10_writeStanding_49 : decode cX10_writeStanding 49 = .ok (.aload_n 0, 1) := by decide +kernel
theorem dX10_writeStanding_50 : decode cX10_writeStanding 50 = .ok (.iload_n 2, 1) := by decide +kernel
theorem dX10_writeStanding_51 : decode cX10_writeStanding 51 = .ok (.iconst 0, 1) := by decide +kernel
theorem dX10_writeStanding_52 : decode cX10_writeStanding 52 = .ok (.invokevirtual 525, 3) := by decide +kernel
theorem dX10_writeStanding_55 : decode cX10_writeStanding 55 = .ok (.iinc 2 1, 3) := by decide +kernel
theorem dX10_writeStanding_58 : decode cX10_writeStanding 58 = .ok (.goto (-34), 3) := by decide +kernel
theorem dX10_writeStanding_61 : decode cX10_writeStanding 61 = .ok (.aload_n 0, 1) := by decide +kernel
theorem dX10_writeStanding_62 : decode cX10_writeStanding 62 = .ok (.invokevirtual 531, 3) := by decide +kernel
theorem dX10_writeStanding_65 : decode cX10_writeStanding 65 = .ok (.ireturn, 1) := by decide +kernel
theorem dX10_writesNumber_0 : decode cX10_writesNumber 0 = .ok (.iload_n 1, 1) := by decide +kernel
theorem dX10_writesNumber_1 : decode cX10_writesNumber 1 = .ok (.bipush 9, 2) := by decide +kernel
theorem dX10_writesNumber_3 : decode cX10_writesNumber 3 = .ok (.if_icmp .le 14, 3) := by decide +kernel
theorem dX10_writesNumber_6 : decode cX10_writesNumber 6 = .ok (.aload_n 0, 1) := by decide +kernel
theorem dX10_writesNumber_7 : decode cX10_writesNumber 7 = .ok (.bipush 48, 2) := by decide +kernel
theorem dX10_writesNumber_9 : decode cX10_writesNumber 9 = .ok (.iload_n 1, 1) := by decide +kernel
theorem dX10_writesNumber_10 : decode cX10_writesNumber 10 = .ok (.bipush 10, 2) := by decide +kernel
theorem dX10_writesNumber_12 : decode cX10_writesNumber 12 = .ok (.idiv, 1) := by decide +kernel
theorem dX10_writesNumber_13 : decode cX10_writesNumber 13 = .ok (.iadd, 1) := by decide +kernel
theorem dX10_writesNumber_14 : decode cX10_writesNumber 14 = .ok (.invokevirtual 509, 3) := by decide +kernel
theorem dX10_writesNumber_17 : decode cX10_writesNumber 17 = .ok (.aload_n 0, 1) := by decide +kernel
theorem dX10_writesNumber_18 : decode cX10_writesNumber 18 = .ok (.bipush 48, 2) := by decide +kernel
theorem dX10_writesNumber_20 : decode cX10_writesNumber 20 = .ok (.iload_n 1, 1) := by decide +kernel
theorem dX10_writesNumber_21 : decode cX10_writesNumber 21 = .ok (.bipush 10, 2) := by decide +kernel
theorem dX10_writesNumber_23 : decode cX10_writesNumber 23 = .ok (.irem, 1) := by decide +kernel
theorem dX10_writesNumber_24 : decode cX10_writesNumber 24 = .ok (.iadd, 1) := by decide +kernel
theorem dX10_writesNumber_25 : decode cX10_writesNumber 25 = .ok (.invokevirtual 509, 3) := by decide +kernel
theorem dX10_writesNumber_28 : decode cX10_writesNumber 28 = .ok (.return_, 1) := by decide +kernel
theorem dX10_writesOnLeaf_0 : decode cX10_writesOnLeaf 0 = .ok (.aload_n 0, 1) := by decide +kernel
theorem dX10_writesOnLeaf_1 : decode cX10_writesOnLeaf 1 = .ok (.invokevirtual 512, 3) := by decide +kernel
theorem dX10_writesOnLeaf_4 : decode cX10_writesOnLeaf 4 = .ok (.aload_n 0, 1) := by decide +kernel
theorem dX10_writesOnLeaf_5 : decode cX10_writesOnLeaf 5 = .ok (.iload_n 1, 1) := by decide +kernel
theorem dX10_writesOnLeaf_6 : decode cX10_writesOnLeaf 6 = .ok (.invokevirtual 358, 3) := by decide +kernel
theorem dX10_writesOnLeaf_9 : decode cX10_writesOnLeaf 9 = .ok (.istore_n 2, 1) := by decide +kernel
theorem dX10_writesOnLeaf_10 : decode cX10_writesOnLeaf 10 = .ok (.aload_n 0, 1) := by decide +kernel
theorem dX10_writesOnLeaf_11 : decode cX10_writesOnLeaf 11 = .ok (.iload_n 2, 1) := by decide +kernel
theorem dX10_writesOnLeaf_12 : decode cX10_writesOnLeaf 12 = .ok (.iconst 5, 1) := by decide +kernel
theorem dX10_writesOnLeaf_13 : decode cX10_writesOnLeaf 13 = .ok (.invokevirtual 138, 3) := by decide +kernel
theorem dX10_writesOnLeaf_16 : decode cX10_writesOnLeaf 16 = .ok (.iload_n 1, 1) := by decide +kernel
theorem dX10_writesOnLeaf_17 : decode cX10_writesOnLeaf 17 = .ok (.if_icmp .ne 16, 3) := by decide +kernel
theorem dX10_writesOnLeaf_20 : decode cX10_writesOnLeaf 20 = .ok (.aload_n 0, 1) := by decide +kernel
theorem dX10_writesOnLeaf_21 : decode cX10_writesOnLeaf 21 = .ok (.iload_n 2, 1) := by decide +kernel
theorem dX10_writesOnLeaf_22 : decode cX10_writesOnLeaf 22 = .ok (.iconst 1, 1) := by decide +kernel
theorem dX10_writesOnLeaf_23 : decode cX10_writesOnLeaf 23 = .ok (.iadd, 1) := by decide +kernel
theorem dX10_writesOnLeaf_24 : decode cX10_writesOnLeaf 24 = .ok (.invokevirtual 534, 3) := by decide +kernel
theorem dX10_writesOnLeaf_27 : decode cX10_writesOnLeaf 27 = .ok (.aload_n 0, 1) := by decide +kernel
theorem dX10_writesOnLeaf_28 : decode cX10_writesOnLeaf 28 = .ok (.bipush 58, 2) := by decide +kernel
theorem dX10_writesOnLeaf_30 : decode cX10_writesOnLeaf 30 = .ok (.invokevirtual 509, 3) := by decide +kernel
theorem dX10_writesOnLeaf_33 : decode cX10_writesOnLeaf 33 = .ok (.aload_n 0, 1) := by decide +kernel
theorem dX10_writesOnLeaf_34 : decode cX10_writesOnLeaf 34 = .ok (.bipush 127, 2) := by decide +kernel
theorem dX10_writesOnLeaf_36 : decode cX10_writesOnLeaf 36 = .ok (.bipush 13, 2) := by decide +kernel
theorem dX10_writesOnLeaf_38 : decode cX10_writesOnLeaf 38 = .ok (.iload_n 1, 1) := by decide +kernel
theorem dX10_writesOnLeaf_39 : decode cX10_writesOnLeaf 39 = .ok (.imul, 1) := by decide +kernel
theorem dX10_writesOnLeaf_40 : decode cX10_writesOnLeaf 40 = .ok (.iadd, 1) := by decide +kernel
theorem dX10_writesOnLeaf_41 : decode cX10_writesOnLeaf 41 = .ok (.invokevirtual 515, 3) := by decide +kernel
theorem dX10_writesOnLeaf_44 : decode cX10_writesOnLeaf 44 = .ok (.return_, 1) := by decide +kernel
theorem dX10_writeLeaf_0 : decode cX10_writeLeaf 0 = .ok (.aload_n 0, 1) := by decide +kernel
theorem dX10_writeLeaf_1 : decode cX10_writeLeaf 1 = .ok (.iload_n 1, 1) := by decide +kernel
theorem dX10_writeLeaf_2 : decode cX10_writeLeaf 2 = .ok (.invokevirtual 474, 3) := by decide +kernel
theorem dX10_writeLeaf_5 : decode cX10_writeLeaf 5 = .ok (.ifCond .ne 5, 3) := by decide +kernel
theorem dX10_writeLeaf_8 : decode cX10_writeLeaf 8 = .ok (.iconst 0, 1) := by decide +kernel
theorem dX10_writeLeaf_9 : decode cX10_writeLeaf 9 = .ok (.ireturn, 1) := by decide +kernel
theorem dX10_writeLeaf_10 : decode cX10_writeLeaf 10 = .ok (.aload_n 0, 1) := by decide +kernel
theorem dX10_writeLeaf_11 : decode cX10_writeLeaf 11 = .ok (.iconst 0, 1) := by decide +kernel
theorem dX10_writeLeaf_12 : decode cX10_writeLeaf 12 = .ok (.putfield 506, 3) := by decide +kernel
theorem dX10_writeLeaf_15 : decode cX10_writeLeaf 15 = .ok (.aload_n 0, 1) := by decide +kernel
theorem dX10_writeLeaf_16 : decode cX10_writeLeaf 16 = .ok (.iload_n 1, 1) := by decide +kernel
theorem dX10_writeLeaf_17 : decode cX10_writeLeaf 17 = .ok (.invokevirtual 237, 3) := by decide +kernel
theorem dX10_writeLeaf_20 : decode cX10_writeLeaf 20 = .ok (.iconst 2, 1) := by decide +kernel
theorem dX10_writeLeaf_21 : decode cX10_writeLeaf 21 = .ok (.if_icmp .ne 12, 3) := by decide +kernel
theorem dX10_writeLeaf_24 : decode cX10_writeLeaf 24 = .ok (.aload_n 0, 1) := by decide +kernel
theorem dX10_writeLeaf_25 : decode cX10_writeLeaf 25 = .ok (.bipush 63, 2) := by decide +kernel
theorem dX10_writeLeaf_27 : decode cX10_writeLeaf 27 = .ok (.invokevirtual 509, 3) := by decide +kernel
theorem dX10_writeLeaf_30 : decode cX10_writeLeaf 30 = .ok (.goto 29, 3) := by decide +kernel
theorem dX10_writeLeaf_33 : decode cX10_writeLeaf 33 = .ok (.aload_n 0, 1) := by decide +kernel
theorem dX10_writeLeaf_34 : decode cX10_writeLeaf 34 = .ok (.iload_n 1, 1) := by decide +kernel
theorem dX10_writeLeaf_35 : decode cX10_writeLeaf 35 = .ok (.invokevirtual 446, 3) := by decide +kernel
theorem dX10_writeLeaf_38 : decode cX10_writeLeaf 38 = .ok (.istore_n 2, 1) := by decide +kernel
theorem dX10_writeLeaf_39 : decode cX10_writeLeaf 39 = .ok (.iload_n 2, 1) := by decide +kernel
theorem dX10_writeLeaf_40 : decode cX10_writeLeaf 40 = .ok (.aload_n 0, 1) := by decide +kernel
theorem dX10_writeLeaf_41 : decode cX10_writeLeaf 41 = .ok (.iload_n 1, 1) := by decide +kernel
theorem dX10_writeLeaf_42 : decode cX10_writeLeaf 42 = .ok (.invokevirtual 443, 3) := by decide +kernel
theorem dX10_writeLeaf_45 : decode cX10_writeLeaf 45 = .ok (.if_icmp .gt 14, 3) := by decide +kernel
theorem dX10_writeLeaf_48 : decode cX10_writeLeaf 48 = .ok (.aload_n 0, 1) := by decide +kernel
theorem dX10_writeLeaf_49 : decode cX10_writeLeaf 49 = .ok (.iload_n 2, 1) := by decide +kernel
theorem dX10_writeLeaf_50 : decode cX10_writeLeaf 50 = .ok (.invokevirtual 537, 3) := by decide +kernel
theorem dX10_writeLeaf_53 : decode cX10_writeLeaf 53 = .ok (.iinc 2 1, 3) := by decide +kernel
theorem dX10_writeLeaf_56 : decode cX10_writeLeaf 56 = .ok (.goto (-17), 3) := by decide +kernel
theorem dX10_writeLeaf_59 : decode cX10_writeLeaf 59 = .ok (.aload_n 0, 1) := by decide +kernel
theorem dX10_writeLeaf_60 : decode cX10_writeLeaf 60 = .ok (.getfield 506, 3) := by decide +kernel
theorem dX10_writeLeaf_63 : decode cX10_writeLeaf 63 = .ok (.ireturn, 1) := by decide +kernel
theorem dX10_writeCopy_0 : decode cX10_writeCopy 0 = .ok (.aload_n 0, 1) := by decide +kernel
theorem dX10_writeCopy_1 : decode cX10_writeCopy 1 = .ok (.iload_n 1, 1) := by decide +kernel
theorem dX10_writeCopy_2 : decode cX10_writeCopy 2 = .ok (.invokevirtual 540, 3) := by decide +kernel
theorem dX10_writeCopy_5 : decode cX10_writeCopy 5 = .ok (.ifCond .ne 5, 3) := by decide +kernel
theorem dX10_writeCopy_8 : decode cX10_writeCopy 8 = .ok (.iconst 0, 1) := by decide +kernel
theorem dX10_writeCopy_9 : decode cX10_writeCopy 9 = .ok (.ireturn, 1) := by decide +kernel
theorem dX10_writeCopy_10 : decode cX10_writeCopy 10 = .ok (.aload_n 0, 1) := by decide +kernel
theorem dX10_writeCopy_11 : decode cX10_writeCopy 11 = .ok (.iconst 0, 1) := by decide +kernel
theorem dX10_writeCopy_12 : decode cX10_writeCopy 12 = .ok (.putfield 506, 3) := by decide +kernel
theorem dX10_writeCopy_15 : decode cX10_writeCopy 15 = .ok (.aload_n 0, 1) := by decide +kernel
theorem dX10_writeCopy_16 : decode cX10_writeCopy 16 = .ok (.iload_n 1, 1) := by decide +kernel
theorem dX10_writeCopy_17 : decode cX10_writeCopy 17 = .ok (.iconst 0, 1) := by decide +kernel
theorem dX10_writeCopy_18 : decode cX10_writeCopy 18 = .ok (.invokevirtual 355, 3) := by decide +kernel
theorem dX10_writeCopy_21 : decode cX10_writeCopy 21 = .ok (.istore_n 2, 1) := by decide +kernel
theorem dX10_writeCopy_22 : decode cX10_writeCopy 22 = .ok (.aload_n 0, 1) := by decide +kernel
theorem dX10_writeCopy_23 : decode cX10_writeCopy 23 = .ok (.iload_n 2, 1) := by decide +kernel
theorem dX10_writeCopy_24 : decode cX10_writeCopy 24 = .ok (.iconst 5, 1) := by decide +kernel
theorem dX10_writeCopy_25 : decode cX10_writeCopy 25 = .ok (.invokevirtual 138, 3) := by decide +kernel
theorem dX10_writeCopy_28 : decode cX10_writeCopy 28 = .ok (.istore_n 3, 1) := by decide +kernel
theorem dX10_writeCopy_29 : decode cX10_writeCopy 29 = .ok (.iload_n 3, 1) := by decide +kernel
theorem dX10_writeCopy_30 : decode cX10_writeCopy 30 = .ok (.aload_n 0, 1) := by decide +kernel
theorem dX10_writeCopy_31 : decode cX10_writeCopy 31 = .ok (.iload_n 2, 1) := by decide +kernel
theorem dX10_writeCopy_32 : decode cX10_writeCopy 32 = .ok (.invokevirtual 327, 3) := by decide +kernel
theorem dX10_writeCopy_35 : decode cX10_writeCopy 35 = .ok (.if_icmp .gt 39, 3) := by decide +kernel
theorem dX10_writeCopy_38 : decode cX10_writeCopy 38 = .ok (.aload_n 0, 1) := by decide +kernel
theorem dX10_writeCopy_39 : decode cX10_writeCopy 39 = .ok (.iload_n 1, 1) := by decide +kernel
theorem dX10_writeCopy_40 : decode cX10_writeCopy 40 = .ok (.iload_n 3, 1) := by decide +kernel
theorem dX10_writeCopy_41 : decode cX10_writeCopy 41 = .ok (.invokevirtual 364, 3) := by decide +kernel
theorem dX10_writeCopy_44 : decode cX10_writeCopy 44 = .ok (.ifCond .eq 9, 3) := by decide +kernel
theorem dX10_writeCopy_47 : decode cX10_writeCopy 47 = .ok (.aload_n 0, 1) := by decide +kernel
theorem dX10_writeCopy_48 : decode cX10_writeCopy 48 = .ok (.iload_n 3, 1) := by decide +kernel
theorem dX10_writeCopy_49 : decode cX10_writeCopy 49 = .ok (.iconst 0, 1) := by decide +kernel
theorem dX10_writeCopy_50 : decode cX10_writeCopy 50 = .ok (.invokevirtual 521, 3) := by decide +kernel
theorem dX10_writeCopy_53 : decode cX10_writeCopy 53 = .ok (.aload_n 0, 1) := by decide +kernel
theorem dX10_writeCopy_54 : decode cX10_writeCopy 54 = .ok (.iload_n 1, 1) := by decide +kernel
theorem dX10_writeCopy_55 : decode cX10_writeCopy 55 = .ok (.iconst 1, 1) := by decide +kernel
theorem dX10_writeCopy_56 : decode cX10_writeCopy 56 = .ok (.invokevirtual 355, 3) := by decide +kernel
theorem dX10_writeCopy_59 : decode cX10_writeCopy 59 = .ok (.ifCond .ne 9, 3) := by decide +kernel
theorem dX10_writeCopy_62 : decode cX10_writeCopy 62 = .ok (.aload_n 0, 1) := by decide +kernel
theorem dX10_writeCopy_63 : decode cX10_writeCopy 63 = .ok (.iload_n 3, 1) := by decide +kernel
theorem dX10_writeCopy_64 : decode cX10_writeCopy 64 = .ok (.iconst 0, 1) := by decide +kernel
theorem dX10_writeCopy_65 : decode cX10_writeCopy 65 = .ok (.invokevirtual 525, 3) := by decide +kernel
theorem dX10_writeCopy_68 : decode cX10_writeCopy 68 = .ok (.iinc 3 1, 3) := by decide +kernel
theorem dX10_writeCopy_71 : decode cX10_writeCopy 71 = .ok (.goto (-42), 3) := by decide +kernel
theorem dX10_writeCopy_74 : decode cX10_writeCopy 74 = .ok (.aload_n 0, 1) := by decide +kernel
theorem dX10_writeCopy_75 : decode cX10_writeCopy 75 = .ok (.invokevirtual 531, 3) := by decide +kernel
theorem dX10_writeCopy_78 : decode cX10_writeCopy 78 = .ok (.ireturn, 1) := by decide +kernel
theorem dX10_textByte_0 : decode cX10_textByte 0 = .ok (.aload_n 0, 1) := by decide +kernel
theorem dX10_textByte_1 : decode cX10_textByte 1 = .ok (.iload_n 1, 1) := by decide +kernel
theorem dX10_textByte_2 : decode cX10_textByte 2 = .ok (.iconst 0, 1) := by decide +kernel
theorem dX10_textByte_3 : decode cX10_textByte 3 = .ok (.aload_n 0, 1) := by decide +kernel
theorem dX10_textByte_4 : decode cX10_textByte 4 = .ok (.getfield 506, 3) := by decide +kernel
theorem dX10_textByte_7 : decode cX10_textByte 7 = .ok (.iconst 1, 1) := by decide +kernel
theorem dX10_textByte_8 : decode cX10_textByte 8 = .ok (.isub, 1) := by decide +kernel
theorem dX10_textByte_9 : decode cX10_textByte 9 = .ok (.invokestatic 69, 3) := by decide +kernel
theorem dX10_textByte_12 : decode cX10_textByte 12 = .ok (.iconst 1, 1) := by decide +kernel
theorem dX10_textByte_13 : decode cX10_textByte 13 = .ok (.iconst 1, 1) := by decide +kernel
theorem dX10_textByte_14 : decode cX10_textByte 14 = .ok (.invokevirtual 44, 3) := by decide +kernel
theorem dX10_textByte_17 : decode cX10_textByte 17 = .ok (.ifCond .eq 12, 3) := by decide +kernel
theorem dX10_textByte_20 : decode cX10_textByte 20 = .ok (.aload_n 0, 1) := by decide +kernel
theorem dX10_textByte_21 : decode cX10_textByte 21 = .ok (.getfield 38, 3) := by decide +kernel
theorem dX10_textByte_24 : decode cX10_textByte 24 = .ok (.iload_n 1, 1) := by decide +kernel
theorem dX10_textByte_25 : decode cX10_textByte 25 = .ok (.baload, 1) := by decide +kernel
theorem dX10_textByte_26 : decode cX10_textByte 26 = .ok (.goto 4, 3) := by decide +kernel
theorem dX10_textByte_29 : decode cX10_textByte 29 = .ok (.iconst 0, 1) := by decide +kernel
theorem dX10_textByte_30 : decode cX10_textByte 30 = .ok (.ireturn, 1) := by decide +kernel
theorem dX10_remembers_0 : decode cX10_remembers 0 = .ok (.aload_n 0, 1) := by decide +kernel
theorem dX10_remembers_1 : decode cX10_remembers 1 = .ok (.getfield 324, 3) := by decide +kernel
theorem dX10_remembers_4 : decode cX10_remembers 4 = .ok (.bipush 8, 2) := by decide +kernel
theorem dX10_remembers_6 : decode cX10_remembers 6 = .ok (.if_icmp .ne 44, 3) := by decide +kernel
theorem dX10_remembers_9 : decode cX10_remembers 9 = .ok (.iconst 0, 1) := by decide +kernel
theorem dX10_remembers_10 : decode cX10_remembers 10 = .ok (.istore_n 1, 1) := by decide +kernel
theorem dX10_remembers_11 : decode cX10_remembers 11 = .ok (.iload_n 1, 1) := by decide +kernel
theorem dX10_remembers_12 : decode cX10_remembers 12 = .ok (.ldc_w 543, 3) := by decide +kernel
theorem dX10_remembers_15 : decode cX10_remembers 15 = .ok (.if_icmp .ge 25, 3) := by decide +kernel
theorem dX10_remembers_18 : decode cX10_remembers 18 = .ok (.aload_n 0, 1) := by decide +kernel
theorem dX10_remembers_19 : decode cX10_remembers 19 = .ok (.getfield 17, 3) := by decide +kernel
theorem dX10_remembers_22 : decode cX10_remembers 22 = .ok (.iload_n 1, 1) := by decide +kernel
theorem dX10_remembers_23 : decode cX10_remembers 23 = .ok (.aload_n 0, 1) := by decide +kernel
theorem dX10_remembers_24 : decode cX10_remembers 24 = .ok (.getfield 17, 3) := by decide +kernel
theorem dX10_remembers_27 : decode cX10_remembers 27 = .ok (.iload_n 1, 1) := by decide +kernel
theorem dX10_remembers_28 : decode cX10_remembers 28 = .ok (.sipush 6139, 3) := by decide +kernel
theorem dX10_remembers_31 : decode cX10_remembers 31 = .ok (.iadd, 1) := by decide +kernel
theorem dX10_remembers_32 : decode cX10_remembers 32 = .ok (.iaload, 1) := by decide +kernel
theorem dX10_remembers_33 : decode cX10_remembers 33 = .ok (.iastore, 1) := by decide +kernel
theorem dX10_remembers_34 : decode cX10_remembers 34 = .ok (.iinc 1 1, 3) := by decide +kernel
theorem dX10_remembers_37 : decode cX10_remembers 37 = .ok (.goto (-26), 3) := by decide +kernel
theorem dX10_remembers_40 : decode cX10_remembers 40 = .ok (.aload_n 0, 1) := by decide +kernel
theorem dX10_remembers_41 : decode cX10_remembers 41 = .ok (.dup, 1) := by decide +kernel
theorem dX10_remembers_42 : decode cX10_remembers 42 = .ok (.getfield 324, 3) := by decide +kernel
theorem dX10_remembers_45 : decode cX10_remembers 45 = .ok (.iconst 1, 1) := by decide +kernel
theorem dX10_remembers_46 : decode cX10_remembers 46 = .ok (.isub, 1) := by decide +kernel
theorem dX10_remembers_47 : decode cX10_remembers 47 = .ok (.putfield 324, 3) := by decide +kernel
theorem dX10_remembers_50 : decode cX10_remembers 50 = .ok (.aload_n 0, 1) := by decide +kernel
theorem dX10_remembers_51 : decode cX10_remembers 51 = .ok (.getfield 9, 3) := by decide +kernel
theorem dX10_remembers_54 : decode cX10_remembers 54 = .ok (.iconst 0, 1) := by decide +kernel
theorem dX10_remembers_55 : decode cX10_remembers 55 = .ok (.aload_n 0, 1) := by decide +kernel
theorem dX10_remembers_56 : decode cX10_remembers 56 = .ok (.getfield 17, 3) := by decide +kernel
theorem dX10_remembers_59 : decode cX10_remembers 59 = .ok (.aload_n 0, 1) := by decide +kernel
theorem dX10_remembers_60 : decode cX10_remembers 60 = .ok (.getfield 324, 3) := by decide +kernel
theorem dX10_remembers_63 : decode cX10_remembers 63 = .ok (.sipush 6139, 3) := by decide +kernel
theorem dX10_remembers_66 : decode cX10_remembers 66 = .ok (.imul, 1) := by decide +kernel
theorem dX10_remembers_67 : decode cX10_remembers 67 = .ok (.invokestatic 52, 3) := by decide +kernel
theorem dX10_remembers_70 : decode cX10_remembers 70 = .ok (.aload_n 0, 1) := by decide +kernel
theorem dX10_remembers_71 : decode cX10_remembers 71 = .ok (.dup, 1) := by decide +kernel
theorem dX10_remembers_72 : decode cX10_remembers 72 = .ok (.getfield 324, 3) := by decide +kernel
theorem dX10_remembers_75 : decode cX10_remembers 75 = .ok (.iconst 1, 1) := by decide +kernel
theorem dX10_remembers_76 : decode cX10_remembers 76 = .ok (.iadd, 1) := by decide +kernel
theorem dX10_remembers_77 : decode cX10_remembers 77 = .ok (.putfield 324, 3) := by decide +kernel
theorem dX10_remembers_80 : decode cX10_remembers 80 = .ok (.return_, 1) := by decide +kernel
set_option maxRecDepth 100000 in
set_option maxHeartbeats 4000000 in
theorem cX10_areLettersc {l : Launch} {v0 : Option Nat} {v1 : Int32} {σ : HpT} {r : Bool} (h : fX10_areLetters v0 v1 σ = some r) : IsK σ v0 10 ∧ Ct l yX10_areLetters cX10_areLetters 3 (some .boolean) 1 22 [va_rf v0, .int v1] σ (.ok (some (.int (bI r)))) σ 0 0 := by
  unfold fX10_areLetters at h
  replace h := bnP_s h
  obtain ⟨u, hk, h⟩ := h
  replace hk := isK_s hk
  refine ⟨hk, ?_⟩
  refine ct_start mi_X10_areLetters.1 rfl (al_le (al_1 (rf_cat _) (al_1 rfl al_n)) (Nat.le_of_ble_eq_true rfl)) (ag_1 (rf_cat _) (ag_1 rfl ag_n)) (fun Δ Γ B hE hnm => ?_)
  refine g_iconst (v := 0) B dX10_areLetters_0 (by decide) ?_
  refine g_istore_n B dX10_areLetters_1 rfl (Nat.le_of_ble_eq_true rfl) (s1_c (f1_k rfl (f1_1 rfl rfl f1_n))) ?_
  replace h := bnP_s h
  obtain ⟨r2, h3, h⟩ := h
  have kE4 : ∀ y16, r2 = .inl y16 → GW Δ Γ (0) (0) 31 [(1, .int v1)] [] σ := by
    intro y16 er
    subst er
    dsimp only at h
    refine g_iload_n B 0 dX10_areLetters_31 rfl rfl ?_
    refine g_iconst (v := 1) B dX10_areLetters_32 (by decide) ?_
    refine g_bipush (v := 8) B dX10_areLetters_33 (by decide) ?_
    replace h := bnP_s h
    obtain ⟨x17, h18, h⟩ := h
    refine g_callSs0 (st := []) B (cX10_inc h18) mi_X10_in lk_RX10_69 ⟨Nat.le_of_ble_eq_true rfl, Nat.le_of_ble_eq_true rfl⟩ rfl rfl (Nat.le_of_ble_eq_true rfl) dX10_areLetters_35 (Nat.zero_le _) (Nat.zero_le _) ?_
    replace h := Option.some.inj h
    subst h
    exact g_zret B hE (nar_bI _) (Nat.zero_le _) (Nat.zero_le _) dX10_areLetters_38
  have kR5 : ∀ vv, r2 = .inr vv → En Δ Γ (.ok (some (.int (bI vv)))) σ 0 0 (some .boolean) ∧ 0 ≤ 0 ∧ 0 ≤ 0 := by
    intro vv er
    subst er
    dsimp only at h
    replace h := Option.some.inj h
    subst h
    exact ⟨hE, Nat.zero_le _, Nat.zero_le _⟩
  clear h
  refine g_sub [1, 2, 0] rfl ?_
  refine lpP_w (I := fun q1 => GW Δ Γ (0) (0) 2 [(0, va_rf v0), (1, .int v1), (2, .int q1)] [] σ) (r := r2) ?_ FUEL 0 h3
  intro q1 x8 h hI6 hR7
  unfold fX10_areLetters_l1 at h
  refine g_iload_n B 2 dX10_areLetters_2 rfl rfl ?_
  refine g_iload_n B 1 dX10_areLetters_3 rfl rfl ?_
  refine g_icmp_ge B 31 dX10_areLetters_4 (by decide) (fun hc => ?_) (fun hc => ?_)
  · replace h := ifp hc h
    replace h := Option.some.inj h
    subst h
    have e8 := hR7 _ rfl
    subst e8
    exact g_sub [1] rfl (kE4 _ rfl)
  · replace h := ifn hc h
    refine g_aload_n B 0 dX10_areLetters_7 rfl rfl ?_
    replace h := bnP_s h
    obtain ⟨x10, h11, h⟩ := h
    refine g_getR B fl_RX10_27 (by decide) dX10_areLetters_8 h11 ?_
    refine g_iload_n B 2 dX10_areLetters_11 rfl rfl ?_
    replace h := bnP_s h
    obtain ⟨x12, h13, h⟩ := h
    refine g_bald B dX10_areLetters_12 h13 ?_
    refine g_bipush (v := 97) B dX10_areLetters_13 (by decide) ?_
    refine g_bipush (v := 122) B dX10_areLetters_15 (by decide) ?_
    replace h := bnP_s h
    obtain ⟨x14, h15, h⟩ := h
    refine g_callSs0 (st := []) B (cX10_inc h15) mi_X10_in lk_RX10_69 ⟨Nat.le_of_ble_eq_true rfl, Nat.le_of_ble_eq_true rfl⟩ rfl rfl (Nat.le_of_ble_eq_true rfl) dX10_areLetters_17 (Nat.zero_le _) (Nat.zero_le _) ?_
    refine g_if_ne B 25 dX10_areLetters_20 (by decide) (fun hc => ?_) (fun hc => ?_)
    · replace h := ifp (bI1 hc) h
      refine g_iinc (v := (q1 + 1)) B 2 dX10_areLetters_25 rfl (by first | rfl | (congr 1; decide)) (Nat.le_of_ble_eq_true rfl) (s1_c (f1_k rfl (f1_1 rfl rfl (f1_x f1_n)))) ?_
      refine g_goto B 2 dX10_areLetters_28 (by decide) ?_
      replace h := Option.some.inj h
      subst h
      exact g_sub [1, 2, 0] rfl (hI6 _ rfl)
    · replace h := ifn (bI0 hc) h
      refine g_iconst (v := 0) B dX10_areLetters_23 (by decide) ?_
      replace h := Option.some.inj h
      subst h
      have e8 := hR7 _ rfl
      obtain ⟨hE, hc9, hs9⟩ := kR5 _ e8.symm
      exact g_zret B hE rfl hc9 hs9 dX10_areLetters_24
set_option maxRecDepth 100000 in
set_option maxHeartbeats 4000000 in
theorem cX10_isAlikec {l : Launch} {v0 : Option Nat} {v1 : Int32} {v2 : Int32} {v3 : Int32} {σ : HpT} {r : Bool} (h : fX10_isAlike v0 v1 v2 v3 σ = some r) : IsK σ v0 10 ∧ Ct l yX10_isAlike cX10_isAlike 4 (some .boolean) 0 0 [va_rf v0, .int v1, .int v2, .int v3] σ (.ok (some (.int (bI r)))) σ 0 0 := by
  unfold fX10_isAlike at h
  replace h := bnP_s h
  obtain ⟨u, hk, h⟩ := h
  replace hk := isK_s hk
  refine ⟨hk, ?_⟩
  refine ct_start mi_X10_isAlike.1 rfl (al_le (al_1 (rf_cat _) (al_1 rfl (al_1 rfl (al_1 rfl al_n)))) (Nat.le_of_ble_eq_true rfl)) (ag_1 (rf_cat _) (ag_1 rfl (ag_1 rfl (ag_1 rfl ag_n)))) (fun Δ Γ B hE hnm => ?_)
  refine g_aload_n B 0 dX10_isAlike_0 rfl rfl ?_
  replace h := bnP_s h
  obtain ⟨x1, h2, h⟩ := h
  refine g_getR B fl_RX10_9 (by decide) dX10_isAlike_1 h2 ?_
  refine g_iload_n B 1 dX10_isAlike_4 rfl rfl ?_
  replace h := bnP_s h
  obtain ⟨x3, h4, h⟩ := h
  refine g_iald B dX10_isAlike_5 h4 ?_
  refine g_iload_n B 2 dX10_isAlike_6 rfl rfl ?_
  refine g_icmp_ne B 26 dX10_isAlike_7 (by decide) (fun hc => ?_) (fun hc => ?_)
  · replace h := ifn hc h
    refine g_iconst (v := 0) B dX10_isAlike_26 (by decide) ?_
    replace h := Option.some.inj h
    subst h
    exact g_zret B hE rfl (Nat.zero_le _) (Nat.zero_le _) dX10_isAlike_27
  · replace h := ifp hc h
    refine g_aload_n B 0 dX10_isAlike_10 rfl rfl ?_
    replace h := bnP_s h
    obtain ⟨x5, h6, h⟩ := h
    refine g_getR B fl_RX10_9 (by decide) dX10_isAlike_11 h6 ?_
    refine g_iload_n B 1 dX10_isAlike_14 rfl rfl ?_
    refine g_iconst (v := 1) B dX10_isAlike_15 (by decide) ?_
    refine g_iadd B dX10_isAlike_16 ?_
    replace h := bnP_s h
    obtain ⟨x7, h8, h⟩ := h
    refine g_iald B dX10_isAlike_17 h8 ?_
    refine g_iload_n B 3 dX10_isAlike_18 rfl rfl ?_
    refine g_icmp_ne B 26 dX10_isAlike_19 (by decide) (fun hc => ?_) (fun hc => ?_)
    · replace h := ifn hc h
      refine g_iconst (v := 0) B dX10_isAlike_26 (by decide) ?_
      replace h := Option.some.inj h
      subst h
      exact g_zret B hE rfl (Nat.zero_le _) (Nat.zero_le _) dX10_isAlike_27
    · replace h := ifp hc h
      refine g_iconst (v := 1) B dX10_isAlike_22 (by decide) ?_
      refine g_goto B 27 dX10_isAlike_23 (by decide) ?_
      replace h := Option.some.inj h
      subst h
      exact g_zret B hE rfl (Nat.zero_le _) (Nat.zero_le _) dX10_isAlike_27
set_option maxRecDepth 100000 in
set_option maxHeartbeats 4000000 in
theorem cX10_standsAtc {l : Launch} {v0 : Option Nat} {v1 : Int32} {v2 : Int32} {v3 : Int32} {σ : HpT} {r : Bool} (h : fX10_standsAt v0 v1 v2 v3 σ = some r) : IsK σ v0 10 ∧ Ct l yX10_standsAt cX10_standsAt 6 (some .boolean) 2 43 [va_rf v0, .int v1, .int v2, .int v3] σ (.ok (some (.int (bI r)))) σ 0 0 := by
  unfold fX10_standsAt at h
  replace h := bnP_s h
  obtain ⟨u, hk, h⟩ := h
  replace hk := isK_s hk
  refine ⟨hk, ?_⟩
  refine ct_start mi_X10_standsAt.1 rfl (al_le (al_1 (rf_cat _) (al_1 rfl (al_1 rfl (al_1 rfl al_n)))) (Nat.le_of_ble_eq_true rfl)) (ag_1 (rf_cat _) (ag_1 rfl (ag_1 rfl (ag_1 rfl ag_n)))) (fun Δ Γ B hE hnm => ?_)
  refine g_bipush (v := 127) B dX10_standsAt_0 (by decide) ?_
  refine g_bipush (v := 13) B dX10_standsAt_2 (by decide) ?_
  refine g_iload_n B 1 dX10_standsAt_4 rfl rfl ?_
  refine g_imul B dX10_standsAt_5 ?_
  refine g_iadd B dX10_standsAt_6 ?_
  refine g_istore B dX10_standsAt_7 (Nat.le_of_ble_eq_true rfl) (s1_c (f1_k rfl (f1_k rfl (f1_k rfl (f1_1 rfl rfl f1_n))))) ?_
  refine g_aload_n B 1 dX10_standsAt_9 rfl rfl ?_
  refine g_iload_n B 2 dX10_standsAt_10 rfl rfl ?_
  replace h := bnP_s h
  obtain ⟨x1, h2, h⟩ := h
  refine g_callVs0 (st := []) B (cX10_standsc h2) (Nat.le_of_ble_eq_true rfl) rfl rfl mi_X10_stands lk_RX10_330 ⟨Nat.le_of_ble_eq_true rfl, Nat.le_of_ble_eq_true rfl⟩ rfl rfl (Nat.le_of_ble_eq_true rfl) dX10_standsAt_11 (Nat.zero_le _) (Nat.zero_le _) ?_
  refine g_if_eq B 30 dX10_standsAt_14 (by decide) (fun hc => ?_) (fun hc => ?_)
  · replace h := ifn (bI0 hc) h
    refine g_iconst (v := 0) B dX10_standsAt_30 (by decide) ?_
    refine g_istore B dX10_standsAt_31 (Nat.le_of_ble_eq_true rfl) (s1_c (f1_1 rfl rfl (f1_k rfl (f1_k rfl (f1_k rfl (f1_k rfl f1_n)))))) ?_
    replace h := bnP_s h
    obtain ⟨r4, h5, h⟩ := h
    have kE6 : ∀ y16, r4 = .inl y16 → GW Δ Γ (0) (0) 70 [] [] σ := by
      intro y16 er
      subst er
      dsimp only at h
      refine g_iconst (v := 0) B dX10_standsAt_70 (by decide) ?_
      replace h := Option.some.inj h
      subst h
      exact g_zret B hE rfl (Nat.zero_le _) (Nat.zero_le _) dX10_standsAt_71
    have kR7 : ∀ vv, r4 = .inr vv → En Δ Γ (.ok (some (.int (bI vv)))) σ 0 0 (some .boolean) ∧ 0 ≤ 0 ∧ 0 ≤ 0 := by
      intro vv er
      subst er
      dsimp only at h
      replace h := Option.some.inj h
      subst h
      exact ⟨hE, Nat.zero_le _, Nat.zero_le _⟩
    clear h
    refine g_sub [2, 3, 4, 5, 1, 0] rfl ?_
    refine lpP_w (I := fun q3 => GW Δ Γ (0) (0) 33 [(0, va_rf v0), (1, .int v1), (2, .int v2), (3, .int v3), (4, .int (127 + (13 * v1))), (5, .int q3)] [] σ) (r := r4) ?_ FUEL 0 h5
    intro q3 x10 h hI8 hR9
    unfold fX10_standsAt_l1 at h
    refine g_iload B 5 dX10_standsAt_33 rfl ?_
    refine g_aload_n B 0 dX10_standsAt_35 rfl rfl ?_
    refine g_iload_n B 1 dX10_standsAt_36 rfl rfl ?_
    refine g_iconst (v := 4) B dX10_standsAt_37 (by decide) ?_
    replace h := bnP_s h
    obtain ⟨x12, h13, h⟩ := h
    refine g_callVs0 (st := [.int q3]) B (cX10_ofWordc h13) (Nat.le_of_ble_eq_true rfl) rfl rfl mi_X10_ofWord lk_RX10_209 ⟨Nat.le_of_ble_eq_true rfl, Nat.le_of_ble_eq_true rfl⟩ rfl rfl (Nat.le_of_ble_eq_true rfl) dX10_standsAt_38 (Nat.zero_le _) (Nat.zero_le _) ?_
    refine g_icmp_ge B 70 dX10_standsAt_41 (by decide) (fun hc => ?_) (fun hc => ?_)
    · replace h := ifp hc h
      replace h := Option.some.inj h
      subst h
      have e8 := hR9 _ rfl
      subst e8
      exact g_sub [] rfl (kE6 _ rfl)
    · replace h := ifn hc h
      refine g_aload_n B 0 dX10_standsAt_44 rfl rfl ?_
      refine g_iload B 4 dX10_standsAt_45 rfl ?_
      refine g_iconst (v := 5) B dX10_standsAt_47 (by decide) ?_
      refine g_iadd B dX10_standsAt_48 ?_
      refine g_iconst (v := 2) B dX10_standsAt_49 (by decide) ?_
      refine g_iload B 5 dX10_standsAt_50 rfl ?_
      refine g_imul B dX10_standsAt_52 ?_
      refine g_iadd B dX10_standsAt_53 ?_
      refine g_iload_n B 2 dX10_standsAt_54 rfl rfl ?_
      refine g_iload_n B 3 dX10_standsAt_55 rfl rfl ?_
      replace h := bnP_s h
      obtain ⟨x14, h15, h⟩ := h
      refine g_callVs0 (st := []) B (cX10_isAlikec h15) (Nat.le_of_ble_eq_true rfl) rfl rfl mi_X10_isAlike lk_RX10_491 ⟨Nat.le_of_ble_eq_true rfl, Nat.le_of_ble_eq_true rfl⟩ rfl rfl (Nat.le_of_ble_eq_true rfl) dX10_standsAt_56 (Nat.zero_le _) (Nat.zero_le _) ?_
      refine g_if_eq B 64 dX10_standsAt_59 (by decide) (fun hc => ?_) (fun hc => ?_)
      · replace h := ifn (bI0 hc) h
        refine g_iinc (v := (q3 + 1)) B 5 dX10_standsAt_64 rfl (by first | rfl | (congr 1; decide)) (Nat.le_of_ble_eq_true rfl) (s1_c (f1_k rfl (f1_k rfl (f1_k rfl (f1_k rfl (f1_1 rfl rfl (f1_x f1_n))))))) ?_
        refine g_goto B 33 dX10_standsAt_67 (by decide) ?_
        replace h := Option.some.inj h
        subst h
        exact g_sub [1, 2, 3, 4, 5, 0] rfl (hI8 _ rfl)
      · replace h := ifp (bI1 hc) h
        refine g_iconst (v := 1) B dX10_standsAt_62 (by decide) ?_
        replace h := Option.some.inj h
        subst h
        have e8 := hR9 _ rfl
        obtain ⟨hE, hc9, hs9⟩ := kR7 _ e8.symm
        exact g_zret B hE rfl hc9 hs9 dX10_standsAt_63
  · replace h := ifp (bI1 hc) h
    refine g_aload_n B 1 dX10_standsAt_17 rfl rfl ?_
    refine g_iload B 0 dX10_standsAt_18 rfl ?_
    refine g_iload_n B 3 dX10_standsAt_20 rfl rfl ?_
    refine g_iload_n B 4 dX10_standsAt_21 rfl rfl ?_
    replace h := bnP_s h
    obtain ⟨x18, h19, h⟩ := h
    refine g_callVs0 (st := []) B (cX10_isAlikec h19) (Nat.le_of_ble_eq_true rfl) rfl rfl mi_X10_isAlike lk_RX10_491 ⟨Nat.le_of_ble_eq_true rfl, Nat.le_of_ble_eq_true rfl⟩ rfl rfl (Nat.le_of_ble_eq_true rfl) dX10_standsAt_22 (Nat.zero_le _) (Nat.zero_le _) ?_
    refine g_if_eq B 30 dX10_standsAt_25 (by decide) (fun hc => ?_) (fun hc => ?_)
    · replace h := ifn (bI0 hc) h
      refine g_iconst (v := 0) B dX10_standsAt_30 (by decide) ?_
      refine g_istore B dX10_standsAt_31 (Nat.le_of_ble_eq_true rfl) (s1_c (f1_1 rfl rfl (f1_k rfl (f1_k rfl (f1_k rfl (f1_k rfl f1_n)))))) ?_
      replace h := bnP_s h
      obtain ⟨r21, h22, h⟩ := h
      have kE23 : ∀ y33, r21 = .inl y33 → GW Δ Γ (0) (0) 70 [] [] σ := by
        intro y33 er
        subst er
        dsimp only at h
        refine g_iconst (v := 0) B dX10_standsAt_70 (by decide) ?_
        replace h := Option.some.inj h
        subst h
        exact g_zret B hE rfl (Nat.zero_le _) (Nat.zero_le _) dX10_standsAt_71
      have kR24 : ∀ vv, r21 = .inr vv → En Δ Γ (.ok (some (.int (bI vv)))) σ 0 0 (some .boolean) ∧ 0 ≤ 0 ∧ 0 ≤ 0 := by
        intro vv er
        subst er
        dsimp only at h
        replace h := Option.some.inj h
        subst h
        exact ⟨hE, Nat.zero_le _, Nat.zero_le _⟩
      clear h
      refine g_sub [2, 3, 4, 5, 1, 0] rfl ?_
      refine lpP_w (I := fun q20 => GW Δ Γ (0) (0) 33 [(0, va_rf v0), (1, .int v1), (2, .int v2), (3, .int v3), (4, .int (127 + (13 * v1))), (5, .int q20)] [] σ) (r := r21) ?_ FUEL 0 h22
      intro q20 x27 h hI25 hR26
      unfold fX10_standsAt_l2 at h
      refine g_iload B 5 dX10_standsAt_33 rfl ?_
      refine g_aload_n B 0 dX10_standsAt_35 rfl rfl ?_
      refine g_iload_n B 1 dX10_standsAt_36 rfl rfl ?_
      refine g_iconst (v := 4) B dX10_standsAt_37 (by decide) ?_
      replace h := bnP_s h
      obtain ⟨x29, h30, h⟩ := h
      refine g_callVs0 (st := [.int q20]) B (cX10_ofWordc h30) (Nat.le_of_ble_eq_true rfl) rfl rfl mi_X10_ofWord lk_RX10_209 ⟨Nat.le_of_ble_eq_true rfl, Nat.le_of_ble_eq_true rfl⟩ rfl rfl (Nat.le_of_ble_eq_true rfl) dX10_standsAt_38 (Nat.zero_le _) (Nat.zero_le _) ?_
      refine g_icmp_ge B 70 dX10_standsAt_41 (by decide) (fun hc => ?_) (fun hc => ?_)
      · replace h := ifp hc h
        replace h := Option.some.inj h
        subst h
        have e8 := hR26 _ rfl
        subst e8
        exact g_sub [] rfl (kE23 _ rfl)
      · replace h := ifn hc h
        refine g_aload_n B 0 dX10_standsAt_44 rfl rfl ?_
        refine g_iload B 4 dX10_standsAt_45 rfl ?_
        refine g_iconst (v := 5) B dX10_standsAt_47 (by decide) ?_
        refine g_iadd B dX10_standsAt_48 ?_
        refine g_iconst (v := 2) B dX10_standsAt_49 (by decide) ?_
        refine g_iload B 5 dX10_standsAt_50 rfl ?_
        refine g_imul B dX10_standsAt_52 ?_
        refine g_iadd B dX10_standsAt_53 ?_
        refine g_iload_n B 2 dX10_standsAt_54 rfl rfl ?_
        refine g_iload_n B 3 dX10_standsAt_55 rfl rfl ?_
        replace h := bnP_s h
        obtain ⟨x31, h32, h⟩ := h
        refine g_callVs0 (st := []) B (cX10_isAlikec h32) (Nat.le_of_ble_eq_true rfl) rfl rfl mi_X10_isAlike lk_RX10_491 ⟨Nat.le_of_ble_eq_true rfl, Nat.le_of_ble_eq_true rfl⟩ rfl rfl (Nat.le_of_ble_eq_true rfl) dX10_standsAt_56 (Nat.zero_le _) (Nat.zero_le _) ?_
        refine g_if_eq B 64 dX10_standsAt_59 (by decide) (fun hc => ?_) (fun hc => ?_)
        · replace h := ifn (bI0 hc) h
          refine g_iinc (v := (q20 + 1)) B 5 dX10_standsAt_64 rfl (by first | rfl | (congr 1; decide)) (Nat.le_of_ble_eq_true rfl) (s1_c (f1_k rfl (f1_k rfl (f1_k rfl (f1_k rfl (f1_1 rfl rfl (f1_x f1_n))))))) ?_
          refine g_goto B 33 dX10_standsAt_67 (by decide) ?_
          replace h := Option.some.inj h
          subst h
          exact g_sub [1, 2, 3, 4, 5, 0] rfl (hI25 _ rfl)
        · replace h := ifp (bI1 hc) h
          refine g_iconst (v := 1) B dX10_standsAt_62 (by decide) ?_
          replace h := Option.some.inj h
          subst h
          have e8 := hR26 _ rfl
          obtain ⟨hE, hc9, hs9⟩ := kR24 _ e8.symm
          exact g_zret B hE rfl hc9 hs9 dX10_standsAt_63
    · replace h := ifp (bI1 hc) h
      refine g_iconst (v := 1) B dX10_standsAt_28 (by decide) ?_
      replace h := Option.some.inj h
      subst h
      exact g_zret B hE rfl (Nat.zero_le _) (Nat.zero_le _) dX10_standsAt_29
set_option maxRecDepth 100000 in
set_option maxHeartbeats 4000000 in
theorem cX10_actWithc {l : Launch} {v0 : Option Nat} {v1 : Int32} {v2 : Int32} {σ : HpT} {r : Int32} (h : fX10_actWith v0 v1 v2 σ = some r) : IsK σ v0 10 ∧ Ct l yX10_actWith cX10_actWith 4 (some .int) 3 68 [va_rf v0, .int v1, .int v2] σ (.ok (some (.int r))) σ 0 0 := by
  unfold fX10_actWith at h
  replace h := bnP_s h
  obtain ⟨u, hk, h⟩ := h
  replace hk := isK_s hk
  refine ⟨hk, ?_⟩
  refine ct_start mi_X10_actWith.1 rfl (al_le (al_1 (rf_cat _) (al_1 rfl (al_1 rfl al_n))) (Nat.le_of_ble_eq_true rfl)) (ag_1 (rf_cat _) (ag_1 rfl (ag_1 rfl ag_n))) (fun Δ Γ B hE hnm => ?_)
  refine g_iconst (v := 0) B dX10_actWith_0 (by decide) ?_
  refine g_istore_n B dX10_actWith_1 rfl (Nat.le_of_ble_eq_true rfl) (s1_c (f1_k rfl (f1_k rfl (f1_1 rfl rfl f1_n)))) ?_
  replace h := bnP_s h
  obtain ⟨r2, h3, h⟩ := h
  have kE4 : ∀ y18, r2 = .inl y18 → GW Δ Γ (0) (0) 36 [] [] σ := by
    intro y18 er
    subst er
    dsimp only at h
    refine g_iconst (v := 0) B dX10_actWith_36 (by decide) ?_
    replace h := Option.some.inj h
    subst h
    exact g_iret B hE (Nat.zero_le _) (Nat.zero_le _) dX10_actWith_37
  have kR5 : ∀ vv, r2 = .inr vv → En Δ Γ (.ok (some (.int vv))) σ 0 0 (some .int) ∧ 0 ≤ 0 ∧ 0 ≤ 0 := by
    intro vv er
    subst er
    dsimp only at h
    replace h := Option.some.inj h
    subst h
    exact ⟨hE, Nat.zero_le _, Nat.zero_le _⟩
  clear h
  refine g_sub [1, 2, 3, 0] rfl ?_
  refine lpP_w (I := fun q1 => GW Δ Γ (0) (0) 2 [(0, va_rf v0), (1, .int v1), (2, .int v2), (3, .int q1)] [] σ) (r := r2) ?_ FUEL 0 h3
  intro q1 x8 h hI6 hR7
  unfold fX10_actWith_l1 at h
  refine g_iload_n B 3 dX10_actWith_2 rfl rfl ?_
  refine g_aload_n B 0 dX10_actWith_3 rfl rfl ?_
  replace h := bnP_s h
  obtain ⟨x10, h11, h⟩ := h
  refine g_getR B fl_RX10_9 (by decide) dX10_actWith_4 h11 ?_
  refine g_iconst (v := 4) B dX10_actWith_7 (by decide) ?_
  replace h := bnP_s h
  obtain ⟨x12, h13, h⟩ := h
  refine g_iald B dX10_actWith_8 h13 ?_
  refine g_icmp_ge B 36 dX10_actWith_9 (by decide) (fun hc => ?_) (fun hc => ?_)
  · replace h := ifp hc h
    replace h := Option.some.inj h
    subst h
    have e8 := hR7 _ rfl
    subst e8
    exact g_sub [] rfl (kE4 _ rfl)
  · replace h := ifn hc h
    refine g_aload_n B 0 dX10_actWith_12 rfl rfl ?_
    refine g_iload_n B 3 dX10_actWith_13 rfl rfl ?_
    refine g_iload_n B 1 dX10_actWith_14 rfl rfl ?_
    refine g_iload_n B 2 dX10_actWith_15 rfl rfl ?_
    replace h := bnP_s h
    obtain ⟨x14, h15, h⟩ := h
    refine g_callVs0 (st := []) B (cX10_standsAtc h15) (Nat.le_of_ble_eq_true rfl) rfl rfl mi_X10_standsAt lk_RX10_494 ⟨Nat.le_of_ble_eq_true rfl, Nat.le_of_ble_eq_true rfl⟩ rfl rfl (Nat.le_of_ble_eq_true rfl) dX10_actWith_16 (Nat.zero_le _) (Nat.zero_le _) ?_
    refine g_if_eq B 30 dX10_actWith_19 (by decide) (fun hc => ?_) (fun hc => ?_)
    · replace h := ifn (bI0 hc) h
      refine g_iinc (v := (q1 + 1)) B 3 dX10_actWith_30 rfl (by first | rfl | (congr 1; decide)) (Nat.le_of_ble_eq_true rfl) (s1_c (f1_k rfl (f1_k rfl (f1_1 rfl rfl (f1_x f1_n))))) ?_
      refine g_goto B 2 dX10_actWith_33 (by decide) ?_
      replace h := Option.some.inj h
      subst h
      exact g_sub [1, 2, 3, 0] rfl (hI6 _ rfl)
    · replace h := ifp (bI1 hc) h
      refine g_aload_n B 0 dX10_actWith_22 rfl rfl ?_
      refine g_iload_n B 3 dX10_actWith_23 rfl rfl ?_
      replace h := bnP_s h
      obtain ⟨x16, h17, h⟩ := h
      refine g_callVs0 (st := []) B (cX10_actOfc h17) (Nat.le_of_ble_eq_true rfl) rfl rfl mi_X10_actOf lk_RX10_358 ⟨Nat.le_of_ble_eq_true rfl, Nat.le_of_ble_eq_true rfl⟩ rfl rfl (Nat.le_of_ble_eq_true rfl) dX10_actWith_24 (Nat.zero_le _) (Nat.zero_le _) ?_
      refine g_iconst (v := 1) B dX10_actWith_27 (by decide) ?_
      refine g_iadd B dX10_actWith_28 ?_
      replace h := Option.some.inj h
      subst h
      have e8 := hR7 _ rfl
      obtain ⟨hE, hc9, hs9⟩ := kR5 _ e8.symm
      exact g_iret B hE hc9 hs9 dX10_actWith_29
set_option maxRecDepth 100000 in
set_option maxHeartbeats 4000000 in
theorem cX10_findWordc {l : Launch} {v0 : Option Nat} {v1 : Int32} {σ : HpT} {r : Int32} {σ' : HpT} (h : fX10_findWord v0 v1 σ = some (r, σ')) : IsK σ v0 10 ∧ Ct l yX10_findWord cX10_findWord 2 (some .int) 4 91 [va_rf v0, .int v1] σ (.ok (some (.int r))) σ' 0 0 := by
  unfold fX10_findWord at h
  replace h := bnP_s h
  obtain ⟨u, hk, h⟩ := h
  replace hk := isK_s hk
  refine ⟨hk, ?_⟩
  refine ct_start mi_X10_findWord.1 rfl (al_le (al_1 (rf_cat _) (al_1 rfl al_n)) (Nat.le_of_ble_eq_true rfl)) (ag_1 (rf_cat _) (ag_1 rfl ag_n)) (fun Δ Γ B hE hnm => ?_)
  refine g_aload_n B 0 dX10_findWord_0 rfl rfl ?_
  refine g_aload_n B 0 dX10_findWord_1 rfl rfl ?_
  replace h := bnP_s h
  obtain ⟨x1, h2, h⟩ := h
  refine g_getI B fl_RX10_48 (by decide) dX10_findWord_2 h2 ?_
  refine g_iload_n B 1 dX10_findWord_5 rfl rfl ?_
  refine g_iconst (v := 0) B dX10_findWord_6 (by decide) ?_
  refine g_aload_n B 0 dX10_findWord_7 rfl rfl ?_
  replace h := bnP_s h
  obtain ⟨x3, h4, h⟩ := h
  refine g_getI B fl_RX10_56 (by decide) dX10_findWord_8 h4 ?_
  replace h := bnP_s h
  obtain ⟨x5, h6, h⟩ := h
  refine g_callSs0 (st := [.int x1, va_rf v0]) B (cX10_inc h6) mi_X10_in lk_RX10_69 ⟨Nat.le_of_ble_eq_true rfl, Nat.le_of_ble_eq_true rfl⟩ rfl rfl (Nat.le_of_ble_eq_true rfl) dX10_findWord_11 (Nat.zero_le _) (Nat.zero_le _) ?_
  replace h := bnS_s h
  obtain ⟨x7, s9, h8, h⟩ := h
  refine g_callVs0 (st := []) B (cX10_mayTwoc h8) (Nat.le_of_ble_eq_true rfl) rfl rfl mi_X10_mayTwo lk_RX10_380 ⟨Nat.le_of_ble_eq_true rfl, Nat.le_of_ble_eq_true rfl⟩ rfl rfl (Nat.le_of_ble_eq_true rfl) dX10_findWord_14 (Nat.zero_le _) (Nat.zero_le _) ?_
  refine g_if_ne B 22 dX10_findWord_17 (by decide) (fun hc => ?_) (fun hc => ?_)
  · replace h := ifp (bI1 hc) h
    refine g_aload_n B 0 dX10_findWord_22 rfl rfl ?_
    refine g_iconst (v := 0) B dX10_findWord_23 (by decide) ?_
    replace h := bnP_s h
    obtain ⟨s12, h11, h⟩ := h
    refine g_putI B fl_RX10_56 (by decide) dX10_findWord_24 h11 ?_
    refine g_aload_n B 0 dX10_findWord_27 rfl rfl ?_
    refine g_iload_n B 1 dX10_findWord_28 rfl rfl ?_
    replace h := bnP_s h
    obtain ⟨x13, h14, h⟩ := h
    refine g_callVs0 (st := []) B (cX10_areLettersc h14) (Nat.le_of_ble_eq_true rfl) rfl rfl mi_X10_areLetters lk_RX10_497 ⟨Nat.le_of_ble_eq_true rfl, Nat.le_of_ble_eq_true rfl⟩ rfl rfl (Nat.le_of_ble_eq_true rfl) dX10_findWord_29 (Nat.zero_le _) (Nat.zero_le _) ?_
    refine g_if_eq B 56 dX10_findWord_32 (by decide) (fun hc => ?_) (fun hc => ?_)
    · replace h := ifn (bI0 hc) h
      refine g_iconst (v := 0) B dX10_findWord_56 (by decide) ?_
      obtain ⟨w1, w2⟩ := inS h
      clear h
      subst w1
      subst w2
      exact g_iret B hE (Nat.zero_le _) (Nat.zero_le _) dX10_findWord_57
    · replace h := ifp (bI1 hc) h
      refine g_aload_n B 0 dX10_findWord_35 rfl rfl ?_
      refine g_aload_n B 0 dX10_findWord_36 rfl rfl ?_
      refine g_iconst (v := 0) B dX10_findWord_37 (by decide) ?_
      refine g_iload_n B 1 dX10_findWord_38 rfl rfl ?_
      refine g_iconst (v := 0) B dX10_findWord_39 (by decide) ?_
      replace h := bnP_s h
      obtain ⟨x15, h16, h⟩ := h
      refine g_callVs0 (st := [va_rf v0]) B (cX10_partOfc h16) (Nat.le_of_ble_eq_true rfl) rfl rfl mi_X10_partOf lk_RX10_160 ⟨Nat.le_of_ble_eq_true rfl, Nat.le_of_ble_eq_true rfl⟩ rfl rfl (Nat.le_of_ble_eq_true rfl) dX10_findWord_40 (Nat.zero_le _) (Nat.zero_le _) ?_
      refine g_aload_n B 0 dX10_findWord_43 rfl rfl ?_
      refine g_iconst (v := 0) B dX10_findWord_44 (by decide) ?_
      refine g_iload_n B 1 dX10_findWord_45 rfl rfl ?_
      refine g_iconst (v := 1) B dX10_findWord_46 (by decide) ?_
      replace h := bnP_s h
      obtain ⟨x17, h18, h⟩ := h
      refine g_callVs0 (st := [.int x15, va_rf v0]) B (cX10_partOfc h18) (Nat.le_of_ble_eq_true rfl) rfl rfl mi_X10_partOf lk_RX10_160 ⟨Nat.le_of_ble_eq_true rfl, Nat.le_of_ble_eq_true rfl⟩ rfl rfl (Nat.le_of_ble_eq_true rfl) dX10_findWord_47 (Nat.zero_le _) (Nat.zero_le _) ?_
      replace h := bnP_s h
      obtain ⟨x19, h20, h⟩ := h
      refine g_callVs0 (st := []) B (cX10_actWithc h20) (Nat.le_of_ble_eq_true rfl) rfl rfl mi_X10_actWith lk_RX10_500 ⟨Nat.le_of_ble_eq_true rfl, Nat.le_of_ble_eq_true rfl⟩ rfl rfl (Nat.le_of_ble_eq_true rfl) dX10_findWord_50 (Nat.zero_le _) (Nat.zero_le _) ?_
      refine g_goto B 57 dX10_findWord_53 (by decide) ?_
      obtain ⟨w1, w2⟩ := inS h
      clear h
      subst w1
      subst w2
      exact g_iret B hE (Nat.zero_le _) (Nat.zero_le _) dX10_findWord_57
  · replace h := ifn (bI0 hc) h
    refine g_iconst (v := 0) B dX10_findWord_20 (by decide) ?_
    obtain ⟨w1, w2⟩ := inS h
    clear h
    subst w1
    subst w2
    exact g_iret B hE (Nat.zero_le _) (Nat.zero_le _) dX10_findWord_21
set_option maxRecDepth 100000 in
set_option maxHeartbeats 4000000 in
theorem cX10_longestc {l : Launch} {v0 : Option Nat} {v1 : Int32} {σ : HpT} {r : Int32} {σ' : HpT} (h : fX10_longest v0 v1 σ = some (r, σ')) : IsK σ v0 10 ∧ Ct l yX10_longest cX10_longest 7 (some .int) 3 67 [va_rf v0, .int v1] σ (.ok (some (.int r))) σ' 0 0 := by
  unfold fX10_longest at h
  replace h := bnP_s h
  obtain ⟨u, hk, h⟩ := h
  replace hk := isK_s hk
  refine ⟨hk, ?_⟩
  refine ct_start mi_X10_longest.1 rfl (al_le (al_1 (rf_cat _) (al_1 rfl al_n)) (Nat.le_of_ble_eq_true rfl)) (ag_1 (rf_cat _) (ag_1 rfl ag_n)) (fun Δ Γ B hE hnm => ?_)
  refine g_aload_n B 0 dX10_longest_0 rfl rfl ?_
  refine g_iload_n B 1 dX10_longest_1 rfl rfl ?_
  replace h := bnS_s h
  obtain ⟨x1, s3, h2, h⟩ := h
  refine g_callVs0 (st := []) B (cX10_mayActc h2) (Nat.le_of_ble_eq_true rfl) rfl rfl mi_X10_mayAct lk_RX10_455 ⟨Nat.le_of_ble_eq_true rfl, Nat.le_of_ble_eq_true rfl⟩ rfl rfl (Nat.le_of_ble_eq_true rfl) dX10_longest_2 (Nat.zero_le _) (Nat.zero_le _) ?_
  refine g_if_ne B 10 dX10_longest_5 (by decide) (fun hc => ?_) (fun hc => ?_)
  · replace h := ifp (bI1 hc) h
    refine g_iconst (v := (-1)) B dX10_longest_10 (by decide) ?_
    refine g_istore_n B dX10_longest_11 rfl (Nat.le_of_ble_eq_true rfl) (s1_c (f1_k rfl (f1_1 rfl rfl f1_n))) ?_
    refine g_iconst (v := 0) B dX10_longest_12 (by decide) ?_
    refine g_istore_n B dX10_longest_13 rfl (Nat.le_of_ble_eq_true rfl) (s1_c (f1_1 rfl rfl (f1_k rfl (f1_k rfl f1_n)))) ?_
    refine g_iconst (v := 0) B dX10_longest_14 (by decide) ?_
    refine g_istore B dX10_longest_15 (Nat.le_of_ble_eq_true rfl) (s1_c (f1_1 rfl rfl (f1_k rfl (f1_k rfl (f1_k rfl f1_n))))) ?_
    replace h := bnP_s h
    obtain ⟨r5, h6, h⟩ := h
    have kE7 : GW Δ Γ (0) (0) 93 [(2, .int r5)] [] s3 := by
      refine g_iload_n B 0 dX10_longest_93 rfl rfl ?_
      obtain ⟨w1, w2⟩ := inS h
      clear h
      subst w1
      subst w2
      exact g_iret B hE (Nat.zero_le _) (Nat.zero_le _) dX10_longest_94
    clear h
    refine g_sub [3, 4, 2, 1, 0] rfl ?_
    refine lpP_w (I := fun q4 => GW Δ Γ (0) (0) 17 [(0, va_rf v0), (1, .int v1), (2, .int q4.1), (3, .int q4.2.1), (4, .int q4.2.2)] [] s3) (r := r5) ?_ FUEL ((-1), 0, 0) h6
    intro q4 x11 h hI9 hR10
    unfold fX10_longest_l1 at h
    obtain ⟨qv13, qv14, qv15⟩ := q4
    show GW Δ Γ (0) (0) 17 [(0, va_rf v0), (1, .int v1), (2, .int qv13), (3, .int qv14), (4, .int qv15)] [] s3
    dsimp only at h
    refine g_iload B 4 dX10_longest_17 rfl ?_
    refine g_aload_n B 0 dX10_longest_19 rfl rfl ?_
    refine g_iload_n B 1 dX10_longest_20 rfl rfl ?_
    refine g_iconst (v := 1) B dX10_longest_21 (by decide) ?_
    refine g_isub B dX10_longest_22 ?_
    refine g_bipush (v := 6) B dX10_longest_23 (by decide) ?_
    replace h := bnP_s h
    obtain ⟨x16, h17, h⟩ := h
    refine g_callVs0 (st := [.int qv15]) B (cX10_ofActc h17) (Nat.le_of_ble_eq_true rfl) rfl rfl mi_X10_ofAct lk_RX10_138 ⟨Nat.le_of_ble_eq_true rfl, Nat.le_of_ble_eq_true rfl⟩ rfl rfl (Nat.le_of_ble_eq_true rfl) dX10_longest_25 (Nat.zero_le _) (Nat.zero_le _) ?_
    refine g_icmp_ge B 93 dX10_longest_28 (by decide) (fun hc => ?_) (fun hc => ?_)
    · replace h := ifp hc h
      replace h := Option.some.inj h
      subst h
      have e8 := hR10 _ rfl
      subst e8
      exact g_sub [2] rfl kE7
    · replace h := ifn hc h
      refine g_aload_n B 0 dX10_longest_31 rfl rfl ?_
      refine g_iload_n B 1 dX10_longest_32 rfl rfl ?_
      refine g_iload B 4 dX10_longest_33 rfl ?_
      replace h := bnP_s h
      obtain ⟨x18, h19, h⟩ := h
      refine g_callVs0 (st := []) B (cX10_globalOfc h19) (Nat.le_of_ble_eq_true rfl) rfl rfl mi_X10_globalOf lk_RX10_425 ⟨Nat.le_of_ble_eq_true rfl, Nat.le_of_ble_eq_true rfl⟩ rfl rfl (Nat.le_of_ble_eq_true rfl) dX10_longest_35 (Nat.zero_le _) (Nat.zero_le _) ?_
      refine g_istore B dX10_longest_38 (Nat.le_of_ble_eq_true rfl) (s1_c (f1_k rfl (f1_k rfl (f1_k rfl (f1_k rfl (f1_1 rfl rfl f1_n)))))) ?_
      refine g_aload_n B 1 dX10_longest_40 rfl rfl ?_
      refine g_iload B 0 dX10_longest_41 rfl ?_
      replace h := bnP_s h
      obtain ⟨x20, h21, h⟩ := h
      refine g_callVs0 (st := []) B (cX10_standsc h21) (Nat.le_of_ble_eq_true rfl) rfl rfl mi_X10_stands lk_RX10_330 ⟨Nat.le_of_ble_eq_true rfl, Nat.le_of_ble_eq_true rfl⟩ rfl rfl (Nat.le_of_ble_eq_true rfl) dX10_longest_43 (Nat.zero_le _) (Nat.zero_le _) ?_
      replace h := bnP_s h
      obtain ⟨j22, h23, h⟩ := h
      have k25 : GW Δ Γ (0) (0) 70 [(0, va_rf v0), (1, .int v1), (2, .int qv13), (3, .int qv14), (4, .int qv15)] [.int j22] s3 := by
        refine g_istore B dX10_longest_70 (Nat.le_of_ble_eq_true rfl) (s1_c (f1_k rfl (f1_k rfl (f1_k rfl (f1_k rfl (f1_k rfl f1_n)))))) ?_
        refine g_iload B 0 dX10_longest_72 rfl ?_
        refine g_iload_n B 4 dX10_longest_74 rfl rfl ?_
        refine g_icmp_gt B 81 dX10_longest_75 (by decide) (fun hc => ?_) (fun hc => ?_)
        · replace h := ifp hc h
          refine g_iload B 0 dX10_longest_81 rfl ?_
          refine g_istore_n B dX10_longest_83 rfl (Nat.le_of_ble_eq_true rfl) (s1_c (f1_k rfl (f1_k rfl (f1_k rfl (f1_1 rfl rfl (f1_x (f1_k rfl f1_n))))))) ?_
          refine g_iload B 5 dX10_longest_84 rfl ?_
          refine g_istore_n B dX10_longest_86 rfl (Nat.le_of_ble_eq_true rfl) (s1_c (f1_k rfl (f1_k rfl (f1_k rfl (f1_1 rfl rfl (f1_x (f1_k rfl f1_n))))))) ?_
          refine g_iinc (v := (qv15 + 1)) B 5 dX10_longest_87 rfl (by first | rfl | (congr 1; decide)) (Nat.le_of_ble_eq_true rfl) (s1_c (f1_k rfl (f1_1 rfl rfl (f1_k rfl (f1_k rfl (f1_k rfl (f1_x f1_n))))))) ?_
          refine g_goto B 17 dX10_longest_90 (by decide) ?_
          replace h := Option.some.inj h
          subst h
          exact g_sub [4, 5, 1, 2, 0] rfl (hI9 (qv15, j22, (qv15 + 1)) rfl)
        · replace h := ifn hc h
          refine g_goto B 87 dX10_longest_78 (by decide) ?_
          refine g_iinc (v := (qv15 + 1)) B 5 dX10_longest_87 rfl (by first | rfl | (congr 1; decide)) (Nat.le_of_ble_eq_true rfl) (s1_c (f1_k rfl (f1_k rfl (f1_k rfl (f1_k rfl (f1_1 rfl rfl (f1_x f1_n))))))) ?_
          refine g_goto B 17 dX10_longest_90 (by decide) ?_
          replace h := Option.some.inj h
          subst h
          exact g_sub [2, 3, 4, 5, 0] rfl (hI9 (qv13, qv14, (qv15 + 1)) rfl)
      clear h
      have h := h23
      clear h23
      refine g_if_eq B 69 dX10_longest_46 (by decide) (fun hc => ?_) (fun hc => ?_)
      · replace h := ifn (bI0 hc) h
        refine g_iconst (v := 0) B dX10_longest_69 (by decide) ?_
        replace h := Option.some.inj h
        subst h
        exact g_sub [1, 2, 3, 4, 5] rfl k25
      · replace h := ifp (bI1 hc) h
        refine g_aload_n B 1 dX10_longest_49 rfl rfl ?_
        refine g_iload B 0 dX10_longest_50 rfl ?_
        refine g_iconst (v := 0) B dX10_longest_52 (by decide) ?_
        replace h := bnP_s h
        obtain ⟨x27, h28, h⟩ := h
        refine g_callVs0 (st := []) B (cX10_ofWordc h28) (Nat.le_of_ble_eq_true rfl) rfl rfl mi_X10_ofWord lk_RX10_209 ⟨Nat.le_of_ble_eq_true rfl, Nat.le_of_ble_eq_true rfl⟩ rfl rfl (Nat.le_of_ble_eq_true rfl) dX10_longest_53 (Nat.zero_le _) (Nat.zero_le _) ?_
        refine g_aload_n B 1 dX10_longest_56 rfl rfl ?_
        refine g_iload B 0 dX10_longest_57 rfl ?_
        refine g_iconst (v := 1) B dX10_longest_59 (by decide) ?_
        replace h := bnP_s h
        obtain ⟨x29, h30, h⟩ := h
        refine g_callVs0 (st := [.int x27]) B (cX10_ofWordc h30) (Nat.le_of_ble_eq_true rfl) rfl rfl mi_X10_ofWord lk_RX10_209 ⟨Nat.le_of_ble_eq_true rfl, Nat.le_of_ble_eq_true rfl⟩ rfl rfl (Nat.le_of_ble_eq_true rfl) dX10_longest_60 (Nat.zero_le _) (Nat.zero_le _) ?_
        replace h := bnP_s h
        obtain ⟨x31, h32, h⟩ := h
        refine g_callSs0 (st := []) B (cX10_lengthOfc h32) mi_X10_lengthOf lk_RX10_428 ⟨Nat.le_of_ble_eq_true rfl, Nat.le_of_ble_eq_true rfl⟩ rfl rfl (Nat.le_of_ble_eq_true rfl) dX10_longest_63 (Nat.zero_le _) (Nat.zero_le _) ?_
        refine g_goto B 70 dX10_longest_66 (by decide) ?_
        replace h := Option.some.inj h
        subst h
        exact g_sub [1, 2, 3, 4, 5] rfl k25
  · replace h := ifn (bI0 hc) h
    refine g_iconst (v := 0) B dX10_longest_8 (by decide) ?_
    obtain ⟨w1, w2⟩ := inS h
    clear h
    subst w1
    subst w2
    exact g_iret B hE (Nat.zero_le _) (Nat.zero_le _) dX10_longest_9
set_option maxRecDepth 100000 in
set_option maxHeartbeats 4000000 in
theorem cX10_isWrittenInc {l : Launch} {v0 : Option Nat} {v1 : Int32} {v2 : Int32} {v3 : Int32} {σ : HpT} {r : Bool} (h : fX10_isWrittenIn v0 v1 v2 v3 σ = some r) : IsK σ v0 10 ∧ Ct l yX10_isWrittenIn cX10_isWrittenIn 5 (some .boolean) 2 43 [va_rf v0, .int v1, .int v2, .int v3] σ (.ok (some (.int (bI r)))) σ 0 0 := by
  unfold fX10_isWrittenIn at h
  replace h := bnP_s h
  obtain ⟨u, hk, h⟩ := h
  replace hk := isK_s hk
  refine ⟨hk, ?_⟩
  refine ct_start mi_X10_isWrittenIn.1 rfl (al_le (al_1 (rf_cat _) (al_1 rfl (al_1 rfl (al_1 rfl al_n)))) (Nat.le_of_ble_eq_true rfl)) (ag_1 (rf_cat _) (ag_1 rfl (ag_1 rfl (ag_1 rfl ag_n)))) (fun Δ Γ B hE hnm => ?_)
  refine g_aload_n B 0 dX10_isWrittenIn_0 rfl rfl ?_
  refine g_iload_n B 1 dX10_isWrittenIn_1 rfl rfl ?_
  refine g_iconst (v := 5) B dX10_isWrittenIn_2 (by decide) ?_
  replace h := bnP_s h
  obtain ⟨x1, h2, h⟩ := h
  refine g_callVs0 (st := []) B (cX10_ofActc h2) (Nat.le_of_ble_eq_true rfl) rfl rfl mi_X10_ofAct lk_RX10_138 ⟨Nat.le_of_ble_eq_true rfl, Nat.le_of_ble_eq_true rfl⟩ rfl rfl (Nat.le_of_ble_eq_true rfl) dX10_isWrittenIn_3 (Nat.zero_le _) (Nat.zero_le _) ?_
  refine g_istore B dX10_isWrittenIn_6 (Nat.le_of_ble_eq_true rfl) (s1_c (f1_k rfl (f1_k rfl (f1_k rfl (f1_1 rfl rfl f1_n))))) ?_
  replace h := bnP_s h
  obtain ⟨r4, h5, h⟩ := h
  have kE6 : ∀ y18, r4 = .inl y18 → GW Δ Γ (0) (0) 52 [] [] σ := by
    intro y18 er
    subst er
    dsimp only at h
    refine g_iconst (v := 0) B dX10_isWrittenIn_52 (by decide) ?_
    replace h := Option.some.inj h
    subst h
    exact g_zret B hE rfl (Nat.zero_le _) (Nat.zero_le _) dX10_isWrittenIn_53
  have kR7 : ∀ vv, r4 = .inr vv → En Δ Γ (.ok (some (.int (bI vv)))) σ 0 0 (some .boolean) ∧ 0 ≤ 0 ∧ 0 ≤ 0 := by
    intro vv er
    subst er
    dsimp only at h
    replace h := Option.some.inj h
    subst h
    exact ⟨hE, Nat.zero_le _, Nat.zero_le _⟩
  clear h
  refine g_sub [1, 2, 3, 4, 0] rfl ?_
  refine lpP_w (I := fun q3 => GW Δ Γ (0) (0) 8 [(0, va_rf v0), (1, .int v1), (2, .int v2), (3, .int v3), (4, .int q3)] [] σ) (r := r4) ?_ FUEL x1 h5
  intro q3 x10 h hI8 hR9
  unfold fX10_isWrittenIn_l1 at h
  refine g_iload B 4 dX10_isWrittenIn_8 rfl ?_
  refine g_aload_n B 0 dX10_isWrittenIn_10 rfl rfl ?_
  refine g_iload_n B 1 dX10_isWrittenIn_11 rfl rfl ?_
  replace h := bnP_s h
  obtain ⟨x12, h13, h⟩ := h
  refine g_callVs0 (st := [.int q3]) B (cX10_lastOfc h13) (Nat.le_of_ble_eq_true rfl) rfl rfl mi_X10_lastOf lk_RX10_327 ⟨Nat.le_of_ble_eq_true rfl, Nat.le_of_ble_eq_true rfl⟩ rfl rfl (Nat.le_of_ble_eq_true rfl) dX10_isWrittenIn_12 (Nat.zero_le _) (Nat.zero_le _) ?_
  refine g_icmp_gt B 52 dX10_isWrittenIn_15 (by decide) (fun hc => ?_) (fun hc => ?_)
  · replace h := ifp hc h
    replace h := Option.some.inj h
    subst h
    have e8 := hR9 _ rfl
    subst e8
    exact g_sub [] rfl (kE6 _ rfl)
  · replace h := ifn hc h
    refine g_aload_n B 0 dX10_isWrittenIn_18 rfl rfl ?_
    refine g_iload B 4 dX10_isWrittenIn_19 rfl ?_
    replace h := bnP_s h
    obtain ⟨x14, h15, h⟩ := h
    refine g_callVs0 (st := []) B (cX10_standsc h15) (Nat.le_of_ble_eq_true rfl) rfl rfl mi_X10_stands lk_RX10_330 ⟨Nat.le_of_ble_eq_true rfl, Nat.le_of_ble_eq_true rfl⟩ rfl rfl (Nat.le_of_ble_eq_true rfl) dX10_isWrittenIn_21 (Nat.zero_le _) (Nat.zero_le _) ?_
    refine g_if_eq B 46 dX10_isWrittenIn_24 (by decide) (fun hc => ?_) (fun hc => ?_)
    · replace h := ifn (bI0 hc) h
      refine g_iinc (v := (q3 + 1)) B 4 dX10_isWrittenIn_46 rfl (by first | rfl | (congr 1; decide)) (Nat.le_of_ble_eq_true rfl) (s1_c (f1_k rfl (f1_k rfl (f1_k rfl (f1_1 rfl rfl (f1_x f1_n)))))) ?_
      refine g_goto B 8 dX10_isWrittenIn_49 (by decide) ?_
      replace h := Option.some.inj h
      subst h
      exact g_sub [1, 2, 3, 4, 0] rfl (hI8 _ rfl)
    · replace h := ifp (bI1 hc) h
      refine g_aload_n B 0 dX10_isWrittenIn_27 rfl rfl ?_
      refine g_bipush (v := 127) B dX10_isWrittenIn_28 (by decide) ?_
      refine g_bipush (v := 13) B dX10_isWrittenIn_30 (by decide) ?_
      refine g_iload B 4 dX10_isWrittenIn_32 rfl ?_
      refine g_imul B dX10_isWrittenIn_34 ?_
      refine g_iadd B dX10_isWrittenIn_35 ?_
      refine g_iload_n B 2 dX10_isWrittenIn_36 rfl rfl ?_
      refine g_iload_n B 3 dX10_isWrittenIn_37 rfl rfl ?_
      replace h := bnP_s h
      obtain ⟨x16, h17, h⟩ := h
      refine g_callVs0 (st := []) B (cX10_isAlikec h17) (Nat.le_of_ble_eq_true rfl) rfl rfl mi_X10_isAlike lk_RX10_491 ⟨Nat.le_of_ble_eq_true rfl, Nat.le_of_ble_eq_true rfl⟩ rfl rfl (Nat.le_of_ble_eq_true rfl) dX10_isWrittenIn_38 (Nat.zero_le _) (Nat.zero_le _) ?_
      refine g_if_eq B 46 dX10_isWrittenIn_41 (by decide) (fun hc => ?_) (fun hc => ?_)
      · replace h := ifn (bI0 hc) h
        refine g_iinc (v := (q3 + 1)) B 4 dX10_isWrittenIn_46 rfl (by first | rfl | (congr 1; decide)) (Nat.le_of_ble_eq_true rfl) (s1_c (f1_k rfl (f1_k rfl (f1_k rfl (f1_1 rfl rfl (f1_x f1_n)))))) ?_
        refine g_goto B 8 dX10_isWrittenIn_49 (by decide) ?_
        replace h := Option.some.inj h
        subst h
        exact g_sub [1, 2, 3, 4, 0] rfl (hI8 _ rfl)
      · replace h := ifp (bI1 hc) h
        refine g_iconst (v := 1) B dX10_isWrittenIn_44 (by decide) ?_
        replace h := Option.some.inj h
        subst h
        have e8 := hR9 _ rfl
        obtain ⟨hE, hc9, hs9⟩ := kR7 _ e8.symm
        exact g_zret B hE rfl hc9 hs9 dX10_isWrittenIn_45
set_option maxRecDepth 100000 in
set_option maxHeartbeats 4000000 in
theorem cX10_commonc {l : Launch} {v0 : Option Nat} {v1 : Int32} {v2 : Int32} {σ : HpT} {r : Int32} {σ' : HpT} (h : fX10_common v0 v1 v2 σ = some (r, σ')) : IsK σ v0 10 ∧ Ct l yX10_common cX10_common 5 (some .int) 3 67 [va_rf v0, .int v1, .int v2] σ (.ok (some (.int r))) σ' 0 0 := by
  unfold fX10_common at h
  replace h := bnP_s h
  obtain ⟨u, hk, h⟩ := h
  replace hk := isK_s hk
  refine ⟨hk, ?_⟩
  refine ct_start mi_X10_common.1 rfl (al_le (al_1 (rf_cat _) (al_1 rfl (al_1 rfl al_n))) (Nat.le_of_ble_eq_true rfl)) (ag_1 (rf_cat _) (ag_1 rfl (ag_1 rfl ag_n))) (fun Δ Γ B hE hnm => ?_)
  refine g_aload_n B 0 dX10_common_0 rfl rfl ?_
  refine g_aload_n B 0 dX10_common_1 rfl rfl ?_
  replace h := bnP_s h
  obtain ⟨x1, h2, h⟩ := h
  refine g_getI B fl_RX10_48 (by decide) dX10_common_2 h2 ?_
  refine g_aload_n B 0 dX10_common_5 rfl rfl ?_
  refine g_iload_n B 1 dX10_common_6 rfl rfl ?_
  replace h := bnP_s h
  obtain ⟨x3, h4, h⟩ := h
  refine g_callVs0 (st := [.int x1, va_rf v0]) B (cX10_isActc h4) (Nat.le_of_ble_eq_true rfl) rfl rfl mi_X10_isAct lk_RX10_399 ⟨Nat.le_of_ble_eq_true rfl, Nat.le_of_ble_eq_true rfl⟩ rfl rfl (Nat.le_of_ble_eq_true rfl) dX10_common_7 (Nat.zero_le _) (Nat.zero_le _) ?_
  replace h := bnP_s h
  obtain ⟨j5, h6, h⟩ := h
  have k8 : GW Δ Γ (0) (0) 26 [(0, va_rf v0), (1, .int v1), (2, .int v2)] [.int j5.2.2, .int j5.2.1, va_rf j5.1] σ := by
    replace h := bnS_s h
    obtain ⟨x12, s14, h13, h⟩ := h
    refine g_callVs0 (st := []) B (cX10_mayTwoc h13) (Nat.le_of_ble_eq_true rfl) rfl rfl mi_X10_mayTwo lk_RX10_380 ⟨Nat.le_of_ble_eq_true rfl, Nat.le_of_ble_eq_true rfl⟩ rfl rfl (Nat.le_of_ble_eq_true rfl) dX10_common_26 (Nat.zero_le _) (Nat.zero_le _) ?_
    refine g_if_ne B 34 dX10_common_29 (by decide) (fun hc => ?_) (fun hc => ?_)
    · replace h := ifp (bI1 hc) h
      refine g_iconst (v := 0) B dX10_common_34 (by decide) ?_
      refine g_istore_n B dX10_common_35 rfl (Nat.le_of_ble_eq_true rfl) (s1_c (f1_k rfl (f1_k rfl (f1_1 rfl rfl f1_n)))) ?_
      refine g_aload_n B 1 dX10_common_36 rfl rfl ?_
      refine g_iload_n B 2 dX10_common_37 rfl rfl ?_
      refine g_iconst (v := 1) B dX10_common_38 (by decide) ?_
      refine g_isub B dX10_common_39 ?_
      refine g_iconst (v := 5) B dX10_common_40 (by decide) ?_
      replace h := bnP_s h
      obtain ⟨x15, h16, h⟩ := h
      refine g_callVs0 (st := []) B (cX10_ofActc h16) (Nat.le_of_ble_eq_true rfl) rfl rfl mi_X10_ofAct lk_RX10_138 ⟨Nat.le_of_ble_eq_true rfl, Nat.le_of_ble_eq_true rfl⟩ rfl rfl (Nat.le_of_ble_eq_true rfl) dX10_common_41 (Nat.zero_le _) (Nat.zero_le _) ?_
      refine g_istore B dX10_common_44 (Nat.le_of_ble_eq_true rfl) (s1_c (f1_1 rfl rfl (f1_k rfl (f1_k rfl (f1_k rfl f1_n))))) ?_
      replace h := bnP_s h
      obtain ⟨r18, h19, h⟩ := h
      have kE20 : GW Δ Γ (0) (0) 108 [(3, .int r18)] [] s14 := by
        refine g_iload_n B 0 dX10_common_108 rfl rfl ?_
        obtain ⟨w1, w2⟩ := inS h
        clear h
        subst w1
        subst w2
        exact g_iret B hE (Nat.zero_le _) (Nat.zero_le _) dX10_common_109
      clear h
      refine g_sub [2, 3, 4, 1, 0] rfl ?_
      refine lpP_w (I := fun q17 => GW Δ Γ (0) (0) 46 [(0, va_rf v0), (1, .int v1), (2, .int v2), (3, .int q17.1), (4, .int q17.2)] [] s14) (r := r18) ?_ FUEL (0, x15) h19
      intro q17 x24 h hI22 hR23
      unfold fX10_common_l1 at h
      refine g_iload B 4 dX10_common_46 rfl ?_
      refine g_aload_n B 0 dX10_common_48 rfl rfl ?_
      refine g_iload_n B 1 dX10_common_49 rfl rfl ?_
      refine g_iconst (v := 1) B dX10_common_50 (by decide) ?_
      refine g_isub B dX10_common_51 ?_
      replace h := bnP_s h
      obtain ⟨x26, h27, h⟩ := h
      refine g_callVs0 (st := [.int q17.2]) B (cX10_lastOfc h27) (Nat.le_of_ble_eq_true rfl) rfl rfl mi_X10_lastOf lk_RX10_327 ⟨Nat.le_of_ble_eq_true rfl, Nat.le_of_ble_eq_true rfl⟩ rfl rfl (Nat.le_of_ble_eq_true rfl) dX10_common_52 (Nat.zero_le _) (Nat.zero_le _) ?_
      refine g_icmp_gt B 108 dX10_common_55 (by decide) (fun hc => ?_) (fun hc => ?_)
      · replace h := ifp hc h
        replace h := Option.some.inj h
        subst h
        have e8 := hR23 _ rfl
        subst e8
        exact g_sub [3] rfl kE20
      · replace h := ifn hc h
        refine g_iload_n B 3 dX10_common_58 rfl rfl ?_
        refine g_aload_n B 0 dX10_common_59 rfl rfl ?_
        refine g_iload B 4 dX10_common_60 rfl ?_
        replace h := bnP_s h
        obtain ⟨x28, h29, h⟩ := h
        refine g_callVs0 (st := [.int q17.1]) B (cX10_standsc h29) (Nat.le_of_ble_eq_true rfl) rfl rfl mi_X10_stands lk_RX10_330 ⟨Nat.le_of_ble_eq_true rfl, Nat.le_of_ble_eq_true rfl⟩ rfl rfl (Nat.le_of_ble_eq_true rfl) dX10_common_62 (Nat.zero_le _) (Nat.zero_le _) ?_
        replace h := bnP_s h
        obtain ⟨j30, h31, h⟩ := h
        have k33 : GW Δ Γ (0) (0) 97 [(0, va_rf v0), (1, .int v1), (2, .int v2), (4, .int q17.2)] [.int j30.2, .int j30.1] s14 := by
          replace h := bnP_s h
          obtain ⟨x41, h42, h⟩ := h
          refine g_callSs0 (st := [.int j30.1]) B (cX10_onec h42) mi_X10_one lk_RX10_333 ⟨Nat.le_of_ble_eq_true rfl, Nat.le_of_ble_eq_true rfl⟩ rfl rfl (Nat.le_of_ble_eq_true rfl) dX10_common_97 (Nat.zero_le _) (Nat.zero_le _) ?_
          refine g_iadd B dX10_common_100 ?_
          refine g_istore_n B dX10_common_101 rfl (Nat.le_of_ble_eq_true rfl) (s1_c (f1_k rfl (f1_k rfl (f1_1 rfl rfl (f1_k rfl f1_n))))) ?_
          refine g_iinc (v := (q17.2 + 1)) B 4 dX10_common_102 rfl (by first | rfl | (congr 1; decide)) (Nat.le_of_ble_eq_true rfl) (s1_c (f1_1 rfl rfl (f1_k rfl (f1_k rfl (f1_k rfl (f1_x f1_n)))))) ?_
          refine g_goto B 46 dX10_common_105 (by decide) ?_
          replace h := Option.some.inj h
          subst h
          exact g_sub [2, 3, 4, 1, 0] rfl (hI22 _ rfl)
        clear h
        have h := h31
        clear h31
        refine g_if_eq B 96 dX10_common_65 (by decide) (fun hc => ?_) (fun hc => ?_)
        · replace h := ifn (bI0 hc) h
          refine g_iconst (v := 0) B dX10_common_96 (by decide) ?_
          replace h := Option.some.inj h
          subst h
          exact g_sub [0, 1, 2, 4] rfl k33
        · replace h := ifp (bI1 hc) h
          refine g_aload_n B 0 dX10_common_68 rfl rfl ?_
          refine g_iload_n B 2 dX10_common_69 rfl rfl ?_
          refine g_iconst (v := 1) B dX10_common_70 (by decide) ?_
          refine g_isub B dX10_common_71 ?_
          refine g_aload_n B 0 dX10_common_72 rfl rfl ?_
          refine g_iload B 4 dX10_common_73 rfl ?_
          refine g_iconst (v := 0) B dX10_common_75 (by decide) ?_
          replace h := bnP_s h
          obtain ⟨x35, h36, h⟩ := h
          refine g_callVs0 (st := [.int (v2 - 1), va_rf v0, .int q17.1]) B (cX10_ofWordc h36) (Nat.le_of_ble_eq_true rfl) rfl rfl mi_X10_ofWord lk_RX10_209 ⟨Nat.le_of_ble_eq_true rfl, Nat.le_of_ble_eq_true rfl⟩ rfl rfl (Nat.le_of_ble_eq_true rfl) dX10_common_76 (Nat.zero_le _) (Nat.zero_le _) ?_
          refine g_aload_n B 0 dX10_common_79 rfl rfl ?_
          refine g_iload B 4 dX10_common_80 rfl ?_
          refine g_iconst (v := 1) B dX10_common_82 (by decide) ?_
          replace h := bnP_s h
          obtain ⟨x37, h38, h⟩ := h
          refine g_callVs0 (st := [.int x35, .int (v2 - 1), va_rf v0, .int q17.1]) B (cX10_ofWordc h38) (Nat.le_of_ble_eq_true rfl) rfl rfl mi_X10_ofWord lk_RX10_209 ⟨Nat.le_of_ble_eq_true rfl, Nat.le_of_ble_eq_true rfl⟩ rfl rfl (Nat.le_of_ble_eq_true rfl) dX10_common_83 (Nat.zero_le _) (Nat.zero_le _) ?_
          replace h := bnP_s h
          obtain ⟨x39, h40, h⟩ := h
          refine g_callVs0 (st := [.int q17.1]) B (cX10_isWrittenInc h40) (Nat.le_of_ble_eq_true rfl) rfl rfl mi_X10_isWrittenIn lk_RX10_503 ⟨Nat.le_of_ble_eq_true rfl, Nat.le_of_ble_eq_true rfl⟩ rfl rfl (Nat.le_of_ble_eq_true rfl) dX10_common_86 (Nat.zero_le _) (Nat.zero_le _) ?_
          refine g_if_eq B 96 dX10_common_89 (by decide) (fun hc => ?_) (fun hc => ?_)
          · replace h := ifn (bI0 hc) h
            refine g_iconst (v := 0) B dX10_common_96 (by decide) ?_
            replace h := Option.some.inj h
            subst h
            exact g_sub [0, 1, 2, 4] rfl k33
          · replace h := ifp (bI1 hc) h
            refine g_iconst (v := 1) B dX10_common_92 (by decide) ?_
            refine g_goto B 97 dX10_common_93 (by decide) ?_
            replace h := Option.some.inj h
            subst h
            exact g_sub [0, 1, 2, 4] rfl k33
    · replace h := ifn (bI0 hc) h
      refine g_iconst (v := 0) B dX10_common_32 (by decide) ?_
      obtain ⟨w1, w2⟩ := inS h
      clear h
      subst w1
      subst w2
      exact g_iret B hE (Nat.zero_le _) (Nat.zero_le _) dX10_common_33
  clear h
  have h := h6
  clear h6
  refine g_if_eq B 25 dX10_common_10 (by decide) (fun hc => ?_) (fun hc => ?_)
  · replace h := ifn (bI0 hc) h
    refine g_iconst (v := 0) B dX10_common_25 (by decide) ?_
    replace h := Option.some.inj h
    subst h
    exact g_sub [0, 1, 2] rfl k8
  · replace h := ifp (bI1 hc) h
    refine g_aload_n B 0 dX10_common_13 rfl rfl ?_
    refine g_iload_n B 2 dX10_common_14 rfl rfl ?_
    replace h := bnP_s h
    obtain ⟨x10, h11, h⟩ := h
    refine g_callVs0 (st := [.int x1, va_rf v0]) B (cX10_isActc h11) (Nat.le_of_ble_eq_true rfl) rfl rfl mi_X10_isAct lk_RX10_399 ⟨Nat.le_of_ble_eq_true rfl, Nat.le_of_ble_eq_true rfl⟩ rfl rfl (Nat.le_of_ble_eq_true rfl) dX10_common_15 (Nat.zero_le _) (Nat.zero_le _) ?_
    refine g_if_eq B 25 dX10_common_18 (by decide) (fun hc => ?_) (fun hc => ?_)
    · replace h := ifn (bI0 hc) h
      refine g_iconst (v := 0) B dX10_common_25 (by decide) ?_
      replace h := Option.some.inj h
      subst h
      exact g_sub [0, 1, 2] rfl k8
    · replace h := ifp (bI1 hc) h
      refine g_iconst (v := 1) B dX10_common_21 (by decide) ?_
      refine g_goto B 26 dX10_common_22 (by decide) ?_
      replace h := Option.some.inj h
      subst h
      exact g_sub [0, 1, 2] rfl k8
set_option maxRecDepth 100000 in
set_option maxHeartbeats 4000000 in
theorem cX10_knownSharec {l : Launch} {v0 : Option Nat} {σ : HpT} {r : UInt32} {σ' : HpT} (h : fX10_knownShare v0 σ = some (r, σ')) : IsK σ v0 10 ∧ Ct l yX10_knownShare cX10_knownShare 1 (some .float) 8 176 [va_rf v0] σ (.ok (some (.float r))) σ' 0 0 := by
  unfold fX10_knownShare at h
  replace h := bnP_s h
  obtain ⟨u, hk, h⟩ := h
  replace hk := isK_s hk
  refine ⟨hk, ?_⟩
  refine ct_start mi_X10_knownShare.1 rfl (al_le (al_1 (rf_cat _) al_n) (Nat.le_of_ble_eq_true rfl)) (ag_1 (rf_cat _) ag_n) (fun Δ Γ B hE hnm => ?_)
  refine g_aload_n B 0 dX10_knownShare_0 rfl rfl ?_
  replace h := bnS_s h
  obtain ⟨x1, s3, h2, h⟩ := h
  refine g_callVs0 (st := []) B (cX10_mayLookc h2) (Nat.le_of_ble_eq_true rfl) rfl rfl mi_X10_mayLook lk_RX10_461 ⟨Nat.le_of_ble_eq_true rfl, Nat.le_of_ble_eq_true rfl⟩ rfl rfl (Nat.le_of_ble_eq_true rfl) dX10_knownShare_1 (Nat.zero_le _) (Nat.zero_le _) ?_
  replace h := bnP_s h
  obtain ⟨j4, h5, h⟩ := h
  have k7 : GW Δ Γ (0) (0) 40 [] [.float j4] s3 := by
    obtain ⟨w1, w2⟩ := inS h
    clear h
    subst w1
    subst w2
    exact g_fret B hE (Nat.zero_le _) (Nat.zero_le _) dX10_knownShare_40
  clear h
  have h := h5
  clear h5
  refine g_if_eq B 39 dX10_knownShare_4 (by decide) (fun hc => ?_) (fun hc => ?_)
  · replace h := ifn (bI0 hc) h
    refine g_fconst0 B dX10_knownShare_39 ?_
    replace h := Option.some.inj h
    subst h
    exact g_sub [] rfl k7
  · replace h := ifp (bI1 hc) h
    refine g_aload_n B 0 dX10_knownShare_7 rfl rfl ?_
    replace h := bnP_s h
    obtain ⟨x9, h10, h⟩ := h
    refine g_getR B fl_RX10_9 (by decide) dX10_knownShare_8 h10 ?_
    refine g_iconst (v := 4) B dX10_knownShare_11 (by decide) ?_
    replace h := bnP_s h
    obtain ⟨x11, h12, h⟩ := h
    refine g_iald B dX10_knownShare_12 h12 ?_
    refine g_if_le B 39 dX10_knownShare_13 (by decide) (fun hc => ?_) (fun hc => ?_)
    · replace h := ifp hc h
      refine g_fconst0 B dX10_knownShare_39 ?_
      replace h := Option.some.inj h
      subst h
      exact g_sub [] rfl k7
    · replace h := ifn hc h
      refine g_aload_n B 0 dX10_knownShare_16 rfl rfl ?_
      replace h := bnP_s h
      obtain ⟨x13, h14, h⟩ := h
      refine g_getR B fl_RX10_9 (by decide) dX10_knownShare_17 h14 ?_
      refine g_iconst (v := 4) B dX10_knownShare_20 (by decide) ?_
      replace h := bnP_s h
      obtain ⟨x15, h16, h⟩ := h
      refine g_iald B dX10_knownShare_21 h16 ?_
      refine g_aload_n B 0 dX10_knownShare_22 rfl rfl ?_
      replace h := bnP_s h
      obtain ⟨x17, h18, h⟩ := h
      refine g_callVs0 (st := [.int x15]) B (cX10_unknownc h18) (Nat.le_of_ble_eq_true rfl) rfl rfl mi_X10_unknown lk_RX10_396 ⟨Nat.le_of_ble_eq_true rfl, Nat.le_of_ble_eq_true rfl⟩ rfl rfl (Nat.le_of_ble_eq_true rfl) dX10_knownShare_23 (Nat.zero_le _) (Nat.zero_le _) ?_
      refine g_isub B dX10_knownShare_26 ?_
      refine g_i2f B dX10_knownShare_27 ?_
      refine g_aload_n B 0 dX10_knownShare_28 rfl rfl ?_
      replace h := bnP_s h
      obtain ⟨x19, h20, h⟩ := h
      refine g_getR B fl_RX10_9 (by decide) dX10_knownShare_29 h20 ?_
      refine g_iconst (v := 4) B dX10_knownShare_32 (by decide) ?_
      replace h := bnP_s h
      obtain ⟨x21, h22, h⟩ := h
      refine g_iald B dX10_knownShare_33 h22 ?_
      refine g_i2f B dX10_knownShare_34 ?_
      replace h := bnP_s h
      obtain ⟨u23, h24, h⟩ := h
      refine g_fdiv B dX10_knownShare_35 (chF_s h24) ?_
      refine g_goto B 40 dX10_knownShare_36 (by decide) ?_
      replace h := Option.some.inj h
      subst h
      exact g_sub [] rfl k7
set_option maxRecDepth 100000 in
set_option maxHeartbeats 4000000 in
theorem cX10_meanWordsc {l : Launch} {v0 : Option Nat} {σ : HpT} {r : UInt64} {σ' : HpT} (h : fX10_meanWords v0 σ = some (r, σ')) : IsK σ v0 10 ∧ Ct l yX10_meanWords cX10_meanWords 1 (some .double) 4 89 [va_rf v0] σ (.ok (some (.double r))) σ' 0 0 := by
  unfold fX10_meanWords at h
  replace h := bnP_s h
  obtain ⟨u, hk, h⟩ := h
  replace hk := isK_s hk
  refine ⟨hk, ?_⟩
  refine ct_start mi_X10_meanWords.1 rfl (al_le (al_1 (rf_cat _) al_n) (Nat.le_of_ble_eq_true rfl)) (ag_1 (rf_cat _) ag_n) (fun Δ Γ B hE hnm => ?_)
  refine g_aload_n B 0 dX10_meanWords_0 rfl rfl ?_
  replace h := bnS_s h
  obtain ⟨x1, s3, h2, h⟩ := h
  refine g_callVs0 (st := []) B (cX10_mayLookc h2) (Nat.le_of_ble_eq_true rfl) rfl rfl mi_X10_mayLook lk_RX10_461 ⟨Nat.le_of_ble_eq_true rfl, Nat.le_of_ble_eq_true rfl⟩ rfl rfl (Nat.le_of_ble_eq_true rfl) dX10_meanWords_1 (Nat.zero_le _) (Nat.zero_le _) ?_
  replace h := bnP_s h
  obtain ⟨j4, h5, h⟩ := h
  have k7 : GW Δ Γ (0) (0) 32 [] [.double j4] s3 := by
    obtain ⟨w1, w2⟩ := inS h
    clear h
    subst w1
    subst w2
    exact g_dret B hE (Nat.zero_le _) (Nat.zero_le _) dX10_meanWords_32
  clear h
  have h := h5
  clear h5
  refine g_if_eq B 31 dX10_meanWords_4 (by decide) (fun hc => ?_) (fun hc => ?_)
  · replace h := ifn (bI0 hc) h
    refine g_dconst0 B dX10_meanWords_31 ?_
    replace h := Option.some.inj h
    subst h
    exact g_sub [] rfl k7
  · replace h := ifp (bI1 hc) h
    refine g_aload_n B 0 dX10_meanWords_7 rfl rfl ?_
    refine g_iconst (v := 1) B dX10_meanWords_8 (by decide) ?_
    replace h := bnP_s h
    obtain ⟨x9, h10, h⟩ := h
    refine g_callVs0 (st := []) B (cX10_actsWithc h10) (Nat.le_of_ble_eq_true rfl) rfl rfl mi_X10_actsWith lk_RX10_393 ⟨Nat.le_of_ble_eq_true rfl, Nat.le_of_ble_eq_true rfl⟩ rfl rfl (Nat.le_of_ble_eq_true rfl) dX10_meanWords_9 (Nat.zero_le _) (Nat.zero_le _) ?_
    refine g_if_le B 31 dX10_meanWords_12 (by decide) (fun hc => ?_) (fun hc => ?_)
    · replace h := ifp hc h
      refine g_dconst0 B dX10_meanWords_31 ?_
      replace h := Option.some.inj h
      subst h
      exact g_sub [] rfl k7
    · replace h := ifn hc h
      refine g_aload_n B 0 dX10_meanWords_15 rfl rfl ?_
      refine g_iconst (v := 1) B dX10_meanWords_16 (by decide) ?_
      replace h := bnP_s h
      obtain ⟨x11, h12, h⟩ := h
      refine g_callVs0 (st := []) B (cX10_standingAllc h12) (Nat.le_of_ble_eq_true rfl) rfl rfl mi_X10_standingAll lk_RX10_390 ⟨Nat.le_of_ble_eq_true rfl, Nat.le_of_ble_eq_true rfl⟩ rfl rfl (Nat.le_of_ble_eq_true rfl) dX10_meanWords_17 (Nat.zero_le _) (Nat.zero_le _) ?_
      refine g_i2d B dX10_meanWords_20 ?_
      refine g_aload_n B 0 dX10_meanWords_21 rfl rfl ?_
      refine g_iconst (v := 1) B dX10_meanWords_22 (by decide) ?_
      replace h := bnP_s h
      obtain ⟨x13, h14, h⟩ := h
      refine g_callVs0 (st := [.double (FP.i2d x11)]) B (cX10_actsWithc h14) (Nat.le_of_ble_eq_true rfl) rfl rfl mi_X10_actsWith lk_RX10_393 ⟨Nat.le_of_ble_eq_true rfl, Nat.le_of_ble_eq_true rfl⟩ rfl rfl (Nat.le_of_ble_eq_true rfl) dX10_meanWords_23 (Nat.zero_le _) (Nat.zero_le _) ?_
      refine g_i2d B dX10_meanWords_26 ?_
      replace h := bnP_s h
      obtain ⟨u15, h16, h⟩ := h
      refine g_ddiv B dX10_meanWords_27 (chD_s h16) ?_
      refine g_goto B 32 dX10_meanWords_28 (by decide) ?_
      replace h := Option.some.inj h
      subst h
      exact g_sub [] rfl k7
set_option maxRecDepth 100000 in
set_option maxHeartbeats 4000000 in
theorem cX10_writesBytec {l : Launch} {v0 : Option Nat} {v1 : Int32} {σ : HpT} {σ' : HpT} (h : fX10_writesByte v0 v1 σ = some σ') : IsK σ v0 10 ∧ Ct l yX10_writesByte cX10_writesByte 2 none 0 0 [va_rf v0, .int v1] σ (.ok none) σ' 0 0 := by
  unfold fX10_writesByte at h
  replace h := bnP_s h
  obtain ⟨u, hk, h⟩ := h
  replace hk := isK_s hk
  refine ⟨hk, ?_⟩
  refine ct_start mi_X10_writesByte.1 rfl (al_le (al_1 (rf_cat _) (al_1 rfl al_n)) (Nat.le_of_ble_eq_true rfl)) (ag_1 (rf_cat _) (ag_1 rfl ag_n)) (fun Δ Γ B hE hnm => ?_)
  refine g_aload_n B 0 dX10_writesByte_0 rfl rfl ?_
  replace h := bnP_s h
  obtain ⟨x1, h2, h⟩ := h
  refine g_getR B fl_RX10_38 (by decide) dX10_writesByte_1 h2 ?_
  refine g_aload_n B 0 dX10_writesByte_4 rfl rfl ?_
  replace h := bnP_s h
  obtain ⟨x3, h4, h⟩ := h
  refine g_getI B fl_RX10_506 (by decide) dX10_writesByte_5 h4 ?_
  refine g_iload_n B 1 dX10_writesByte_8 rfl rfl ?_
  refine g_i2b B dX10_writesByte_9 ?_
  replace h := bnP_s h
  obtain ⟨s7, h6, h⟩ := h
  refine g_bast B dX10_writesByte_10 h6 ?_
  refine g_aload_n B 0 dX10_writesByte_11 rfl rfl ?_
  refine g_dup B dX10_writesByte_12 (rf_cat _) ?_
  replace h := bnP_s h
  obtain ⟨x8, h9, h⟩ := h
  refine g_getI B fl_RX10_506 (by decide) dX10_writesByte_13 h9 ?_
  refine g_iconst (v := 1) B dX10_writesByte_16 (by decide) ?_
  refine g_iadd B dX10_writesByte_17 ?_
  replace h := bnP_s h
  obtain ⟨s12, h11, h⟩ := h
  refine g_putI B fl_RX10_506 (by decide) dX10_writesByte_18 h11 ?_
  replace h := Option.some.inj h
  subst h
  exact g_vret B hE (Nat.zero_le _) (Nat.zero_le _) dX10_writesByte_21
set_option maxRecDepth 100000 in
set_option maxHeartbeats 4000000 in
theorem cX10_writesBlankc {l : Launch} {v0 : Option Nat} {σ : HpT} {σ' : HpT} (h : fX10_writesBlank v0 σ = some σ') : IsK σ v0 10 ∧ Ct l yX10_writesBlank cX10_writesBlank 1 none 1 21 [va_rf v0] σ (.ok none) σ' 0 0 := by
  unfold fX10_writesBlank at h
  replace h := bnP_s h
  obtain ⟨u, hk, h⟩ := h
  replace hk := isK_s hk
  refine ⟨hk, ?_⟩
  refine ct_start mi_X10_writesBlank.1 rfl (al_le (al_1 (rf_cat _) al_n) (Nat.le_of_ble_eq_true rfl)) (ag_1 (rf_cat _) ag_n) (fun Δ Γ B hE hnm => ?_)
  refine g_aload_n B 0 dX10_writesBlank_0 rfl rfl ?_
  replace h := bnP_s h
  obtain ⟨x1, h2, h⟩ := h
  refine g_getI B fl_RX10_506 (by decide) dX10_writesBlank_1 h2 ?_
  refine g_if_le B 13 dX10_writesBlank_4 (by decide) (fun hc => ?_) (fun hc => ?_)
  · replace h := ifp hc h
    replace h := Option.some.inj h
    subst h
    exact g_vret B hE (Nat.zero_le _) (Nat.zero_le _) dX10_writesBlank_13
  · replace h := ifn hc h
    refine g_aload_n B 0 dX10_writesBlank_7 rfl rfl ?_
    refine g_bipush (v := 32) B dX10_writesBlank_8 (by decide) ?_
    replace h := bnP_s h
    obtain ⟨s5, h4, h⟩ := h
    refine g_callVv0 (st := []) B (cX10_writesBytec h4) (Nat.le_of_ble_eq_true rfl) rfl rfl mi_X10_writesByte lk_RX10_509 ⟨Nat.le_of_ble_eq_true rfl, Nat.le_of_ble_eq_true rfl⟩ rfl rfl (Nat.le_of_ble_eq_true rfl) dX10_writesBlank_10 (Nat.zero_le _) (Nat.zero_le _) ?_
    replace h := Option.some.inj h
    subst h
    exact g_vret B hE (Nat.zero_le _) (Nat.zero_le _) dX10_writesBlank_13
set_option maxRecDepth 100000 in
set_option maxHeartbeats 4000000 in
theorem cX10_writesLettersc {l : Launch} {v0 : Option Nat} {v1 : Int32} {σ : HpT} {σ' : HpT} (h : fX10_writesLetters v0 v1 σ = some σ') : IsK σ v0 10 ∧ Ct l yX10_writesLetters cX10_writesLetters 3 none 2 45 [va_rf v0, .int v1] σ (.ok none) σ' 0 0 := by
  unfold fX10_writesLetters at h
  replace h := bnP_s h
  obtain ⟨u, hk, h⟩ := h
  replace hk := isK_s hk
  refine ⟨hk, ?_⟩
  refine ct_start mi_X10_writesLetters.1 rfl (al_le (al_1 (rf_cat _) (al_1 rfl al_n)) (Nat.le_of_ble_eq_true rfl)) (ag_1 (rf_cat _) (ag_1 rfl ag_n)) (fun Δ Γ B hE hnm => ?_)
  refine g_iconst (v := 0) B dX10_writesLetters_0 (by decide) ?_
  refine g_istore_n B dX10_writesLetters_1 rfl (Nat.le_of_ble_eq_true rfl) (s1_c (f1_k rfl (f1_1 rfl rfl f1_n))) ?_
  replace h := bnS_s h
  obtain ⟨r2, s34, h3, h⟩ := h
  have kE4 : GW Δ Γ (0) (0) 52 [] [] s34 := by
    replace h := Option.some.inj h
    subst h
    exact g_vret B hE (Nat.zero_le _) (Nat.zero_le _) dX10_writesLetters_52
  clear h
  refine g_sub [1, 2, 0] rfl ?_
  refine lpS_w (I := fun q1 s10 => GW Δ Γ (0) (0) 2 [(0, va_rf v0), (1, .int v1), (2, .int q1)] [] s10) (r := r2) (σr := s34) ?_ FUEL 0 σ h3
  intro q1 s10 x8 s9 h hI6 hR7
  unfold fX10_writesLetters_l1 at h
  refine g_aload_n B 0 dX10_writesLetters_2 rfl rfl ?_
  replace h := bnP_s h
  obtain ⟨x11, h12, h⟩ := h
  refine g_getR B fl_RX10_9 (by decide) dX10_writesLetters_3 h12 ?_
  refine g_iload_n B 1 dX10_writesLetters_6 rfl rfl ?_
  replace h := bnP_s h
  obtain ⟨x13, h14, h⟩ := h
  refine g_iald B dX10_writesLetters_7 h14 ?_
  refine g_aload_n B 0 dX10_writesLetters_8 rfl rfl ?_
  replace h := bnP_s h
  obtain ⟨x15, h16, h⟩ := h
  refine g_getR B fl_RX10_9 (by decide) dX10_writesLetters_9 h16 ?_
  refine g_iload_n B 1 dX10_writesLetters_12 rfl rfl ?_
  refine g_iconst (v := 1) B dX10_writesLetters_13 (by decide) ?_
  refine g_iadd B dX10_writesLetters_14 ?_
  replace h := bnP_s h
  obtain ⟨x17, h18, h⟩ := h
  refine g_iald B dX10_writesLetters_15 h18 ?_
  refine g_iload_n B 2 dX10_writesLetters_16 rfl rfl ?_
  replace h := bnP_s h
  obtain ⟨x19, h20, h⟩ := h
  refine g_callSs0 (st := []) B (cX10_letterOfc h20) mi_X10_letterOf lk_RX10_128 ⟨Nat.le_of_ble_eq_true rfl, Nat.le_of_ble_eq_true rfl⟩ rfl rfl (Nat.le_of_ble_eq_true rfl) dX10_writesLetters_17 (Nat.zero_le _) (Nat.zero_le _) ?_
  refine g_iconst (v := (-1)) B dX10_writesLetters_20 (by decide) ?_
  refine g_icmp_eq B 52 dX10_writesLetters_21 (by decide) (fun hc => ?_) (fun hc => ?_)
  · replace h := ifp hc h
    obtain ⟨w1, w2⟩ := inS h
    clear h
    subst w1
    subst w2
    obtain ⟨e8, e7⟩ := hR7 _ rfl
    subst e8
    subst e7
    exact g_sub [] rfl kE4
  · replace h := ifn hc h
    refine g_aload_n B 0 dX10_writesLetters_24 rfl rfl ?_
    refine g_aload_n B 0 dX10_writesLetters_25 rfl rfl ?_
    replace h := bnP_s h
    obtain ⟨x21, h22, h⟩ := h
    refine g_getR B fl_RX10_9 (by decide) dX10_writesLetters_26 h22 ?_
    refine g_iload_n B 1 dX10_writesLetters_29 rfl rfl ?_
    replace h := bnP_s h
    obtain ⟨x23, h24, h⟩ := h
    refine g_iald B dX10_writesLetters_30 h24 ?_
    refine g_aload_n B 0 dX10_writesLetters_31 rfl rfl ?_
    replace h := bnP_s h
    obtain ⟨x25, h26, h⟩ := h
    refine g_getR B fl_RX10_9 (by decide) dX10_writesLetters_32 h26 ?_
    refine g_iload_n B 1 dX10_writesLetters_35 rfl rfl ?_
    refine g_iconst (v := 1) B dX10_writesLetters_36 (by decide) ?_
    refine g_iadd B dX10_writesLetters_37 ?_
    replace h := bnP_s h
    obtain ⟨x27, h28, h⟩ := h
    refine g_iald B dX10_writesLetters_38 h28 ?_
    refine g_iload_n B 2 dX10_writesLetters_39 rfl rfl ?_
    replace h := bnP_s h
    obtain ⟨x29, h30, h⟩ := h
    refine g_callSs0 (st := [va_rf v0]) B (cX10_letterOfc h30) mi_X10_letterOf lk_RX10_128 ⟨Nat.le_of_ble_eq_true rfl, Nat.le_of_ble_eq_true rfl⟩ rfl rfl (Nat.le_of_ble_eq_true rfl) dX10_writesLetters_40 (Nat.zero_le _) (Nat.zero_le _) ?_
    replace h := bnP_s h
    obtain ⟨s33, h32, h⟩ := h
    refine g_callVv0 (st := []) B (cX10_writesBytec h32) (Nat.le_of_ble_eq_true rfl) rfl rfl mi_X10_writesByte lk_RX10_509 ⟨Nat.le_of_ble_eq_true rfl, Nat.le_of_ble_eq_true rfl⟩ rfl rfl (Nat.le_of_ble_eq_true rfl) dX10_writesLetters_43 (Nat.zero_le _) (Nat.zero_le _) ?_
    refine g_iinc (v := (q1 + 1)) B 2 dX10_writesLetters_46 rfl (by first | rfl | (congr 1; decide)) (Nat.le_of_ble_eq_true rfl) (s1_c (f1_k rfl (f1_1 rfl rfl (f1_x f1_n)))) ?_
    refine g_goto B 2 dX10_writesLetters_49 (by decide) ?_
    obtain ⟨w1, w2⟩ := inS h
    clear h
    subst w1
    subst w2
    exact g_sub [1, 2, 0] rfl (hI6 _ rfl)
set_option maxRecDepth 100000 in
set_option maxHeartbeats 4000000 in
theorem cX10_writesInnerc {l : Launch} {v0 : Option Nat} {v1 : Int32} {v2 : Int32} {σ : HpT} {σ' : HpT} (h : fX10_writesInner v0 v1 v2 σ = some σ') : IsK σ v0 10 ∧ Ct l yX10_writesInner cX10_writesInner 4 none 3 67 [va_rf v0, .int v1, .int v2] σ (.ok none) σ' 0 0 := by
  unfold fX10_writesInner at h
  replace h := bnP_s h
  obtain ⟨u, hk, h⟩ := h
  replace hk := isK_s hk
  refine ⟨hk, ?_⟩
  refine ct_start mi_X10_writesInner.1 rfl (al_le (al_1 (rf_cat _) (al_1 rfl (al_1 rfl al_n))) (Nat.le_of_ble_eq_true rfl)) (ag_1 (rf_cat _) (ag_1 rfl (ag_1 rfl ag_n))) (fun Δ Γ B hE hnm => ?_)
  refine g_iconst (v := 0) B dX10_writesInner_0 (by decide) ?_
  refine g_istore_n B dX10_writesInner_1 rfl (Nat.le_of_ble_eq_true rfl) (s1_c (f1_k rfl (f1_k rfl (f1_1 rfl rfl f1_n)))) ?_
  replace h := bnS_s h
  obtain ⟨r2, s28, h3, h⟩ := h
  have kE4 : GW Δ Γ (0) (0) 48 [] [] s28 := by
    replace h := Option.some.inj h
    subst h
    exact g_vret B hE (Nat.zero_le _) (Nat.zero_le _) dX10_writesInner_48
  clear h
  refine g_sub [1, 2, 3, 0] rfl ?_
  refine lpS_w (I := fun q1 s10 => GW Δ Γ (0) (0) 2 [(0, va_rf v0), (1, .int v1), (2, .int v2), (3, .int q1)] [] s10) (r := r2) (σr := s28) ?_ FUEL 0 σ h3
  intro q1 s10 x8 s9 h hI6 hR7
  unfold fX10_writesInner_l1 at h
  refine g_iload_n B 3 dX10_writesInner_2 rfl rfl ?_
  refine g_aload_n B 0 dX10_writesInner_3 rfl rfl ?_
  refine g_iload_n B 1 dX10_writesInner_4 rfl rfl ?_
  refine g_iconst (v := 4) B dX10_writesInner_5 (by decide) ?_
  replace h := bnP_s h
  obtain ⟨x11, h12, h⟩ := h
  refine g_callVs0 (st := [.int q1]) B (cX10_ofWordc h12) (Nat.le_of_ble_eq_true rfl) rfl rfl mi_X10_ofWord lk_RX10_209 ⟨Nat.le_of_ble_eq_true rfl, Nat.le_of_ble_eq_true rfl⟩ rfl rfl (Nat.le_of_ble_eq_true rfl) dX10_writesInner_6 (Nat.zero_le _) (Nat.zero_le _) ?_
  refine g_icmp_ge B 48 dX10_writesInner_9 (by decide) (fun hc => ?_) (fun hc => ?_)
  · replace h := ifp hc h
    obtain ⟨w1, w2⟩ := inS h
    clear h
    subst w1
    subst w2
    obtain ⟨e8, e7⟩ := hR7 _ rfl
    subst e8
    subst e7
    exact g_sub [] rfl kE4
  · replace h := ifn hc h
    refine g_aload_n B 0 dX10_writesInner_12 rfl rfl ?_
    replace h := bnP_s h
    obtain ⟨s15, h14, h⟩ := h
    refine g_callVv0 (st := []) B (cX10_writesBlankc h14) (Nat.le_of_ble_eq_true rfl) rfl rfl mi_X10_writesBlank lk_RX10_512 ⟨Nat.le_of_ble_eq_true rfl, Nat.le_of_ble_eq_true rfl⟩ rfl rfl (Nat.le_of_ble_eq_true rfl) dX10_writesInner_13 (Nat.zero_le _) (Nat.zero_le _) ?_
    refine g_iload_n B 2 dX10_writesInner_16 rfl rfl ?_
    replace h := bnS_s h
    obtain ⟨j16, s24, h17, h⟩ := h
    have k19 : GW Δ Γ (0) (0) 25 [(0, va_rf v0), (1, .int v1), (2, .int v2), (3, .int q1)] [] s24 := by
      refine g_aload_n B 0 dX10_writesInner_25 rfl rfl ?_
      refine g_bipush (v := 127) B dX10_writesInner_26 (by decide) ?_
      refine g_bipush (v := 13) B dX10_writesInner_28 (by decide) ?_
      refine g_iload_n B 1 dX10_writesInner_30 rfl rfl ?_
      refine g_imul B dX10_writesInner_31 ?_
      refine g_iadd B dX10_writesInner_32 ?_
      refine g_iconst (v := 5) B dX10_writesInner_33 (by decide) ?_
      refine g_iadd B dX10_writesInner_34 ?_
      refine g_iconst (v := 2) B dX10_writesInner_35 (by decide) ?_
      refine g_iload_n B 3 dX10_writesInner_36 rfl rfl ?_
      refine g_imul B dX10_writesInner_37 ?_
      refine g_iadd B dX10_writesInner_38 ?_
      replace h := bnP_s h
      obtain ⟨s27, h26, h⟩ := h
      refine g_callVv0 (st := []) B (cX10_writesLettersc h26) (Nat.le_of_ble_eq_true rfl) rfl rfl mi_X10_writesLetters lk_RX10_515 ⟨Nat.le_of_ble_eq_true rfl, Nat.le_of_ble_eq_true rfl⟩ rfl rfl (Nat.le_of_ble_eq_true rfl) dX10_writesInner_39 (Nat.zero_le _) (Nat.zero_le _) ?_
      refine g_iinc (v := (q1 + 1)) B 3 dX10_writesInner_42 rfl (by first | rfl | (congr 1; decide)) (Nat.le_of_ble_eq_true rfl) (s1_c (f1_k rfl (f1_k rfl (f1_1 rfl rfl (f1_x f1_n))))) ?_
      refine g_goto B 2 dX10_writesInner_45 (by decide) ?_
      obtain ⟨w1, w2⟩ := inS h
      clear h
      subst w1
      subst w2
      exact g_sub [1, 2, 3, 0] rfl (hI6 _ rfl)
    clear h
    have h := h17
    clear h17
    refine g_if_le B 25 dX10_writesInner_17 (by decide) (fun hc => ?_) (fun hc => ?_)
    · replace h := ifp hc h
      obtain ⟨w1, w2⟩ := inS h
      clear h
      subst w1
      subst w2
      exact g_sub [0, 1, 2, 3] rfl k19
    · replace h := ifn hc h
      refine g_aload_n B 0 dX10_writesInner_20 rfl rfl ?_
      refine g_iload_n B 2 dX10_writesInner_21 rfl rfl ?_
      replace h := bnP_s h
      obtain ⟨s23, h22, h⟩ := h
      refine g_callVv0 (st := []) B (cX10_writesBytec h22) (Nat.le_of_ble_eq_true rfl) rfl rfl mi_X10_writesByte lk_RX10_509 ⟨Nat.le_of_ble_eq_true rfl, Nat.le_of_ble_eq_true rfl⟩ rfl rfl (Nat.le_of_ble_eq_true rfl) dX10_writesInner_22 (Nat.zero_le _) (Nat.zero_le _) ?_
      obtain ⟨w1, w2⟩ := inS h
      clear h
      subst w1
      subst w2
      exact g_sub [0, 1, 2, 3] rfl k19
set_option maxRecDepth 100000 in
set_option maxHeartbeats 4000000 in
theorem cX10_writesOpeningc {l : Launch} {v0 : Option Nat} {v1 : Int32} {v2 : Int32} {σ : HpT} {σ' : HpT} (h : fX10_writesOpening v0 v1 v2 σ = some σ') : IsK σ v0 10 ∧ Ct l yX10_writesOpening cX10_writesOpening 4 none 2 41 [va_rf v0, .int v1, .int v2] σ (.ok none) σ' 0 0 := by
  unfold fX10_writesOpening at h
  replace h := bnP_s h
  obtain ⟨u, hk, h⟩ := h
  replace hk := isK_s hk
  refine ⟨hk, ?_⟩
  refine ct_start mi_X10_writesOpening.1 rfl (al_le (al_1 (rf_cat _) (al_1 rfl (al_1 rfl al_n))) (Nat.le_of_ble_eq_true rfl)) (ag_1 (rf_cat _) (ag_1 rfl (ag_1 rfl ag_n))) (fun Δ Γ B hE hnm => ?_)
  refine g_iconst (v := 0) B dX10_writesOpening_0 (by decide) ?_
  refine g_istore_n B dX10_writesOpening_1 rfl (Nat.le_of_ble_eq_true rfl) (s1_c (f1_k rfl (f1_k rfl (f1_1 rfl rfl f1_n)))) ?_
  replace h := bnS_s h
  obtain ⟨r2, s23, h3, h⟩ := h
  have kE4 : GW Δ Γ (0) (0) 50 [] [] s23 := by
    replace h := Option.some.inj h
    subst h
    exact g_vret B hE (Nat.zero_le _) (Nat.zero_le _) dX10_writesOpening_50
  clear h
  refine g_sub [1, 2, 3, 0] rfl ?_
  refine lpS_w (I := fun q1 s10 => GW Δ Γ (0) (0) 2 [(0, va_rf v0), (1, .int v1), (2, .int v2), (3, .int q1)] [] s10) (r := r2) (σr := s23) ?_ FUEL 0 σ h3
  intro q1 s10 x8 s9 h hI6 hR7
  unfold fX10_writesOpening_l1 at h
  refine g_iload_n B 3 dX10_writesOpening_2 rfl rfl ?_
  refine g_aload_n B 0 dX10_writesOpening_3 rfl rfl ?_
  refine g_iload_n B 1 dX10_writesOpening_4 rfl rfl ?_
  refine g_bipush (v := 8) B dX10_writesOpening_5 (by decide) ?_
  replace h := bnP_s h
  obtain ⟨x11, h12, h⟩ := h
  refine g_callVs0 (st := [.int q1]) B (cX10_ofActc h12) (Nat.le_of_ble_eq_true rfl) rfl rfl mi_X10_ofAct lk_RX10_138 ⟨Nat.le_of_ble_eq_true rfl, Nat.le_of_ble_eq_true rfl⟩ rfl rfl (Nat.le_of_ble_eq_true rfl) dX10_writesOpening_7 (Nat.zero_le _) (Nat.zero_le _) ?_
  refine g_icmp_ge B 50 dX10_writesOpening_10 (by decide) (fun hc => ?_) (fun hc => ?_)
  · replace h := ifp hc h
    obtain ⟨w1, w2⟩ := inS h
    clear h
    subst w1
    subst w2
    obtain ⟨e8, e7⟩ := hR7 _ rfl
    subst e8
    subst e7
    exact g_sub [] rfl kE4
  · replace h := ifn hc h
    refine g_aload_n B 0 dX10_writesOpening_13 rfl rfl ?_
    refine g_aload_n B 0 dX10_writesOpening_14 rfl rfl ?_
    refine g_iload_n B 1 dX10_writesOpening_15 rfl rfl ?_
    refine g_bipush (v := 7) B dX10_writesOpening_16 (by decide) ?_
    replace h := bnP_s h
    obtain ⟨x13, h14, h⟩ := h
    refine g_callVs0 (st := [va_rf v0]) B (cX10_ofActc h14) (Nat.le_of_ble_eq_true rfl) rfl rfl mi_X10_ofAct lk_RX10_138 ⟨Nat.le_of_ble_eq_true rfl, Nat.le_of_ble_eq_true rfl⟩ rfl rfl (Nat.le_of_ble_eq_true rfl) dX10_writesOpening_18 (Nat.zero_le _) (Nat.zero_le _) ?_
    refine g_iload_n B 3 dX10_writesOpening_21 rfl rfl ?_
    refine g_iadd B dX10_writesOpening_22 ?_
    refine g_iconst (v := 0) B dX10_writesOpening_23 (by decide) ?_
    replace h := bnP_s h
    obtain ⟨x15, h16, h⟩ := h
    refine g_callVs0 (st := []) B (cX10_ofClausec h16) (Nat.le_of_ble_eq_true rfl) rfl rfl mi_X10_ofClause lk_RX10_145 ⟨Nat.le_of_ble_eq_true rfl, Nat.le_of_ble_eq_true rfl⟩ rfl rfl (Nat.le_of_ble_eq_true rfl) dX10_writesOpening_24 (Nat.zero_le _) (Nat.zero_le _) ?_
    refine g_iload_n B 2 dX10_writesOpening_27 rfl rfl ?_
    refine g_icmp_eq B 34 dX10_writesOpening_28 (by decide) (fun hc => ?_) (fun hc => ?_)
    · replace h := ifp hc h
      refine g_aload_n B 0 dX10_writesOpening_34 rfl rfl ?_
      replace h := bnP_s h
      obtain ⟨s19, h18, h⟩ := h
      refine g_callVv0 (st := []) B (cX10_writesBlankc h18) (Nat.le_of_ble_eq_true rfl) rfl rfl mi_X10_writesBlank lk_RX10_512 ⟨Nat.le_of_ble_eq_true rfl, Nat.le_of_ble_eq_true rfl⟩ rfl rfl (Nat.le_of_ble_eq_true rfl) dX10_writesOpening_35 (Nat.zero_le _) (Nat.zero_le _) ?_
      refine g_aload_n B 0 dX10_writesOpening_38 rfl rfl ?_
      refine g_bipush (v := 40) B dX10_writesOpening_39 (by decide) ?_
      replace h := bnP_s h
      obtain ⟨s22, h21, h⟩ := h
      refine g_callVv0 (st := []) B (cX10_writesBytec h21) (Nat.le_of_ble_eq_true rfl) rfl rfl mi_X10_writesByte lk_RX10_509 ⟨Nat.le_of_ble_eq_true rfl, Nat.le_of_ble_eq_true rfl⟩ rfl rfl (Nat.le_of_ble_eq_true rfl) dX10_writesOpening_41 (Nat.zero_le _) (Nat.zero_le _) ?_
      refine g_iinc (v := (q1 + 1)) B 3 dX10_writesOpening_44 rfl (by first | rfl | (congr 1; decide)) (Nat.le_of_ble_eq_true rfl) (s1_c (f1_k rfl (f1_k rfl (f1_1 rfl rfl (f1_x f1_n))))) ?_
      refine g_goto B 2 dX10_writesOpening_47 (by decide) ?_
      obtain ⟨w1, w2⟩ := inS h
      clear h
      subst w1
      subst w2
      exact g_sub [1, 2, 3, 0] rfl (hI6 _ rfl)
    · replace h := ifn hc h
      refine g_goto B 44 dX10_writesOpening_31 (by decide) ?_
      refine g_iinc (v := (q1 + 1)) B 3 dX10_writesOpening_44 rfl (by first | rfl | (congr 1; decide)) (Nat.le_of_ble_eq_true rfl) (s1_c (f1_k rfl (f1_k rfl (f1_1 rfl rfl (f1_x f1_n))))) ?_
      refine g_goto B 2 dX10_writesOpening_47 (by decide) ?_
      obtain ⟨w1, w2⟩ := inS h
      clear h
      subst w1
      subst w2
      exact g_sub [1, 2, 3, 0] rfl (hI6 _ rfl)
set_option maxRecDepth 100000 in
set_option maxHeartbeats 4000000 in
theorem cX10_writesClosingc {l : Launch} {v0 : Option Nat} {v1 : Int32} {v2 : Int32} {σ : HpT} {σ' : HpT} (h : fX10_writesClosing v0 v1 v2 σ = some σ') : IsK σ v0 10 ∧ Ct l yX10_writesClosing cX10_writesClosing 4 none 2 41 [va_rf v0, .int v1, .int v2] σ (.ok none) σ' 0 0 := by
  unfold fX10_writesClosing at h
  replace h := bnP_s h
  obtain ⟨u, hk, h⟩ := h
  replace hk := isK_s hk
  refine ⟨hk, ?_⟩
  refine ct_start mi_X10_writesClosing.1 rfl (al_le (al_1 (rf_cat _) (al_1 rfl (al_1 rfl al_n))) (Nat.le_of_ble_eq_true rfl)) (ag_1 (rf_cat _) (ag_1 rfl (ag_1 rfl ag_n))) (fun Δ Γ B hE hnm => ?_)
  refine g_iconst (v := 0) B dX10_writesClosing_0 (by decide) ?_
  refine g_istore_n B dX10_writesClosing_1 rfl (Nat.le_of_ble_eq_true rfl) (s1_c (f1_k rfl (f1_k rfl (f1_1 rfl rfl f1_n)))) ?_
  replace h := bnS_s h
  obtain ⟨r2, s23, h3, h⟩ := h
  have kE4 : GW Δ Γ (0) (0) 50 [] [] s23 := by
    replace h := Option.some.inj h
    subst h
    exact g_vret B hE (Nat.zero_le _) (Nat.zero_le _) dX10_writesClosing_50
  clear h
  refine g_sub [1, 2, 3, 0] rfl ?_
  refine lpS_w (I := fun q1 s10 => GW Δ Γ (0) (0) 2 [(0, va_rf v0), (1, .int v1), (2, .int v2), (3, .int q1)] [] s10) (r := r2) (σr := s23) ?_ FUEL 0 σ h3
  intro q1 s10 x8 s9 h hI6 hR7
  unfold fX10_writesClosing_l1 at h
  refine g_iload_n B 3 dX10_writesClosing_2 rfl rfl ?_
  refine g_aload_n B 0 dX10_writesClosing_3 rfl rfl ?_
  refine g_iload_n B 1 dX10_writesClosing_4 rfl rfl ?_
  refine g_bipush (v := 8) B dX10_writesClosing_5 (by decide) ?_
  replace h := bnP_s h
  obtain ⟨x11, h12, h⟩ := h
  refine g_callVs0 (st := [.int q1]) B (cX10_ofActc h12) (Nat.le_of_ble_eq_true rfl) rfl rfl mi_X10_ofAct lk_RX10_138 ⟨Nat.le_of_ble_eq_true rfl, Nat.le_of_ble_eq_true rfl⟩ rfl rfl (Nat.le_of_ble_eq_true rfl) dX10_writesClosing_7 (Nat.zero_le _) (Nat.zero_le _) ?_
  refine g_icmp_ge B 50 dX10_writesClosing_10 (by decide) (fun hc => ?_) (fun hc => ?_)
  · replace h := ifp hc h
    obtain ⟨w1, w2⟩ := inS h
    clear h
    subst w1
    subst w2
    obtain ⟨e8, e7⟩ := hR7 _ rfl
    subst e8
    subst e7
    exact g_sub [] rfl kE4
  · replace h := ifn hc h
    refine g_aload_n B 0 dX10_writesClosing_13 rfl rfl ?_
    refine g_aload_n B 0 dX10_writesClosing_14 rfl rfl ?_
    refine g_iload_n B 1 dX10_writesClosing_15 rfl rfl ?_
    refine g_bipush (v := 7) B dX10_writesClosing_16 (by decide) ?_
    replace h := bnP_s h
    obtain ⟨x13, h14, h⟩ := h
    refine g_callVs0 (st := [va_rf v0]) B (cX10_ofActc h14) (Nat.le_of_ble_eq_true rfl) rfl rfl mi_X10_ofAct lk_RX10_138 ⟨Nat.le_of_ble_eq_true rfl, Nat.le_of_ble_eq_true rfl⟩ rfl rfl (Nat.le_of_ble_eq_true rfl) dX10_writesClosing_18 (Nat.zero_le _) (Nat.zero_le _) ?_
    refine g_iload_n B 3 dX10_writesClosing_21 rfl rfl ?_
    refine g_iadd B dX10_writesClosing_22 ?_
    refine g_iconst (v := 1) B dX10_writesClosing_23 (by decide) ?_
    replace h := bnP_s h
    obtain ⟨x15, h16, h⟩ := h
    refine g_callVs0 (st := []) B (cX10_ofClausec h16) (Nat.le_of_ble_eq_true rfl) rfl rfl mi_X10_ofClause lk_RX10_145 ⟨Nat.le_of_ble_eq_true rfl, Nat.le_of_ble_eq_true rfl⟩ rfl rfl (Nat.le_of_ble_eq_true rfl) dX10_writesClosing_24 (Nat.zero_le _) (Nat.zero_le _) ?_
    refine g_iload_n B 2 dX10_writesClosing_27 rfl rfl ?_
    refine g_icmp_eq B 34 dX10_writesClosing_28 (by decide) (fun hc => ?_) (fun hc => ?_)
    · replace h := ifp hc h
      refine g_aload_n B 0 dX10_writesClosing_34 rfl rfl ?_
      replace h := bnP_s h
      obtain ⟨s19, h18, h⟩ := h
      refine g_callVv0 (st := []) B (cX10_writesBlankc h18) (Nat.le_of_ble_eq_true rfl) rfl rfl mi_X10_writesBlank lk_RX10_512 ⟨Nat.le_of_ble_eq_true rfl, Nat.le_of_ble_eq_true rfl⟩ rfl rfl (Nat.le_of_ble_eq_true rfl) dX10_writesClosing_35 (Nat.zero_le _) (Nat.zero_le _) ?_
      refine g_aload_n B 0 dX10_writesClosing_38 rfl rfl ?_
      refine g_bipush (v := 41) B dX10_writesClosing_39 (by decide) ?_
      replace h := bnP_s h
      obtain ⟨s22, h21, h⟩ := h
      refine g_callVv0 (st := []) B (cX10_writesBytec h21) (Nat.le_of_ble_eq_true rfl) rfl rfl mi_X10_writesByte lk_RX10_509 ⟨Nat.le_of_ble_eq_true rfl, Nat.le_of_ble_eq_true rfl⟩ rfl rfl (Nat.le_of_ble_eq_true rfl) dX10_writesClosing_41 (Nat.zero_le _) (Nat.zero_le _) ?_
      refine g_iinc (v := (q1 + 1)) B 3 dX10_writesClosing_44 rfl (by first | rfl | (congr 1; decide)) (Nat.le_of_ble_eq_true rfl) (s1_c (f1_k rfl (f1_k rfl (f1_1 rfl rfl (f1_x f1_n))))) ?_
      refine g_goto B 2 dX10_writesClosing_47 (by decide) ?_
      obtain ⟨w1, w2⟩ := inS h
      clear h
      subst w1
      subst w2
      exact g_sub [1, 2, 3, 0] rfl (hI6 _ rfl)
    · replace h := ifn hc h
      refine g_goto B 44 dX10_writesClosing_31 (by decide) ?_
      refine g_iinc (v := (q1 + 1)) B 3 dX10_writesClosing_44 rfl (by first | rfl | (congr 1; decide)) (Nat.le_of_ble_eq_true rfl) (s1_c (f1_k rfl (f1_k rfl (f1_1 rfl rfl (f1_x f1_n))))) ?_
      refine g_goto B 2 dX10_writesClosing_47 (by decide) ?_
      obtain ⟨w1, w2⟩ := inS h
      clear h
      subst w1
      subst w2
      exact g_sub [1, 2, 3, 0] rfl (hI6 _ rfl)
set_option maxRecDepth 100000 in
set_option maxHeartbeats 4000000 in
theorem cX10_writesWordc {l : Launch} {v0 : Option Nat} {v1 : Int32} {v2 : Int32} {σ : HpT} {σ' : HpT} (h : fX10_writesWord v0 v1 v2 σ = some σ') : IsK σ v0 10 ∧ Ct l yX10_writesWord cX10_writesWord 3 none 7 154 [va_rf v0, .int v1, .int v2] σ (.ok none) σ' 0 0 := by
  unfold fX10_writesWord at h
  replace h := bnP_s h
  obtain ⟨u, hk, h⟩ := h
  replace hk := isK_s hk
  refine ⟨hk, ?_⟩
  refine ct_start mi_X10_writesWord.1 rfl (al_le (al_1 (rf_cat _) (al_1 rfl (al_1 rfl al_n))) (Nat.le_of_ble_eq_true rfl)) (ag_1 (rf_cat _) (ag_1 rfl (ag_1 rfl ag_n))) (fun Δ Γ B hE hnm => ?_)
  refine g_aload_n B 0 dX10_writesWord_0 rfl rfl ?_
  replace h := bnP_s h
  obtain ⟨s3, h2, h⟩ := h
  refine g_callVv0 (st := []) B (cX10_writesBlankc h2) (Nat.le_of_ble_eq_true rfl) rfl rfl mi_X10_writesBlank lk_RX10_512 ⟨Nat.le_of_ble_eq_true rfl, Nat.le_of_ble_eq_true rfl⟩ rfl rfl (Nat.le_of_ble_eq_true rfl) dX10_writesWord_1 (Nat.zero_le _) (Nat.zero_le _) ?_
  refine g_aload_n B 0 dX10_writesWord_4 rfl rfl ?_
  refine g_iload_n B 1 dX10_writesWord_5 rfl rfl ?_
  replace h := bnP_s h
  obtain ⟨x4, h5, h⟩ := h
  refine g_callVs0 (st := []) B (cX10_isKnownc h5) (Nat.le_of_ble_eq_true rfl) rfl rfl mi_X10_isKnown lk_RX10_374 ⟨Nat.le_of_ble_eq_true rfl, Nat.le_of_ble_eq_true rfl⟩ rfl rfl (Nat.le_of_ble_eq_true rfl) dX10_writesWord_6 (Nat.zero_le _) (Nat.zero_le _) ?_
  refine g_if_ne B 19 dX10_writesWord_9 (by decide) (fun hc => ?_) (fun hc => ?_)
  · replace h := ifp (bI1 hc) h
    refine g_iload_n B 2 dX10_writesWord_19 rfl rfl ?_
    replace h := bnS_s h
    obtain ⟨j6, s16, h7, h⟩ := h
    have k9 : GW Δ Γ (0) (0) 37 [(0, va_rf v0), (1, .int v1)] [] s16 := by
      refine g_aload_n B 0 dX10_writesWord_37 rfl rfl ?_
      refine g_bipush (v := 127) B dX10_writesWord_38 (by decide) ?_
      refine g_bipush (v := 13) B dX10_writesWord_40 (by decide) ?_
      refine g_iload_n B 1 dX10_writesWord_42 rfl rfl ?_
      refine g_imul B dX10_writesWord_43 ?_
      refine g_iadd B dX10_writesWord_44 ?_
      replace h := bnP_s h
      obtain ⟨s19, h18, h⟩ := h
      refine g_callVv0 (st := []) B (cX10_writesLettersc h18) (Nat.le_of_ble_eq_true rfl) rfl rfl mi_X10_writesLetters lk_RX10_515 ⟨Nat.le_of_ble_eq_true rfl, Nat.le_of_ble_eq_true rfl⟩ rfl rfl (Nat.le_of_ble_eq_true rfl) dX10_writesWord_45 (Nat.zero_le _) (Nat.zero_le _) ?_
      replace h := Option.some.inj h
      subst h
      exact g_vret B hE (Nat.zero_le _) (Nat.zero_le _) dX10_writesWord_48
    clear h
    have h := h7
    clear h7
    refine g_if_eq B 37 dX10_writesWord_20 (by decide) (fun hc => ?_) (fun hc => ?_)
    · replace h := ifp hc h
      obtain ⟨w1, w2⟩ := inS h
      clear h
      subst w1
      subst w2
      exact g_sub [0, 1] rfl k9
    · replace h := ifn hc h
      refine g_aload_n B 0 dX10_writesWord_23 rfl rfl ?_
      refine g_iload_n B 1 dX10_writesWord_24 rfl rfl ?_
      replace h := bnP_s h
      obtain ⟨x11, h12, h⟩ := h
      refine g_callVs0 (st := []) B (cX10_standsc h12) (Nat.le_of_ble_eq_true rfl) rfl rfl mi_X10_stands lk_RX10_330 ⟨Nat.le_of_ble_eq_true rfl, Nat.le_of_ble_eq_true rfl⟩ rfl rfl (Nat.le_of_ble_eq_true rfl) dX10_writesWord_25 (Nat.zero_le _) (Nat.zero_le _) ?_
      refine g_if_ne B 37 dX10_writesWord_28 (by decide) (fun hc => ?_) (fun hc => ?_)
      · replace h := ifp (bI1 hc) h
        obtain ⟨w1, w2⟩ := inS h
        clear h
        subst w1
        subst w2
        exact g_sub [0, 1] rfl k9
      · replace h := ifn (bI0 hc) h
        refine g_aload_n B 0 dX10_writesWord_31 rfl rfl ?_
        refine g_bipush (v := 45) B dX10_writesWord_32 (by decide) ?_
        replace h := bnP_s h
        obtain ⟨s15, h14, h⟩ := h
        refine g_callVv0 (st := []) B (cX10_writesBytec h14) (Nat.le_of_ble_eq_true rfl) rfl rfl mi_X10_writesByte lk_RX10_509 ⟨Nat.le_of_ble_eq_true rfl, Nat.le_of_ble_eq_true rfl⟩ rfl rfl (Nat.le_of_ble_eq_true rfl) dX10_writesWord_34 (Nat.zero_le _) (Nat.zero_le _) ?_
        obtain ⟨w1, w2⟩ := inS h
        clear h
        subst w1
        subst w2
        exact g_sub [0, 1] rfl k9
  · replace h := ifn (bI0 hc) h
    refine g_aload_n B 0 dX10_writesWord_12 rfl rfl ?_
    refine g_bipush (v := 63) B dX10_writesWord_13 (by decide) ?_
    replace h := bnP_s h
    obtain ⟨s22, h21, h⟩ := h
    refine g_callVv0 (st := []) B (cX10_writesBytec h21) (Nat.le_of_ble_eq_true rfl) rfl rfl mi_X10_writesByte lk_RX10_509 ⟨Nat.le_of_ble_eq_true rfl, Nat.le_of_ble_eq_true rfl⟩ rfl rfl (Nat.le_of_ble_eq_true rfl) dX10_writesWord_15 (Nat.zero_le _) (Nat.zero_le _) ?_
    replace h := Option.some.inj h
    subst h
    exact g_vret B hE (Nat.zero_le _) (Nat.zero_le _) dX10_writesWord_18
set_option maxRecDepth 100000 in
set_option maxHeartbeats 4000000 in
theorem cX10_writeActc {l : Launch} {v0 : Option Nat} {v1 : Int32} {σ : HpT} {r : Int32} {σ' : HpT} (h : fX10_writeAct v0 v1 σ = some (r, σ')) : IsK σ v0 10 ∧ Ct l yX10_writeAct cX10_writeAct 3 (some .int) 8 176 [va_rf v0, .int v1] σ (.ok (some (.int r))) σ' 0 0 := by
  unfold fX10_writeAct at h
  replace h := bnP_s h
  obtain ⟨u, hk, h⟩ := h
  replace hk := isK_s hk
  refine ⟨hk, ?_⟩
  refine ct_start mi_X10_writeAct.1 rfl (al_le (al_1 (rf_cat _) (al_1 rfl al_n)) (Nat.le_of_ble_eq_true rfl)) (ag_1 (rf_cat _) (ag_1 rfl ag_n)) (fun Δ Γ B hE hnm => ?_)
  refine g_aload_n B 0 dX10_writeAct_0 rfl rfl ?_
  refine g_iload_n B 1 dX10_writeAct_1 rfl rfl ?_
  replace h := bnS_s h
  obtain ⟨x1, s3, h2, h⟩ := h
  refine g_callVs0 (st := []) B (cX10_mayActc h2) (Nat.le_of_ble_eq_true rfl) rfl rfl mi_X10_mayAct lk_RX10_455 ⟨Nat.le_of_ble_eq_true rfl, Nat.le_of_ble_eq_true rfl⟩ rfl rfl (Nat.le_of_ble_eq_true rfl) dX10_writeAct_2 (Nat.zero_le _) (Nat.zero_le _) ?_
  refine g_if_ne B 10 dX10_writeAct_5 (by decide) (fun hc => ?_) (fun hc => ?_)
  · replace h := ifp (bI1 hc) h
    refine g_aload_n B 0 dX10_writeAct_10 rfl rfl ?_
    refine g_iconst (v := 0) B dX10_writeAct_11 (by decide) ?_
    replace h := bnP_s h
    obtain ⟨s6, h5, h⟩ := h
    refine g_putI B fl_RX10_506 (by decide) dX10_writeAct_12 h5 ?_
    refine g_aload_n B 0 dX10_writeAct_15 rfl rfl ?_
    refine g_iload_n B 1 dX10_writeAct_16 rfl rfl ?_
    refine g_iconst (v := 1) B dX10_writeAct_17 (by decide) ?_
    refine g_isub B dX10_writeAct_18 ?_
    refine g_iconst (v := 5) B dX10_writeAct_19 (by decide) ?_
    replace h := bnP_s h
    obtain ⟨x7, h8, h⟩ := h
    refine g_callVs0 (st := []) B (cX10_ofActc h8) (Nat.le_of_ble_eq_true rfl) rfl rfl mi_X10_ofAct lk_RX10_138 ⟨Nat.le_of_ble_eq_true rfl, Nat.le_of_ble_eq_true rfl⟩ rfl rfl (Nat.le_of_ble_eq_true rfl) dX10_writeAct_20 (Nat.zero_le _) (Nat.zero_le _) ?_
    refine g_istore_n B dX10_writeAct_23 rfl (Nat.le_of_ble_eq_true rfl) (s1_c (f1_k rfl (f1_1 rfl rfl f1_n))) ?_
    replace h := bnS_s h
    obtain ⟨r10, s33, h11, h⟩ := h
    have kE12 : GW Δ Γ (0) (0) 70 [(0, va_rf v0)] [] s33 := by
      refine g_aload_n B 0 dX10_writeAct_70 rfl rfl ?_
      replace h := bnP_s h
      obtain ⟨x34, h35, h⟩ := h
      refine g_getI B fl_RX10_506 (by decide) dX10_writeAct_71 h35 ?_
      obtain ⟨w1, w2⟩ := inS h
      clear h
      subst w1
      subst w2
      exact g_iret B hE (Nat.zero_le _) (Nat.zero_le _) dX10_writeAct_74
    clear h
    refine g_sub [1, 2, 0] rfl ?_
    refine lpS_w (I := fun q9 s18 => GW Δ Γ (0) (0) 24 [(0, va_rf v0), (1, .int v1), (2, .int q9)] [] s18) (r := r10) (σr := s33) ?_ FUEL x7 s6 h11
    intro q9 s18 x16 s9 h hI14 hR15
    unfold fX10_writeAct_l1 at h
    refine g_iload_n B 2 dX10_writeAct_24 rfl rfl ?_
    refine g_aload_n B 0 dX10_writeAct_25 rfl rfl ?_
    refine g_iload_n B 1 dX10_writeAct_26 rfl rfl ?_
    refine g_iconst (v := 1) B dX10_writeAct_27 (by decide) ?_
    refine g_isub B dX10_writeAct_28 ?_
    replace h := bnP_s h
    obtain ⟨x19, h20, h⟩ := h
    refine g_callVs0 (st := [.int q9]) B (cX10_lastOfc h20) (Nat.le_of_ble_eq_true rfl) rfl rfl mi_X10_lastOf lk_RX10_327 ⟨Nat.le_of_ble_eq_true rfl, Nat.le_of_ble_eq_true rfl⟩ rfl rfl (Nat.le_of_ble_eq_true rfl) dX10_writeAct_29 (Nat.zero_le _) (Nat.zero_le _) ?_
    refine g_icmp_gt B 70 dX10_writeAct_32 (by decide) (fun hc => ?_) (fun hc => ?_)
    · replace h := ifp hc h
      obtain ⟨w1, w2⟩ := inS h
      clear h
      subst w1
      subst w2
      obtain ⟨e8, e7⟩ := hR15 _ rfl
      subst e8
      subst e7
      exact g_sub [0] rfl kE12
    · replace h := ifn hc h
      refine g_aload_n B 0 dX10_writeAct_35 rfl rfl ?_
      refine g_iload_n B 1 dX10_writeAct_36 rfl rfl ?_
      refine g_iconst (v := 1) B dX10_writeAct_37 (by decide) ?_
      refine g_isub B dX10_writeAct_38 ?_
      refine g_iload_n B 2 dX10_writeAct_39 rfl rfl ?_
      replace h := bnP_s h
      obtain ⟨s23, h22, h⟩ := h
      refine g_callVv0 (st := []) B (cX10_writesOpeningc h22) (Nat.le_of_ble_eq_true rfl) rfl rfl mi_X10_writesOpening lk_RX10_518 ⟨Nat.le_of_ble_eq_true rfl, Nat.le_of_ble_eq_true rfl⟩ rfl rfl (Nat.le_of_ble_eq_true rfl) dX10_writeAct_40 (Nat.zero_le _) (Nat.zero_le _) ?_
      refine g_aload_n B 0 dX10_writeAct_43 rfl rfl ?_
      refine g_iload_n B 2 dX10_writeAct_44 rfl rfl ?_
      refine g_iconst (v := 1) B dX10_writeAct_45 (by decide) ?_
      replace h := bnP_s h
      obtain ⟨s26, h25, h⟩ := h
      refine g_callVv0 (st := []) B (cX10_writesWordc h25) (Nat.le_of_ble_eq_true rfl) rfl rfl mi_X10_writesWord lk_RX10_521 ⟨Nat.le_of_ble_eq_true rfl, Nat.le_of_ble_eq_true rfl⟩ rfl rfl (Nat.le_of_ble_eq_true rfl) dX10_writeAct_46 (Nat.zero_le _) (Nat.zero_le _) ?_
      refine g_aload_n B 0 dX10_writeAct_49 rfl rfl ?_
      refine g_iload_n B 2 dX10_writeAct_50 rfl rfl ?_
      refine g_bipush (v := 94) B dX10_writeAct_51 (by decide) ?_
      replace h := bnP_s h
      obtain ⟨s29, h28, h⟩ := h
      refine g_callVv0 (st := []) B (cX10_writesInnerc h28) (Nat.le_of_ble_eq_true rfl) rfl rfl mi_X10_writesInner lk_RX10_525 ⟨Nat.le_of_ble_eq_true rfl, Nat.le_of_ble_eq_true rfl⟩ rfl rfl (Nat.le_of_ble_eq_true rfl) dX10_writeAct_53 (Nat.zero_le _) (Nat.zero_le _) ?_
      refine g_aload_n B 0 dX10_writeAct_56 rfl rfl ?_
      refine g_iload_n B 1 dX10_writeAct_57 rfl rfl ?_
      refine g_iconst (v := 1) B dX10_writeAct_58 (by decide) ?_
      refine g_isub B dX10_writeAct_59 ?_
      refine g_iload_n B 2 dX10_writeAct_60 rfl rfl ?_
      replace h := bnP_s h
      obtain ⟨s32, h31, h⟩ := h
      refine g_callVv0 (st := []) B (cX10_writesClosingc h31) (Nat.le_of_ble_eq_true rfl) rfl rfl mi_X10_writesClosing lk_RX10_528 ⟨Nat.le_of_ble_eq_true rfl, Nat.le_of_ble_eq_true rfl⟩ rfl rfl (Nat.le_of_ble_eq_true rfl) dX10_writeAct_61 (Nat.zero_le _) (Nat.zero_le _) ?_
      refine g_iinc (v := (q9 + 1)) B 2 dX10_writeAct_64 rfl (by first | rfl | (congr 1; decide)) (Nat.le_of_ble_eq_true rfl) (s1_c (f1_k rfl (f1_1 rfl rfl (f1_x f1_n)))) ?_
      refine g_goto B 24 dX10_writeAct_67 (by decide) ?_
      obtain ⟨w1, w2⟩ := inS h
      clear h
      subst w1
      subst w2
      exact g_sub [1, 2, 0] rfl (hI14 _ rfl)
  · replace h := ifn (bI0 hc) h
    refine g_iconst (v := 0) B dX10_writeAct_8 (by decide) ?_
    obtain ⟨w1, w2⟩ := inS h
    clear h
    subst w1
    subst w2
    exact g_iret B hE (Nat.zero_le _) (Nat.zero_le _) dX10_writeAct_9
set_option maxRecDepth 100000 in
set_option maxHeartbeats 4000000 in
theorem cX10_writtenc {l : Launch} {v0 : Option Nat} {σ : HpT} {r : Int32} {σ' : HpT} (h : fX10_written v0 σ = some (r, σ')) : IsK σ v0 10 ∧ Ct l yX10_written cX10_written 1 (some .int) 1 21 [va_rf v0] σ (.ok (some (.int r))) σ' 0 0 := by
  unfold fX10_written at h
  replace h := bnP_s h
  obtain ⟨u, hk, h⟩ := h
  replace hk := isK_s hk
  refine ⟨hk, ?_⟩
  refine ct_start mi_X10_written.1 rfl (al_le (al_1 (rf_cat _) al_n) (Nat.le_of_ble_eq_true rfl)) (ag_1 (rf_cat _) ag_n) (fun Δ Γ B hE hnm => ?_)
  refine g_aload_n B 0 dX10_written_0 rfl rfl ?_
  replace h := bnP_s h
  obtain ⟨x1, h2, h⟩ := h
  refine g_getI B fl_RX10_506 (by decide) dX10_written_1 h2 ?_
  replace h := bnS_s h
  obtain ⟨j3, s11, h4, h⟩ := h
  have k6 : GW Δ Γ (0) (0) 13 [(0, va_rf v0)] [] s11 := by
    refine g_aload_n B 0 dX10_written_13 rfl rfl ?_
    replace h := bnP_s h
    obtain ⟨x12, h13, h⟩ := h
    refine g_getI B fl_RX10_506 (by decide) dX10_written_14 h13 ?_
    obtain ⟨w1, w2⟩ := inS h
    clear h
    subst w1
    subst w2
    exact g_iret B hE (Nat.zero_le _) (Nat.zero_le _) dX10_written_17
  clear h
  have h := h4
  clear h4
  refine g_if_ne B 13 dX10_written_4 (by decide) (fun hc => ?_) (fun hc => ?_)
  · replace h := ifn hc h
    obtain ⟨w1, w2⟩ := inS h
    clear h
    subst w1
    subst w2
    exact g_sub [0] rfl k6
  · replace h := ifp hc h
    refine g_aload_n B 0 dX10_written_7 rfl rfl ?_
    refine g_bipush (v := 46) B dX10_written_8 (by decide) ?_
    replace h := bnP_s h
    obtain ⟨s10, h9, h⟩ := h
    refine g_callVv0 (st := []) B (cX10_writesBytec h9) (Nat.le_of_ble_eq_true rfl) rfl rfl mi_X10_writesByte lk_RX10_509 ⟨Nat.le_of_ble_eq_true rfl, Nat.le_of_ble_eq_true rfl⟩ rfl rfl (Nat.le_of_ble_eq_true rfl) dX10_written_10 (Nat.zero_le _) (Nat.zero_le _) ?_
    obtain ⟨w1, w2⟩ := inS h
    clear h
    subst w1
    subst w2
    exact g_sub [0] rfl k6
set_option maxRecDepth 100000 in
set_option maxHeartbeats 4000000 in
theorem cX10_writeStandingc {l : Launch} {v0 : Option Nat} {v1 : Int32} {σ : HpT} {r : Int32} {σ' : HpT} (h : fX10_writeStanding v0 v1 σ = some (r, σ')) : IsK σ v0 10 ∧ Ct l yX10_writeStanding cX10_writeStanding 3 (some .int) 8 176 [va_rf v0, .int v1] σ (.ok (some (.int r))) σ' 0 0 := by
  unfold fX10_writeStanding at h
  replace h := bnP_s h
  obtain ⟨u, hk, h⟩ := h
  replace hk := isK_s hk
  refine ⟨hk, ?_⟩
  refine ct_start mi_X10_writeStanding.1 rfl (al_le (al_1 (rf_cat _) (al_1 rfl al_n)) (Nat.le_of_ble_eq_true rfl)) (ag_1 (rf_cat _) (ag_1 rfl ag_n)) (fun Δ Γ B hE hnm => ?_)
  refine g_aload_n B 0 dX10_writeStanding_0 rfl rfl ?_
  refine g_iload_n B 1 dX10_writeStanding_1 rfl rfl ?_
  replace h := bnS_s h
  obtain ⟨x1, s3, h2, h⟩ := h
  refine g_callVs0 (st := []) B (cX10_mayActc h2) (Nat.le_of_ble_eq_true rfl) rfl rfl mi_X10_mayAct lk_RX10_455 ⟨Nat.le_of_ble_eq_true rfl, Nat.le_of_ble_eq_true rfl⟩ rfl rfl (Nat.le_of_ble_eq_true rfl) dX10_writeStanding_2 (Nat.zero_le _) (Nat.zero_le _) ?_
  refine g_if_ne B 10 dX10_writeStanding_5 (by decide) (fun hc => ?_) (fun hc => ?_)
  · replace h := ifp (bI1 hc) h
    refine g_aload_n B 0 dX10_writeStanding_10 rfl rfl ?_
    refine g_iconst (v := 0) B dX10_writeStanding_11 (by decide) ?_
    replace h := bnP_s h
    obtain ⟨s6, h5, h⟩ := h
    refine g_putI B fl_RX10_506 (by decide) dX10_writeStanding_12 h5 ?_
    refine g_aload_n B 0 dX10_writeStanding_15 rfl rfl ?_
    refine g_iload_n B 1 dX10_writeStanding_16 rfl rfl ?_
    refine g_iconst (v := 1) B dX10_writeStanding_17 (by decide) ?_
    refine g_isub B dX10_writeStanding_18 ?_
    refine g_iconst (v := 5) B dX10_writeStanding_19 (by decide) ?_
    replace h := bnP_s h
    obtain ⟨x7, h8, h⟩ := h
    refine g_callVs0 (st := []) B (cX10_ofActc h8) (Nat.le_of_ble_eq_true rfl) rfl rfl mi_X10_ofAct lk_RX10_138 ⟨Nat.le_of_ble_eq_true rfl, Nat.le_of_ble_eq_true rfl⟩ rfl rfl (Nat.le_of_ble_eq_true rfl) dX10_writeStanding_20 (Nat.zero_le _) (Nat.zero_le _) ?_
    refine g_istore_n B dX10_writeStanding_23 rfl (Nat.le_of_ble_eq_true rfl) (s1_c (f1_k rfl (f1_1 rfl rfl f1_n))) ?_
    replace h := bnS_s h
    obtain ⟨r10, s35, h11, h⟩ := h
    have kE12 : GW Δ Γ (0) (0) 61 [(0, va_rf v0)] [] s35 := by
      refine g_aload_n B 0 dX10_writeStanding_61 rfl rfl ?_
      replace h := bnS_s h
      obtain ⟨x36, s38, h37, h⟩ := h
      refine g_callVs0 (st := []) B (cX10_writtenc h37) (Nat.le_of_ble_eq_true rfl) rfl rfl mi_X10_written lk_RX10_531 ⟨Nat.le_of_ble_eq_true rfl, Nat.le_of_ble_eq_true rfl⟩ rfl rfl (Nat.le_of_ble_eq_true rfl) dX10_writeStanding_62 (Nat.zero_le _) (Nat.zero_le _) ?_
      obtain ⟨w1, w2⟩ := inS h
      clear h
      subst w1
      subst w2
      exact g_iret B hE (Nat.zero_le _) (Nat.zero_le _) dX10_writeStanding_65
    clear h
    refine g_sub [1, 2, 0] rfl ?_
    refine lpS_w (I := fun q9 s18 => GW Δ Γ (0) (0) 24 [(0, va_rf v0), (1, .int v1), (2, .int q9)] [] s18) (r := r10) (σr := s35) ?_ FUEL x7 s6 h11
    intro q9 s18 x16 s9 h hI14 hR15
    unfold fX10_writeStanding_l1 at h
    refine g_iload_n B 2 dX10_writeStanding_24 rfl rfl ?_
    refine g_aload_n B 0 dX10_writeStanding_25 rfl rfl ?_
    refine g_iload_n B 1 dX10_writeStanding_26 rfl rfl ?_
    refine g_iconst (v := 1) B dX10_writeStanding_27 (by decide) ?_
    refine g_isub B dX10_writeStanding_28 ?_
    replace h := bnP_s h
    obtain ⟨x19, h20, h⟩ := h
    refine g_callVs0 (st := [.int q9]) B (cX10_lastOfc h20) (Nat.le_of_ble_eq_true rfl) rfl rfl mi_X10_lastOf lk_RX10_327 ⟨Nat.le_of_ble_eq_true rfl, Nat.le_of_ble_eq_true rfl⟩ rfl rfl (Nat.le_of_ble_eq_true rfl) dX10_writeStanding_29 (Nat.zero_le _) (Nat.zero_le _) ?_
    refine g_icmp_gt B 61 dX10_writeStanding_32 (by decide) (fun hc => ?_) (fun hc => ?_)
    · replace h := ifp hc h
      obtain ⟨w1, w2⟩ := inS h
      clear h
      subst w1
      subst w2
      obtain ⟨e8, e7⟩ := hR15 _ rfl
      subst e8
      subst e7
      exact g_sub [0] rfl kE12
    · replace h := ifn hc h
      refine g_aload_n B 0 dX10_writeStanding_35 rfl rfl ?_
      refine g_iload_n B 2 dX10_writeStanding_36 rfl rfl ?_
      replace h := bnP_s h
      obtain ⟨x21, h22, h⟩ := h
      refine g_callVs0 (st := []) B (cX10_standsc h22) (Nat.le_of_ble_eq_true rfl) rfl rfl mi_X10_stands lk_RX10_330 ⟨Nat.le_of_ble_eq_true rfl, Nat.le_of_ble_eq_true rfl⟩ rfl rfl (Nat.le_of_ble_eq_true rfl) dX10_writeStanding_37 (Nat.zero_le _) (Nat.zero_le _) ?_
      replace h := bnS_s h
      obtain ⟨j23, s31, h24, h⟩ := h
      have k26 : GW Δ Γ (0) (0) 49 [(0, va_rf v0), (1, .int v1), (2, .int q9)] [] s31 := by
        refine g_aload_n B 0 dX10_writeStanding_49 rfl rfl ?_
        refine g_iload_n B 2 dX10_writeStanding_50 rfl rfl ?_
        refine g_iconst (v := 0) B dX10_writeStanding_51 (by decide) ?_
        replace h := bnP_s h
        obtain ⟨s34, h33, h⟩ := h
        refine g_callVv0 (st := []) B (cX10_writesInnerc h33) (Nat.le_of_ble_eq_true rfl) rfl rfl mi_X10_writesInner lk_RX10_525 ⟨Nat.le_of_ble_eq_true rfl, Nat.le_of_ble_eq_true rfl⟩ rfl rfl (Nat.le_of_ble_eq_true rfl) dX10_writeStanding_52 (Nat.zero_le _) (Nat.zero_le _) ?_
        refine g_iinc (v := (q9 + 1)) B 2 dX10_writeStanding_55 rfl (by first | rfl | (congr 1; decide)) (Nat.le_of_ble_eq_true rfl) (s1_c (f1_k rfl (f1_1 rfl rfl (f1_x f1_n)))) ?_
        refine g_goto B 24 dX10_writeStanding_58 (by decide) ?_
        obtain ⟨w1, w2⟩ := inS h
        clear h
        subst w1
        subst w2
        exact g_sub [1, 2, 0] rfl (hI14 _ rfl)
      clear h
      have h := h24
      clear h24
      refine g_if_eq B 49 dX10_writeStanding_40 (by decide) (fun hc => ?_) (fun hc => ?_)
      · replace h := ifn (bI0 hc) h
        obtain ⟨w1, w2⟩ := inS h
        clear h
        subst w1
        subst w2
        exact g_sub [0, 1, 2] rfl k26
      · replace h := ifp (bI1 hc) h
        refine g_aload_n B 0 dX10_writeStanding_43 rfl rfl ?_
        refine g_iload_n B 2 dX10_writeStanding_44 rfl rfl ?_
        refine g_iconst (v := 0) B dX10_writeStanding_45 (by decide) ?_
        replace h := bnP_s h
        obtain ⟨s30, h29, h⟩ := h
        refine g_callVv0 (st := []) B (cX10_writesWordc h29) (Nat.le_of_ble_eq_true rfl) rfl rfl mi_X10_writesWord lk_RX10_521 ⟨Nat.le_of_ble_eq_true rfl, Nat.le_of_ble_eq_true rfl⟩ rfl rfl (Nat.le_of_ble_eq_true rfl) dX10_writeStanding_46 (Nat.zero_le _) (Nat.zero_le _) ?_
        obtain ⟨w1, w2⟩ := inS h
        clear h
        subst w1
        subst w2
        exact g_sub [0, 1, 2] rfl k26
  · replace h := ifn (bI0 hc) h
    refine g_iconst (v := 0) B dX10_writeStanding_8 (by decide) ?_
    obtain ⟨w1, w2⟩ := inS h
    clear h
    subst w1
    subst w2
    exact g_iret B hE (Nat.zero_le _) (Nat.zero_le _) dX10_writeStanding_9
set_option maxRecDepth 100000 in
set_option maxHeartbeats 4000000 in
theorem cX10_writesNumberc {l : Launch} {v0 : Option Nat} {v1 : Int32} {σ : HpT} {σ' : HpT} (h : fX10_writesNumber v0 v1 σ = some σ') : IsK σ v0 10 ∧ Ct l yX10_writesNumber cX10_writesNumber 2 none 1 21 [va_rf v0, .int v1] σ (.ok none) σ' 0 0 := by
  unfold fX10_writesNumber at h
  replace h := bnP_s h
  obtain ⟨u, hk, h⟩ := h
  replace hk := isK_s hk
  refine ⟨hk, ?_⟩
  refine ct_start mi_X10_writesNumber.1 rfl (al_le (al_1 (rf_cat _) (al_1 rfl al_n)) (Nat.le_of_ble_eq_true rfl)) (ag_1 (rf_cat _) (ag_1 rfl ag_n)) (fun Δ Γ B hE hnm => ?_)
  refine g_iload_n B 1 dX10_writesNumber_0 rfl rfl ?_
  refine g_bipush (v := 9) B dX10_writesNumber_1 (by decide) ?_
  replace h := bnS_s h
  obtain ⟨j1, s9, h2, h⟩ := h
  have k4 : GW Δ Γ (0) (0) 17 [(0, va_rf v0), (1, .int v1)] [] s9 := by
    refine g_aload_n B 0 dX10_writesNumber_17 rfl rfl ?_
    refine g_bipush (v := 48) B dX10_writesNumber_18 (by decide) ?_
    refine g_iload_n B 1 dX10_writesNumber_20 rfl rfl ?_
    refine g_bipush (v := 10) B dX10_writesNumber_21 (by decide) ?_
    refine g_irem B dX10_writesNumber_23 (by decide) ?_
    refine g_iadd B dX10_writesNumber_24 ?_
    replace h := bnP_s h
    obtain ⟨s12, h11, h⟩ := h
    refine g_callVv0 (st := []) B (cX10_writesBytec h11) (Nat.le_of_ble_eq_true rfl) rfl rfl mi_X10_writesByte lk_RX10_509 ⟨Nat.le_of_ble_eq_true rfl, Nat.le_of_ble_eq_true rfl⟩ rfl rfl (Nat.le_of_ble_eq_true rfl) dX10_writesNumber_25 (Nat.zero_le _) (Nat.zero_le _) ?_
    replace h := Option.some.inj h
    subst h
    exact g_vret B hE (Nat.zero_le _) (Nat.zero_le _) dX10_writesNumber_28
  clear h
  have h := h2
  clear h2
  refine g_icmp_le B 17 dX10_writesNumber_3 (by decide) (fun hc => ?_) (fun hc => ?_)
  · replace h := ifp hc h
    obtain ⟨w1, w2⟩ := inS h
    clear h
    subst w1
    subst w2
    exact g_sub [0, 1] rfl k4
  · replace h := ifn hc h
    refine g_aload_n B 0 dX10_writesNumber_6 rfl rfl ?_
    refine g_bipush (v := 48) B dX10_writesNumber_7 (by decide) ?_
    refine g_iload_n B 1 dX10_writesNumber_9 rfl rfl ?_
    refine g_bipush (v := 10) B dX10_writesNumber_10 (by decide) ?_
    refine g_idiv B dX10_writesNumber_12 (by decide) ?_
    refine g_iadd B dX10_writesNumber_13 ?_
    replace h := bnP_s h
    obtain ⟨s8, h7, h⟩ := h
    refine g_callVv0 (st := []) B (cX10_writesBytec h7) (Nat.le_of_ble_eq_true rfl) rfl rfl mi_X10_writesByte lk_RX10_509 ⟨Nat.le_of_ble_eq_true rfl, Nat.le_of_ble_eq_true rfl⟩ rfl rfl (Nat.le_of_ble_eq_true rfl) dX10_writesNumber_14 (Nat.zero_le _) (Nat.zero_le _) ?_
    obtain ⟨w1, w2⟩ := inS h
    clear h
    subst w1
    subst w2
    exact g_sub [0, 1] rfl k4
set_option maxRecDepth 100000 in
set_option maxHeartbeats 4000000 in
theorem cX10_writesOnLeafc {l : Launch} {v0 : Option Nat} {v1 : Int32} {σ : HpT} {σ' : HpT} (h : fX10_writesOnLeaf v0 v1 σ = some σ') : IsK σ v0 10 ∧ Ct l yX10_writesOnLeaf cX10_writesOnLeaf 3 none 3 67 [va_rf v0, .int v1] σ (.ok none) σ' 0 0 := by
  unfold fX10_writesOnLeaf at h
  replace h := bnP_s h
  obtain ⟨u, hk, h⟩ := h
  replace hk := isK_s hk
  refine ⟨hk, ?_⟩
  refine ct_start mi_X10_writesOnLeaf.1 rfl (al_le (al_1 (rf_cat _) (al_1 rfl al_n)) (Nat.le_of_ble_eq_true rfl)) (ag_1 (rf_cat _) (ag_1 rfl ag_n)) (fun Δ Γ B hE hnm => ?_)
  refine g_aload_n B 0 dX10_writesOnLeaf_0 rfl rfl ?_
  replace h := bnP_s h
  obtain ⟨s3, h2, h⟩ := h
  refine g_callVv0 (st := []) B (cX10_writesBlankc h2) (Nat.le_of_ble_eq_true rfl) rfl rfl mi_X10_writesBlank lk_RX10_512 ⟨Nat.le_of_ble_eq_true rfl, Nat.le_of_ble_eq_true rfl⟩ rfl rfl (Nat.le_of_ble_eq_true rfl) dX10_writesOnLeaf_1 (Nat.zero_le _) (Nat.zero_le _) ?_
  refine g_aload_n B 0 dX10_writesOnLeaf_4 rfl rfl ?_
  refine g_iload_n B 1 dX10_writesOnLeaf_5 rfl rfl ?_
  replace h := bnP_s h
  obtain ⟨x4, h5, h⟩ := h
  refine g_callVs0 (st := []) B (cX10_actOfc h5) (Nat.le_of_ble_eq_true rfl) rfl rfl mi_X10_actOf lk_RX10_358 ⟨Nat.le_of_ble_eq_true rfl, Nat.le_of_ble_eq_true rfl⟩ rfl rfl (Nat.le_of_ble_eq_true rfl) dX10_writesOnLeaf_6 (Nat.zero_le _) (Nat.zero_le _) ?_
  refine g_istore_n B dX10_writesOnLeaf_9 rfl (Nat.le_of_ble_eq_true rfl) (s1_c (f1_k rfl (f1_1 rfl rfl f1_n))) ?_
  refine g_aload_n B 1 dX10_writesOnLeaf_10 rfl rfl ?_
  refine g_iload_n B 0 dX10_writesOnLeaf_11 rfl rfl ?_
  refine g_iconst (v := 5) B dX10_writesOnLeaf_12 (by decide) ?_
  replace h := bnP_s h
  obtain ⟨x6, h7, h⟩ := h
  refine g_callVs0 (st := []) B (cX10_ofActc h7) (Nat.le_of_ble_eq_true rfl) rfl rfl mi_X10_ofAct lk_RX10_138 ⟨Nat.le_of_ble_eq_true rfl, Nat.le_of_ble_eq_true rfl⟩ rfl rfl (Nat.le_of_ble_eq_true rfl) dX10_writesOnLeaf_13 (Nat.zero_le _) (Nat.zero_le _) ?_
  refine g_iload_n B 2 dX10_writesOnLeaf_16 rfl rfl ?_
  replace h := bnS_s h
  obtain ⟨j8, s19, h9, h⟩ := h
  have k11 : GW Δ Γ (0) (0) 33 [(0, va_rf v0), (1, .int v1)] [] s19 := by
    refine g_aload_n B 0 dX10_writesOnLeaf_33 rfl rfl ?_
    refine g_bipush (v := 127) B dX10_writesOnLeaf_34 (by decide) ?_
    refine g_bipush (v := 13) B dX10_writesOnLeaf_36 (by decide) ?_
    refine g_iload_n B 1 dX10_writesOnLeaf_38 rfl rfl ?_
    refine g_imul B dX10_writesOnLeaf_39 ?_
    refine g_iadd B dX10_writesOnLeaf_40 ?_
    replace h := bnP_s h
    obtain ⟨s22, h21, h⟩ := h
    refine g_callVv0 (st := []) B (cX10_writesLettersc h21) (Nat.le_of_ble_eq_true rfl) rfl rfl mi_X10_writesLetters lk_RX10_515 ⟨Nat.le_of_ble_eq_true rfl, Nat.le_of_ble_eq_true rfl⟩ rfl rfl (Nat.le_of_ble_eq_true rfl) dX10_writesOnLeaf_41 (Nat.zero_le _) (Nat.zero_le _) ?_
    replace h := Option.some.inj h
    subst h
    exact g_vret B hE (Nat.zero_le _) (Nat.zero_le _) dX10_writesOnLeaf_44
  clear h
  have h := h9
  clear h9
  refine g_icmp_ne B 33 dX10_writesOnLeaf_17 (by decide) (fun hc => ?_) (fun hc => ?_)
  · replace h := ifn hc h
    obtain ⟨w1, w2⟩ := inS h
    clear h
    subst w1
    subst w2
    exact g_sub [1, 2] rfl k11
  · replace h := ifp hc h
    refine g_aload_n B 1 dX10_writesOnLeaf_20 rfl rfl ?_
    refine g_iload_n B 0 dX10_writesOnLeaf_21 rfl rfl ?_
    refine g_iconst (v := 1) B dX10_writesOnLeaf_22 (by decide) ?_
    refine g_iadd B dX10_writesOnLeaf_23 ?_
    replace h := bnP_s h
    obtain ⟨s15, h14, h⟩ := h
    refine g_callVv0 (st := []) B (cX10_writesNumberc h14) (Nat.le_of_ble_eq_true rfl) rfl rfl mi_X10_writesNumber lk_RX10_534 ⟨Nat.le_of_ble_eq_true rfl, Nat.le_of_ble_eq_true rfl⟩ rfl rfl (Nat.le_of_ble_eq_true rfl) dX10_writesOnLeaf_24 (Nat.zero_le _) (Nat.zero_le _) ?_
    refine g_aload_n B 1 dX10_writesOnLeaf_27 rfl rfl ?_
    refine g_bipush (v := 58) B dX10_writesOnLeaf_28 (by decide) ?_
    replace h := bnP_s h
    obtain ⟨s18, h17, h⟩ := h
    refine g_callVv0 (st := []) B (cX10_writesBytec h17) (Nat.le_of_ble_eq_true rfl) rfl rfl mi_X10_writesByte lk_RX10_509 ⟨Nat.le_of_ble_eq_true rfl, Nat.le_of_ble_eq_true rfl⟩ rfl rfl (Nat.le_of_ble_eq_true rfl) dX10_writesOnLeaf_30 (Nat.zero_le _) (Nat.zero_le _) ?_
    obtain ⟨w1, w2⟩ := inS h
    clear h
    subst w1
    subst w2
    exact g_sub [1, 2] rfl k11
set_option maxRecDepth 100000 in
set_option maxHeartbeats 4000000 in
theorem cX10_writeLeafc {l : Launch} {v0 : Option Nat} {v1 : Int32} {σ : HpT} {r : Int32} {σ' : HpT} (h : fX10_writeLeaf v0 v1 σ = some (r, σ')) : IsK σ v0 10 ∧ Ct l yX10_writeLeaf cX10_writeLeaf 3 (some .int) 4 89 [va_rf v0, .int v1] σ (.ok (some (.int r))) σ' 0 0 := by
  unfold fX10_writeLeaf at h
  replace h := bnP_s h
  obtain ⟨u, hk, h⟩ := h
  replace hk := isK_s hk
  refine ⟨hk, ?_⟩
  refine ct_start mi_X10_writeLeaf.1 rfl (al_le (al_1 (rf_cat _) (al_1 rfl al_n)) (Nat.le_of_ble_eq_true rfl)) (ag_1 (rf_cat _) (ag_1 rfl ag_n)) (fun Δ Γ B hE hnm => ?_)
  refine g_aload_n B 0 dX10_writeLeaf_0 rfl rfl ?_
  refine g_iload_n B 1 dX10_writeLeaf_1 rfl rfl ?_
  replace h := bnS_s h
  obtain ⟨x1, s3, h2, h⟩ := h
  refine g_callVs0 (st := []) B (cX10_mayLeafc h2) (Nat.le_of_ble_eq_true rfl) rfl rfl mi_X10_mayLeaf lk_RX10_474 ⟨Nat.le_of_ble_eq_true rfl, Nat.le_of_ble_eq_true rfl⟩ rfl rfl (Nat.le_of_ble_eq_true rfl) dX10_writeLeaf_2 (Nat.zero_le _) (Nat.zero_le _) ?_
  refine g_if_ne B 10 dX10_writeLeaf_5 (by decide) (fun hc => ?_) (fun hc => ?_)
  · replace h := ifp (bI1 hc) h
    refine g_aload_n B 0 dX10_writeLeaf_10 rfl rfl ?_
    refine g_iconst (v := 0) B dX10_writeLeaf_11 (by decide) ?_
    replace h := bnP_s h
    obtain ⟨s6, h5, h⟩ := h
    refine g_putI B fl_RX10_506 (by decide) dX10_writeLeaf_12 h5 ?_
    refine g_aload_n B 0 dX10_writeLeaf_15 rfl rfl ?_
    refine g_iload_n B 1 dX10_writeLeaf_16 rfl rfl ?_
    replace h := bnP_s h
    obtain ⟨x7, h8, h⟩ := h
    refine g_callVs0 (st := []) B (cX10_statusOfc h8) (Nat.le_of_ble_eq_true rfl) rfl rfl mi_X10_statusOf lk_RX10_237 ⟨Nat.le_of_ble_eq_true rfl, Nat.le_of_ble_eq_true rfl⟩ rfl rfl (Nat.le_of_ble_eq_true rfl) dX10_writeLeaf_17 (Nat.zero_le _) (Nat.zero_le _) ?_
    refine g_iconst (v := 2) B dX10_writeLeaf_20 (by decide) ?_
    replace h := bnS_s h
    obtain ⟨j9, s35, h10, h⟩ := h
    have k12 : GW Δ Γ (0) (0) 59 [(0, va_rf v0)] [] s35 := by
      refine g_aload_n B 0 dX10_writeLeaf_59 rfl rfl ?_
      replace h := bnP_s h
      obtain ⟨x36, h37, h⟩ := h
      refine g_getI B fl_RX10_506 (by decide) dX10_writeLeaf_60 h37 ?_
      obtain ⟨w1, w2⟩ := inS h
      clear h
      subst w1
      subst w2
      exact g_iret B hE (Nat.zero_le _) (Nat.zero_le _) dX10_writeLeaf_63
    clear h
    have h := h10
    clear h10
    refine g_icmp_ne B 33 dX10_writeLeaf_21 (by decide) (fun hc => ?_) (fun hc => ?_)
    · replace h := ifn hc h
      refine g_aload_n B 0 dX10_writeLeaf_33 rfl rfl ?_
      refine g_iload_n B 1 dX10_writeLeaf_34 rfl rfl ?_
      replace h := bnP_s h
      obtain ⟨x14, h15, h⟩ := h
      refine g_callVs0 (st := []) B (cX10_firstOnc h15) (Nat.le_of_ble_eq_true rfl) rfl rfl mi_X10_firstOn lk_RX10_446 ⟨Nat.le_of_ble_eq_true rfl, Nat.le_of_ble_eq_true rfl⟩ rfl rfl (Nat.le_of_ble_eq_true rfl) dX10_writeLeaf_35 (Nat.zero_le _) (Nat.zero_le _) ?_
      refine g_istore_n B dX10_writeLeaf_38 rfl (Nat.le_of_ble_eq_true rfl) (s1_c (f1_k rfl (f1_1 rfl rfl f1_n))) ?_
      replace h := bnS_s h
      obtain ⟨r17, s31, h18, h⟩ := h
      have kE19 : GW Δ Γ (0) (0) 59 [(0, va_rf v0)] [] s31 := by
        obtain ⟨w1, w2⟩ := inS h
        clear h
        subst w1
        subst w2
        exact g_sub [0] rfl k12
      clear h
      refine g_sub [1, 2, 0] rfl ?_
      refine lpS_w (I := fun q16 s25 => GW Δ Γ (0) (0) 39 [(0, va_rf v0), (1, .int v1), (2, .int q16)] [] s25) (r := r17) (σr := s31) ?_ FUEL x14 s6 h18
      intro q16 s25 x23 s9 h hI21 hR22
      unfold fX10_writeLeaf_l1 at h
      refine g_iload_n B 2 dX10_writeLeaf_39 rfl rfl ?_
      refine g_aload_n B 0 dX10_writeLeaf_40 rfl rfl ?_
      refine g_iload_n B 1 dX10_writeLeaf_41 rfl rfl ?_
      replace h := bnP_s h
      obtain ⟨x26, h27, h⟩ := h
      refine g_callVs0 (st := [.int q16]) B (cX10_lastOnc h27) (Nat.le_of_ble_eq_true rfl) rfl rfl mi_X10_lastOn lk_RX10_443 ⟨Nat.le_of_ble_eq_true rfl, Nat.le_of_ble_eq_true rfl⟩ rfl rfl (Nat.le_of_ble_eq_true rfl) dX10_writeLeaf_42 (Nat.zero_le _) (Nat.zero_le _) ?_
      refine g_icmp_gt B 59 dX10_writeLeaf_45 (by decide) (fun hc => ?_) (fun hc => ?_)
      · replace h := ifp hc h
        obtain ⟨w1, w2⟩ := inS h
        clear h
        subst w1
        subst w2
        obtain ⟨e8, e7⟩ := hR22 _ rfl
        subst e8
        subst e7
        exact g_sub [0] rfl kE19
      · replace h := ifn hc h
        refine g_aload_n B 0 dX10_writeLeaf_48 rfl rfl ?_
        refine g_iload_n B 2 dX10_writeLeaf_49 rfl rfl ?_
        replace h := bnP_s h
        obtain ⟨s30, h29, h⟩ := h
        refine g_callVv0 (st := []) B (cX10_writesOnLeafc h29) (Nat.le_of_ble_eq_true rfl) rfl rfl mi_X10_writesOnLeaf lk_RX10_537 ⟨Nat.le_of_ble_eq_true rfl, Nat.le_of_ble_eq_true rfl⟩ rfl rfl (Nat.le_of_ble_eq_true rfl) dX10_writeLeaf_50 (Nat.zero_le _) (Nat.zero_le _) ?_
        refine g_iinc (v := (q16 + 1)) B 2 dX10_writeLeaf_53 rfl (by first | rfl | (congr 1; decide)) (Nat.le_of_ble_eq_true rfl) (s1_c (f1_k rfl (f1_1 rfl rfl (f1_x f1_n)))) ?_
        refine g_goto B 39 dX10_writeLeaf_56 (by decide) ?_
        obtain ⟨w1, w2⟩ := inS h
        clear h
        subst w1
        subst w2
        exact g_sub [1, 2, 0] rfl (hI21 _ rfl)
    · replace h := ifp hc h
      refine g_aload_n B 0 dX10_writeLeaf_24 rfl rfl ?_
      refine g_bipush (v := 63) B dX10_writeLeaf_25 (by decide) ?_
      replace h := bnP_s h
      obtain ⟨s34, h33, h⟩ := h
      refine g_callVv0 (st := []) B (cX10_writesBytec h33) (Nat.le_of_ble_eq_true rfl) rfl rfl mi_X10_writesByte lk_RX10_509 ⟨Nat.le_of_ble_eq_true rfl, Nat.le_of_ble_eq_true rfl⟩ rfl rfl (Nat.le_of_ble_eq_true rfl) dX10_writeLeaf_27 (Nat.zero_le _) (Nat.zero_le _) ?_
      refine g_goto B 59 dX10_writeLeaf_30 (by decide) ?_
      obtain ⟨w1, w2⟩ := inS h
      clear h
      subst w1
      subst w2
      exact g_sub [0] rfl k12
  · replace h := ifn (bI0 hc) h
    refine g_iconst (v := 0) B dX10_writeLeaf_8 (by decide) ?_
    obtain ⟨w1, w2⟩ := inS h
    clear h
    subst w1
    subst w2
    exact g_iret B hE (Nat.zero_le _) (Nat.zero_le _) dX10_writeLeaf_9
set_option maxRecDepth 100000 in
set_option maxHeartbeats 4000000 in
theorem cX10_writeCopyc {l : Launch} {v0 : Option Nat} {v1 : Int32} {σ : HpT} {r : Int32} {σ' : HpT} (h : fX10_writeCopy v0 v1 σ = some (r, σ')) : IsK σ v0 10 ∧ Ct l yX10_writeCopy cX10_writeCopy 4 (some .int) 8 176 [va_rf v0, .int v1] σ (.ok (some (.int r))) σ' 0 0 := by
  unfold fX10_writeCopy at h
  replace h := bnP_s h
  obtain ⟨u, hk, h⟩ := h
  replace hk := isK_s hk
  refine ⟨hk, ?_⟩
  refine ct_start mi_X10_writeCopy.1 rfl (al_le (al_1 (rf_cat _) (al_1 rfl al_n)) (Nat.le_of_ble_eq_true rfl)) (ag_1 (rf_cat _) (ag_1 rfl ag_n)) (fun Δ Γ B hE hnm => ?_)
  refine g_aload_n B 0 dX10_writeCopy_0 rfl rfl ?_
  refine g_iload_n B 1 dX10_writeCopy_1 rfl rfl ?_
  replace h := bnS_s h
  obtain ⟨x1, s3, h2, h⟩ := h
  refine g_callVs0 (st := []) B (cX10_mayCopyc h2) (Nat.le_of_ble_eq_true rfl) rfl rfl mi_X10_mayCopy lk_RX10_540 ⟨Nat.le_of_ble_eq_true rfl, Nat.le_of_ble_eq_true rfl⟩ rfl rfl (Nat.le_of_ble_eq_true rfl) dX10_writeCopy_2 (Nat.zero_le _) (Nat.zero_le _) ?_
  refine g_if_ne B 10 dX10_writeCopy_5 (by decide) (fun hc => ?_) (fun hc => ?_)
  · replace h := ifp (bI1 hc) h
    refine g_aload_n B 0 dX10_writeCopy_10 rfl rfl ?_
    refine g_iconst (v := 0) B dX10_writeCopy_11 (by decide) ?_
    replace h := bnP_s h
    obtain ⟨s6, h5, h⟩ := h
    refine g_putI B fl_RX10_506 (by decide) dX10_writeCopy_12 h5 ?_
    refine g_aload_n B 0 dX10_writeCopy_15 rfl rfl ?_
    refine g_iload_n B 1 dX10_writeCopy_16 rfl rfl ?_
    refine g_iconst (v := 0) B dX10_writeCopy_17 (by decide) ?_
    replace h := bnP_s h
    obtain ⟨x7, h8, h⟩ := h
    refine g_callVs0 (st := []) B (cX10_ofCopyc h8) (Nat.le_of_ble_eq_true rfl) rfl rfl mi_X10_ofCopy lk_RX10_355 ⟨Nat.le_of_ble_eq_true rfl, Nat.le_of_ble_eq_true rfl⟩ rfl rfl (Nat.le_of_ble_eq_true rfl) dX10_writeCopy_18 (Nat.zero_le _) (Nat.zero_le _) ?_
    refine g_istore_n B dX10_writeCopy_21 rfl (Nat.le_of_ble_eq_true rfl) (s1_c (f1_k rfl (f1_1 rfl rfl f1_n))) ?_
    refine g_aload_n B 1 dX10_writeCopy_22 rfl rfl ?_
    refine g_iload_n B 0 dX10_writeCopy_23 rfl rfl ?_
    refine g_iconst (v := 5) B dX10_writeCopy_24 (by decide) ?_
    replace h := bnP_s h
    obtain ⟨x9, h10, h⟩ := h
    refine g_callVs0 (st := []) B (cX10_ofActc h10) (Nat.le_of_ble_eq_true rfl) rfl rfl mi_X10_ofAct lk_RX10_138 ⟨Nat.le_of_ble_eq_true rfl, Nat.le_of_ble_eq_true rfl⟩ rfl rfl (Nat.le_of_ble_eq_true rfl) dX10_writeCopy_25 (Nat.zero_le _) (Nat.zero_le _) ?_
    refine g_istore_n B dX10_writeCopy_28 rfl (Nat.le_of_ble_eq_true rfl) (s1_c (f1_1 rfl rfl (f1_k rfl (f1_k rfl f1_n)))) ?_
    replace h := bnS_s h
    obtain ⟨r12, s39, h13, h⟩ := h
    have kE14 : GW Δ Γ (0) (0) 74 [(0, va_rf v0)] [] s39 := by
      refine g_aload_n B 0 dX10_writeCopy_74 rfl rfl ?_
      replace h := bnS_s h
      obtain ⟨x40, s42, h41, h⟩ := h
      refine g_callVs0 (st := []) B (cX10_writtenc h41) (Nat.le_of_ble_eq_true rfl) rfl rfl mi_X10_written lk_RX10_531 ⟨Nat.le_of_ble_eq_true rfl, Nat.le_of_ble_eq_true rfl⟩ rfl rfl (Nat.le_of_ble_eq_true rfl) dX10_writeCopy_75 (Nat.zero_le _) (Nat.zero_le _) ?_
      obtain ⟨w1, w2⟩ := inS h
      clear h
      subst w1
      subst w2
      exact g_iret B hE (Nat.zero_le _) (Nat.zero_le _) dX10_writeCopy_78
    clear h
    refine g_sub [2, 3, 1, 0] rfl ?_
    refine lpS_w (I := fun q11 s20 => GW Δ Γ (0) (0) 29 [(0, va_rf v0), (1, .int v1), (2, .int x7), (3, .int q11)] [] s20) (r := r12) (σr := s39) ?_ FUEL x9 s6 h13
    intro q11 s20 x18 s9 h hI16 hR17
    unfold fX10_writeCopy_l1 at h
    refine g_iload_n B 3 dX10_writeCopy_29 rfl rfl ?_
    refine g_aload_n B 0 dX10_writeCopy_30 rfl rfl ?_
    refine g_iload_n B 2 dX10_writeCopy_31 rfl rfl ?_
    replace h := bnP_s h
    obtain ⟨x21, h22, h⟩ := h
    refine g_callVs0 (st := [.int q11]) B (cX10_lastOfc h22) (Nat.le_of_ble_eq_true rfl) rfl rfl mi_X10_lastOf lk_RX10_327 ⟨Nat.le_of_ble_eq_true rfl, Nat.le_of_ble_eq_true rfl⟩ rfl rfl (Nat.le_of_ble_eq_true rfl) dX10_writeCopy_32 (Nat.zero_le _) (Nat.zero_le _) ?_
    refine g_icmp_gt B 74 dX10_writeCopy_35 (by decide) (fun hc => ?_) (fun hc => ?_)
    · replace h := ifp hc h
      obtain ⟨w1, w2⟩ := inS h
      clear h
      subst w1
      subst w2
      obtain ⟨e8, e7⟩ := hR17 _ rfl
      subst e8
      subst e7
      exact g_sub [0] rfl kE14
    · replace h := ifn hc h
      refine g_aload_n B 0 dX10_writeCopy_38 rfl rfl ?_
      refine g_iload_n B 1 dX10_writeCopy_39 rfl rfl ?_
      refine g_iload_n B 3 dX10_writeCopy_40 rfl rfl ?_
      replace h := bnP_s h
      obtain ⟨x23, h24, h⟩ := h
      refine g_callVs0 (st := []) B (cX10_hasWordc h24) (Nat.le_of_ble_eq_true rfl) rfl rfl mi_X10_hasWord lk_RX10_364 ⟨Nat.le_of_ble_eq_true rfl, Nat.le_of_ble_eq_true rfl⟩ rfl rfl (Nat.le_of_ble_eq_true rfl) dX10_writeCopy_41 (Nat.zero_le _) (Nat.zero_le _) ?_
      replace h := bnS_s h
      obtain ⟨j25, s33, h26, h⟩ := h
      have k28 : GW Δ Γ (0) (0) 53 [(0, va_rf v0), (1, .int v1), (2, .int x7), (3, .int q11)] [] s33 := by
        refine g_aload_n B 0 dX10_writeCopy_53 rfl rfl ?_
        refine g_iload_n B 1 dX10_writeCopy_54 rfl rfl ?_
        refine g_iconst (v := 1) B dX10_writeCopy_55 (by decide) ?_
        replace h := bnP_s h
        obtain ⟨x34, h35, h⟩ := h
        refine g_callVs0 (st := []) B (cX10_ofCopyc h35) (Nat.le_of_ble_eq_true rfl) rfl rfl mi_X10_ofCopy lk_RX10_355 ⟨Nat.le_of_ble_eq_true rfl, Nat.le_of_ble_eq_true rfl⟩ rfl rfl (Nat.le_of_ble_eq_true rfl) dX10_writeCopy_56 (Nat.zero_le _) (Nat.zero_le _) ?_
        refine g_if_ne B 68 dX10_writeCopy_59 (by decide) (fun hc => ?_) (fun hc => ?_)
        · replace h := ifn hc h
          refine g_iinc (v := (q11 + 1)) B 3 dX10_writeCopy_68 rfl (by first | rfl | (congr 1; decide)) (Nat.le_of_ble_eq_true rfl) (s1_c (f1_k rfl (f1_k rfl (f1_1 rfl rfl (f1_x f1_n))))) ?_
          refine g_goto B 29 dX10_writeCopy_71 (by decide) ?_
          obtain ⟨w1, w2⟩ := inS h
          clear h
          subst w1
          subst w2
          exact g_sub [1, 2, 3, 0] rfl (hI16 _ rfl)
        · replace h := ifp hc h
          refine g_aload_n B 0 dX10_writeCopy_62 rfl rfl ?_
          refine g_iload_n B 3 dX10_writeCopy_63 rfl rfl ?_
          refine g_iconst (v := 0) B dX10_writeCopy_64 (by decide) ?_
          replace h := bnP_s h
          obtain ⟨s38, h37, h⟩ := h
          refine g_callVv0 (st := []) B (cX10_writesInnerc h37) (Nat.le_of_ble_eq_true rfl) rfl rfl mi_X10_writesInner lk_RX10_525 ⟨Nat.le_of_ble_eq_true rfl, Nat.le_of_ble_eq_true rfl⟩ rfl rfl (Nat.le_of_ble_eq_true rfl) dX10_writeCopy_65 (Nat.zero_le _) (Nat.zero_le _) ?_
          refine g_iinc (v := (q11 + 1)) B 3 dX10_writeCopy_68 rfl (by first | rfl | (congr 1; decide)) (Nat.le_of_ble_eq_true rfl) (s1_c (f1_k rfl (f1_k rfl (f1_1 rfl rfl (f1_x f1_n))))) ?_
          refine g_goto B 29 dX10_writeCopy_71 (by decide) ?_
          obtain ⟨w1, w2⟩ := inS h
          clear h
          subst w1
          subst w2
          exact g_sub [1, 2, 3, 0] rfl (hI16 _ rfl)
      clear h
      have h := h26
      clear h26
      refine g_if_eq B 53 dX10_writeCopy_44 (by decide) (fun hc => ?_) (fun hc => ?_)
      · replace h := ifn (bI0 hc) h
        obtain ⟨w1, w2⟩ := inS h
        clear h
        subst w1
        subst w2
        exact g_sub [0, 1, 2, 3] rfl k28
      · replace h := ifp (bI1 hc) h
        refine g_aload_n B 0 dX10_writeCopy_47 rfl rfl ?_
        refine g_iload_n B 3 dX10_writeCopy_48 rfl rfl ?_
        refine g_iconst (v := 0) B dX10_writeCopy_49 (by decide) ?_
        replace h := bnP_s h
        obtain ⟨s32, h31, h⟩ := h
        refine g_callVv0 (st := []) B (cX10_writesWordc h31) (Nat.le_of_ble_eq_true rfl) rfl rfl mi_X10_writesWord lk_RX10_521 ⟨Nat.le_of_ble_eq_true rfl, Nat.le_of_ble_eq_true rfl⟩ rfl rfl (Nat.le_of_ble_eq_true rfl) dX10_writeCopy_50 (Nat.zero_le _) (Nat.zero_le _) ?_
        obtain ⟨w1, w2⟩ := inS h
        clear h
        subst w1
        subst w2
        exact g_sub [0, 1, 2, 3] rfl k28
  · replace h := ifn (bI0 hc) h
    refine g_iconst (v := 0) B dX10_writeCopy_8 (by decide) ?_
    obtain ⟨w1, w2⟩ := inS h
    clear h
    subst w1
    subst w2
    exact g_iret B hE (Nat.zero_le _) (Nat.zero_le _) dX10_writeCopy_9
set_option maxRecDepth 100000 in
set_option maxHeartbeats 4000000 in
theorem cX10_textBytec {l : Launch} {v0 : Option Nat} {v1 : Int32} {σ : HpT} {r : Int32} {σ' : HpT} (h : fX10_textByte v0 v1 σ = some (r, σ')) : IsK σ v0 10 ∧ Ct l yX10_textByte cX10_textByte 2 (some .int) 1 23 [va_rf v0, .int v1] σ (.ok (some (.int r))) σ' 0 0 := by
  unfold fX10_textByte at h
  replace h := bnP_s h
  obtain ⟨u, hk, h⟩ := h
  replace hk := isK_s hk
  refine ⟨hk, ?_⟩
  refine ct_start mi_X10_textByte.1 rfl (al_le (al_1 (rf_cat _) (al_1 rfl al_n)) (Nat.le_of_ble_eq_true rfl)) (ag_1 (rf_cat _) (ag_1 rfl ag_n)) (fun Δ Γ B hE hnm => ?_)
  refine g_aload_n B 0 dX10_textByte_0 rfl rfl ?_
  refine g_iload_n B 1 dX10_textByte_1 rfl rfl ?_
  refine g_iconst (v := 0) B dX10_textByte_2 (by decide) ?_
  refine g_aload_n B 0 dX10_textByte_3 rfl rfl ?_
  replace h := bnP_s h
  obtain ⟨x1, h2, h⟩ := h
  refine g_getI B fl_RX10_506 (by decide) dX10_textByte_4 h2 ?_
  refine g_iconst (v := 1) B dX10_textByte_7 (by decide) ?_
  refine g_isub B dX10_textByte_8 ?_
  replace h := bnP_s h
  obtain ⟨x3, h4, h⟩ := h
  refine g_callSs0 (st := [va_rf v0]) B (cX10_inc h4) mi_X10_in lk_RX10_69 ⟨Nat.le_of_ble_eq_true rfl, Nat.le_of_ble_eq_true rfl⟩ rfl rfl (Nat.le_of_ble_eq_true rfl) dX10_textByte_9 (Nat.zero_le _) (Nat.zero_le _) ?_
  refine g_iconst (v := 1) B dX10_textByte_12 (by decide) ?_
  refine g_iconst (v := 1) B dX10_textByte_13 (by decide) ?_
  replace h := bnS_s h
  obtain ⟨x5, s7, h6, h⟩ := h
  refine g_callVs0 (st := []) B (cX10_mayc h6) (Nat.le_of_ble_eq_true rfl) rfl rfl mi_X10_may lk_RX10_44 ⟨Nat.le_of_ble_eq_true rfl, Nat.le_of_ble_eq_true rfl⟩ rfl rfl (Nat.le_of_ble_eq_true rfl) dX10_textByte_14 (Nat.zero_le _) (Nat.zero_le _) ?_
  refine g_if_eq B 29 dX10_textByte_17 (by decide) (fun hc => ?_) (fun hc => ?_)
  · replace h := ifn (bI0 hc) h
    refine g_iconst (v := 0) B dX10_textByte_29 (by decide) ?_
    obtain ⟨w1, w2⟩ := inS h
    clear h
    subst w1
    subst w2
    exact g_iret B hE (Nat.zero_le _) (Nat.zero_le _) dX10_textByte_30
  · replace h := ifp (bI1 hc) h
    refine g_aload_n B 0 dX10_textByte_20 rfl rfl ?_
    replace h := bnP_s h
    obtain ⟨x8, h9, h⟩ := h
    refine g_getR B fl_RX10_38 (by decide) dX10_textByte_21 h9 ?_
    refine g_iload_n B 1 dX10_textByte_24 rfl rfl ?_
    replace h := bnP_s h
    obtain ⟨x10, h11, h⟩ := h
    refine g_bald B dX10_textByte_25 h11 ?_
    refine g_goto B 30 dX10_textByte_26 (by decide) ?_
    obtain ⟨w1, w2⟩ := inS h
    clear h
    subst w1
    subst w2
    exact g_iret B hE (Nat.zero_le _) (Nat.zero_le _) dX10_textByte_30
set_option maxRecDepth 100000 in
set_option maxHeartbeats 4000000 in
theorem cX10_remembersc {l : Launch} {v0 : Option Nat} {σ : HpT} {σ' : HpT} (h : fX10_remembers v0 σ = some σ') : IsK σ v0 10 ∧ Ct l yX10_remembers cX10_remembers 2 none 1 24 [va_rf v0] σ (.ok none) σ' 0 0 := by
  unfold fX10_remembers at h
  replace h := bnP_s h
  obtain ⟨u, hk, h⟩ := h
  replace hk := isK_s hk
  refine ⟨hk, ?_⟩
  refine ct_start mi_X10_remembers.1 rfl (al_le (al_1 (rf_cat _) al_n) (Nat.le_of_ble_eq_true rfl)) (ag_1 (rf_cat _) ag_n) (fun Δ Γ B hE hnm => ?_)
  refine g_aload_n B 0 dX10_remembers_0 rfl rfl ?_
  replace h := bnP_s h
  obtain ⟨x1, h2, h⟩ := h
  refine g_getI B fl_RX10_324 (by decide) dX10_remembers_1 h2 ?_
  refine g_bipush (v := 8) B dX10_remembers_4 (by decide) ?_
  replace h := bnS_s h
  obtain ⟨j3, s33, h4, h⟩ := h
  have k6 : GW Δ Γ (0) (0) 50 [(0, va_rf v0)] [] s33 := by
    refine g_aload_n B 0 dX10_remembers_50 rfl rfl ?_
    replace h := bnP_s h
    obtain ⟨x34, h35, h⟩ := h
    refine g_getR B fl_RX10_9 (by decide) dX10_remembers_51 h35 ?_
    refine g_iconst (v := 0) B dX10_remembers_54 (by decide) ?_
    refine g_aload_n B 0 dX10_remembers_55 rfl rfl ?_
    replace h := bnP_s h
    obtain ⟨x36, h37, h⟩ := h
    refine g_getR B fl_RX10_17 (by decide) dX10_remembers_56 h37 ?_
    refine g_aload_n B 0 dX10_remembers_59 rfl rfl ?_
    replace h := bnP_s h
    obtain ⟨x38, h39, h⟩ := h
    refine g_getI B fl_RX10_324 (by decide) dX10_remembers_60 h39 ?_
    refine g_sipush (v := 6139) B dX10_remembers_63 (by decide) ?_
    refine g_imul B dX10_remembers_66 ?_
    replace h := bnP_s h
    obtain ⟨s42, h41, h⟩ := h
    refine g_callSv0 (st := []) B (cX10_laysc h41) mi_X10_lays lk_RX10_52 ⟨Nat.le_of_ble_eq_true rfl, Nat.le_of_ble_eq_true rfl⟩ rfl rfl (Nat.le_of_ble_eq_true rfl) dX10_remembers_67 (Nat.zero_le _) (Nat.zero_le _) ?_
    refine g_aload_n B 0 dX10_remembers_70 rfl rfl ?_
    refine g_dup B dX10_remembers_71 (rf_cat _) ?_
    replace h := bnP_s h
    obtain ⟨x43, h44, h⟩ := h
    refine g_getI B fl_RX10_324 (by decide) dX10_remembers_72 h44 ?_
    refine g_iconst (v := 1) B dX10_remembers_75 (by decide) ?_
    refine g_iadd B dX10_remembers_76 ?_
    replace h := bnP_s h
    obtain ⟨s47, h46, h⟩ := h
    refine g_putI B fl_RX10_324 (by decide) dX10_remembers_77 h46 ?_
    replace h := Option.some.inj h
    subst h
    exact g_vret B hE (Nat.zero_le _) (Nat.zero_le _) dX10_remembers_80
  clear h
  have h := h4
  clear h4
  refine g_icmp_ne B 50 dX10_remembers_6 (by decide) (fun hc => ?_) (fun hc => ?_)
  · replace h := ifn hc h
    obtain ⟨w1, w2⟩ := inS h
    clear h
    subst w1
    subst w2
    exact g_sub [0] rfl k6
  · replace h := ifp hc h
    refine g_iconst (v := 0) B dX10_remembers_9 (by decide) ?_
    refine g_istore_n B dX10_remembers_10 rfl (Nat.le_of_ble_eq_true rfl) (s1_c (f1_1 rfl (rf_cat _) f1_n)) ?_
    replace h := bnS_s h
    obtain ⟨r9, s27, h10, h⟩ := h
    have kE11 : GW Δ Γ (0) (0) 40 [(0, va_rf v0)] [] s27 := by
      refine g_aload_n B 0 dX10_remembers_40 rfl rfl ?_
      refine g_dup B dX10_remembers_41 (rf_cat _) ?_
      replace h := bnP_s h
      obtain ⟨x28, h29, h⟩ := h
      refine g_getI B fl_RX10_324 (by decide) dX10_remembers_42 h29 ?_
      refine g_iconst (v := 1) B dX10_remembers_45 (by decide) ?_
      refine g_isub B dX10_remembers_46 ?_
      replace h := bnP_s h
      obtain ⟨s32, h31, h⟩ := h
      refine g_putI B fl_RX10_324 (by decide) dX10_remembers_47 h31 ?_
      obtain ⟨w1, w2⟩ := inS h
      clear h
      subst w1
      subst w2
      exact g_sub [0] rfl k6
    clear h
    refine g_sub [1, 0] rfl ?_
    refine lpS_w (I := fun q8 s17 => GW Δ Γ (0) (0) 11 [(0, va_rf v0), (1, .int q8)] [] s17) (r := r9) (σr := s27) ?_ FUEL 0 σ h10
    intro q8 s17 x15 s9 h hI13 hR14
    unfold fX10_remembers_l1 at h
    refine g_iload_n B 1 dX10_remembers_11 rfl rfl ?_
    refine g_ldcw B cs_RX10_543 dX10_remembers_12 ?_
    refine g_icmp_ge B 40 dX10_remembers_15 (by decide) (fun hc => ?_) (fun hc => ?_)
    · replace h := ifp hc h
      obtain ⟨w1, w2⟩ := inS h
      clear h
      subst w1
      subst w2
      obtain ⟨e8, e7⟩ := hR14 _ rfl
      subst e8
      subst e7
      exact g_sub [0] rfl kE11
    · replace h := ifn hc h
      refine g_aload_n B 0 dX10_remembers_18 rfl rfl ?_
      replace h := bnP_s h
      obtain ⟨x18, h19, h⟩ := h
      refine g_getR B fl_RX10_17 (by decide) dX10_remembers_19 h19 ?_
      refine g_iload_n B 1 dX10_remembers_22 rfl rfl ?_
      refine g_aload_n B 0 dX10_remembers_23 rfl rfl ?_
      replace h := bnP_s h
      obtain ⟨x20, h21, h⟩ := h
      refine g_getR B fl_RX10_17 (by decide) dX10_remembers_24 h21 ?_
      refine g_iload_n B 1 dX10_remembers_27 rfl rfl ?_
      refine g_sipush (v := 6139) B dX10_remembers_28 (by decide) ?_
      refine g_iadd B dX10_remembers_31 ?_
      replace h := bnP_s h
      obtain ⟨x22, h23, h⟩ := h
      refine g_iald B dX10_remembers_32 h23 ?_
      replace h := bnP_s h
      obtain ⟨s26, h25, h⟩ := h
      refine g_iast B dX10_remembers_33 h25 ?_
      refine g_iinc (v := (q8 + 1)) B 1 dX10_remembers_34 rfl (by first | rfl | (congr 1; decide)) (Nat.le_of_ble_eq_true rfl) (s1_c (f1_1 rfl (rf_cat _) (f1_x f1_n))) ?_
      refine g_goto B 11 dX10_remembers_37 (by decide) ?_
      obtain ⟨w1, w2⟩ := inS h
      clear h
      subst w1
      subst w2
      exact g_sub [1, 0] rfl (hI13 _ rfl)
