theorem mi_X10_bestCopy : MI yX10_bestCopy cX10_bestCopy 5 (some .int) 1 := ⟨by decide +kernel, (mw (i := 2632) (by decide +kernel) rfl), (mw (i := 176) (by decide +kernel) rfl), by decide +kernel, by decide +kernel⟩
theorem mi_X10_copy : MI yX10_copy cX10_copy 3 (some .int) 2 := ⟨by decide +kernel, (mw (i := 2540) (by decide +kernel) rfl), (mw (i := 176) (by decide +kernel) rfl), by decide +kernel, by decide +kernel⟩
theorem mi_X10_copyWords : MI yX10_copyWords cX10_copyWords 3 (some .int) 2 := ⟨by decide +kernel, (mw (i := 2628) (by decide +kernel) rfl), (mw (i := 176) (by decide +kernel) rfl), by decide +kernel, by decide +kernel⟩
theorem mi_X10_firstUnknown : MI yX10_firstUnknown cX10_firstUnknown 3 (some .int) 1 := ⟨by decide +kernel, (mw (i := 2568) (by decide +kernel) rfl), (mw (i := 176) (by decide +kernel) rfl), by decide +kernel, by decide +kernel⟩
theorem mi_X10_gap : MI yX10_gap cX10_gap 5 (some .int) 0 := ⟨by decide +kernel, (mw (i := 2572) (by decide +kernel) rfl), (mw (i := 176) (by decide +kernel) rfl), by decide +kernel, by decide +kernel⟩
theorem mi_X10_has : MI yX10_has cX10_has 3 (some .boolean) 2 := ⟨by decide +kernel, (mw (i := 2556) (by decide +kernel) rfl), (mw (i := 176) (by decide +kernel) rfl), by decide +kernel, by decide +kernel⟩
theorem mi_X10_isAsked : MI yX10_isAsked cX10_isAsked 3 (some .boolean) 2 := ⟨by decide +kernel, (mw (i := 2644) (by decide +kernel) rfl), (mw (i := 176) (by decide +kernel) rfl), by decide +kernel, by decide +kernel⟩
theorem mi_X10_known : MI yX10_known cX10_known 4 (some .int) 1 := ⟨by decide +kernel, (mw (i := 2560) (by decide +kernel) rfl), (mw (i := 176) (by decide +kernel) rfl), by decide +kernel, by decide +kernel⟩
theorem mi_X10_knownBy : MI yX10_knownBy cX10_knownBy 4 (some .int) 1 := ⟨by decide +kernel, (mw (i := 2552) (by decide +kernel) rfl), (mw (i := 176) (by decide +kernel) rfl), by decide +kernel, by decide +kernel⟩
theorem mi_X10_knownWith : MI yX10_knownWith cX10_knownWith 5 (some .int) 2 := ⟨by decide +kernel, (mw (i := 2636) (by decide +kernel) rfl), (mw (i := 176) (by decide +kernel) rfl), by decide +kernel, by decide +kernel⟩
theorem mi_X10_lastOn : MI yX10_lastOn cX10_lastOn 2 (some .int) 1 := ⟨by decide +kernel, (mw (i := 2531) (by decide +kernel) rfl), (mw (i := 176) (by decide +kernel) rfl), by decide +kernel, by decide +kernel⟩
theorem mi_X10_leaf : MI yX10_leaf cX10_leaf 3 (some .int) 2 := ⟨by decide +kernel, (mw (i := 2523) (by decide +kernel) rfl), (mw (i := 176) (by decide +kernel) rfl), by decide +kernel, by decide +kernel⟩
theorem mi_X10_leavesFor : MI yX10_leavesFor cX10_leavesFor 3 (some .int) 1 := ⟨by decide +kernel, (mw (i := 2624) (by decide +kernel) rfl), (mw (i := 176) (by decide +kernel) rfl), by decide +kernel, by decide +kernel⟩
theorem mi_X10_lostBy : MI yX10_lostBy cX10_lostBy 4 (some .int) 1 := ⟨by decide +kernel, (mw (i := 2612) (by decide +kernel) rfl), (mw (i := 176) (by decide +kernel) rfl), by decide +kernel, by decide +kernel⟩
theorem mi_X10_shakenOut : MI yX10_shakenOut cX10_shakenOut 2 (some .int) 0 := ⟨by decide +kernel, (mw (i := 2620) (by decide +kernel) rfl), (mw (i := 176) (by decide +kernel) rfl), by decide +kernel, by decide +kernel⟩
theorem mi_X10_standingByClauses : MI yX10_standingByClauses cX10_standingByClauses 4 (some .int) 1 := ⟨by decide +kernel, (mw (i := 2580) (by decide +kernel) rfl), (mw (i := 176) (by decide +kernel) rfl), by decide +kernel, by decide +kernel⟩
theorem mi_X10_standingIf : MI yX10_standingIf cX10_standingIf 3 (some .int) 2 := ⟨by decide +kernel, (mw (i := 2640) (by decide +kernel) rfl), (mw (i := 176) (by decide +kernel) rfl), by decide +kernel, by decide +kernel⟩
theorem mi_X10_standingIn : MI yX10_standingIn cX10_standingIn 5 (some .int) 2 := ⟨by decide +kernel, (mw (i := 2584) (by decide +kernel) rfl), (mw (i := 176) (by decide +kernel) rfl), by decide +kernel, by decide +kernel⟩
theorem mi_X10_standingWithout : MI yX10_standingWithout cX10_standingWithout 5 (some .int) 2 := ⟨by decide +kernel, (mw (i := 2648) (by decide +kernel) rfl), (mw (i := 176) (by decide +kernel) rfl), by decide +kernel, by decide +kernel⟩
theorem mi_X10_unknownIf : MI yX10_unknownIf cX10_unknownIf 2 (some .int) 1 := ⟨by decide +kernel, (mw (i := 2604) (by decide +kernel) rfl), (mw (i := 176) (by decide +kernel) rfl), by decide +kernel, by decide +kernel⟩
theorem mi_X10_whyNotCopy : MI yX10_whyNotCopy cX10_whyNotCopy 3 (some .int) 2 := ⟨by decide +kernel, (mw (i := 2593) (by decide +kernel) rfl), (mw (i := 176) (by decide +kernel) rfl), by decide +kernel, by decide +kernel⟩
theorem mi_X10_whyNotSeal : MI yX10_whyNotSeal cX10_whyNotSeal 3 (some .int) 2 := ⟨by decide +kernel, (mw (i := 2589) (by decide +kernel) rfl), (mw (i := 176) (by decide +kernel) rfl), by decide +kernel, by decide +kernel⟩
theorem mi_X10_whyNotStrike : MI yX10_whyNotStrike cX10_whyNotStrike 2 (some .int) 1 := ⟨by decide +kernel, (mw (i := 2600) (by decide +kernel) rfl), (mw (i := 176) (by decide +kernel) rfl), by decide +kernel, by decide +kernel⟩
theorem mi_X10_worstLeaf : MI yX10_worstLeaf cX10_worstLeaf 5 (some .int) 0 := ⟨by decide +kernel, (mw (i := 2616) (by decide +kernel) rfl), (mw (i := 176) (by decide +kernel) rfl), by decide +kernel, by decide +kernel⟩
theorem lk_RX10_443 : LV RX10 443 yX10_lastOn := ⟨(mw (i := 2528) (by decide +kernel) rfl), (mw (i := 2530) (by decide +kernel) rfl), (mw (i := 127) (by decide +kernel) rfl)⟩
theorem lk_RX10_446 : LV RX10 446 yX10_firstOn := ⟨(mw (i := 2533) (by decide +kernel) rfl), (mw (i := 2535) (by decide +kernel) rfl), (mw (i := 128) (by decide +kernel) rfl)⟩
theorem lk_RX10_449 : LV RX10 449 yX10_wordsBy := ⟨(mw (i := 2545) (by decide +kernel) rfl), (mw (i := 2547) (by decide +kernel) rfl), (mw (i := 130) (by decide +kernel) rfl)⟩
theorem lk_RX10_452 : LV RX10 452 yX10_knownBy := ⟨(mw (i := 2549) (by decide +kernel) rfl), (mw (i := 2551) (by decide +kernel) rfl), (mw (i := 131) (by decide +kernel) rfl)⟩
theorem lk_RX10_455 : LV RX10 455 yX10_mayAct := ⟨(mw (i := 2561) (by decide +kernel) rfl), (mw (i := 2563) (by decide +kernel) rfl), (mw (i := 132) (by decide +kernel) rfl)⟩
theorem lk_RX10_458 : LV RX10 458 yX10_standingIn := ⟨(mw (i := 2581) (by decide +kernel) rfl), (mw (i := 2583) (by decide +kernel) rfl), (mw (i := 135) (by decide +kernel) rfl)⟩
theorem lk_RX10_461 : LV RX10 461 yX10_mayLook := ⟨(mw (i := 2573) (by decide +kernel) rfl), (mw (i := 2575) (by decide +kernel) rfl), (mw (i := 133) (by decide +kernel) rfl)⟩
theorem lk_RX10_465 : LV RX10 465 yX10_standingByClauses := ⟨(mw (i := 2577) (by decide +kernel) rfl), (mw (i := 2579) (by decide +kernel) rfl), (mw (i := 134) (by decide +kernel) rfl)⟩
theorem lk_RX10_471 : LSt RX10 471 yX10_isGrade := ⟨(mw (i := 2594) (by decide +kernel) rfl), (mw (i := 2595) (by decide +kernel) rfl)⟩
theorem lk_RX10_474 : LV RX10 474 yX10_mayLeaf := ⟨(mw (i := 2605) (by decide +kernel) rfl), (mw (i := 2607) (by decide +kernel) rfl), (mw (i := 136) (by decide +kernel) rfl)⟩
theorem lk_RX10_477 : LV RX10 477 yX10_lostBy := ⟨(mw (i := 2609) (by decide +kernel) rfl), (mw (i := 2611) (by decide +kernel) rfl), (mw (i := 137) (by decide +kernel) rfl)⟩
theorem lk_RX10_480 : LV RX10 480 yX10_knownWith := ⟨(mw (i := 2633) (by decide +kernel) rfl), (mw (i := 2635) (by decide +kernel) rfl), (mw (i := 138) (by decide +kernel) rfl)⟩
theorem lk_RX10_483 : LV RX10 483 yX10_isAsked := ⟨(mw (i := 2641) (by decide +kernel) rfl), (mw (i := 2643) (by decide +kernel) rfl), (mw (i := 139) (by decide +kernel) rfl)⟩
theorem lk_RX10_487 : LV RX10 487 yX10_standingWithout := ⟨(mw (i := 2645) (by decide +kernel) rfl), (mw (i := 2647) (by decide +kernel) rfl), (mw (i := 140) (by decide +kernel) rfl)⟩
theorem mt_RX10_440 : MTW RX10 440 Lib.Math.min.name Lib.Math.min.code 2 := ⟨(mw (i := 2532) (by decide +kernel) rfl), (mw (i := 706) (by decide +kernel) rfl), (mw (i := 181) (by decide +kernel) rfl), (mw (i := 707) (by decide +kernel) rfl)⟩
theorem mt_RX10_468 : MTW RX10 468 Lib.Math.abs.name Lib.Math.abs.code 1 := ⟨(mw (i := 2585) (by decide +kernel) rfl), (mw (i := 1300) (by decide +kernel) rfl), (mw (i := 181) (by decide +kernel) rfl), (mw (i := 1301) (by decide +kernel) rfl)⟩
theorem dX10_lastOn_0 : decode cX10_lastOn 0 = .ok (.aload_n 0, 1) := by decide +kernel
theorem dX10_lastOn_1 : decode cX10_lastOn 1 = .ok (.getfield 9, 3) := by decide +kernel
theorem dX10_lastOn_4 : decode cX10_lastOn 4 = .ok (.iconst 4, 1) := by decide +kernel
theorem dX10_lastOn_5 : decode cX10_lastOn 5 = .ok (.iaload, 1) := by decide +kernel
theorem dX10_lastOn_6 : decode cX10_lastOn 6 = .ok (.iload_n 1, 1) := by decide +kernel
theorem dX10_lastOn_7 : decode cX10_lastOn 7 = .ok (.iconst 1, 1) := by decide +kernel
theorem dX10_lastOn_8 : decode cX10_lastOn 8 = .ok (.iadd, 1) := by decide +kernel
theorem dX10_lastOn_9 : decode cX10_lastOn 9 = .ok (.aload_n 0, 1) := by decide +kernel
theorem dX10_lastOn_10 : decode cX10_lastOn 10 = .ok (.getfield 9, 3) := by decide +kernel
theorem dX10_lastOn_13 : decode cX10_lastOn 13 = .ok (.iconst 0, 1) := by decide +kernel
theorem dX10_lastOn_14 : decode cX10_lastOn 14 = .ok (.iaload, 1) := by decide +kernel
theorem dX10_lastOn_15 : decode cX10_lastOn 15 = .ok (.imul, 1) := by decide +kernel
theorem dX10_lastOn_16 : decode cX10_lastOn 16 = .ok (.invokestatic 440, 3) := by decide +kernel
theorem dX10_lastOn_19 : decode cX10_lastOn 19 = .ok (.iconst 1, 1) := by decide +kernel
theorem dX10_lastOn_20 : decode cX10_lastOn 20 = .ok (.isub, 1) := by decide +kernel
theorem dX10_lastOn_21 : decode cX10_lastOn 21 = .ok (.ireturn, 1) := by decide +kernel
theorem dX10_leaf_0 : decode cX10_leaf 0 = .ok (.aload_n 0, 1) := by decide +kernel
theorem dX10_leaf_1 : decode cX10_leaf 1 = .ok (.aload_n 0, 1) := by decide +kernel
theorem dX10_leaf_2 : decode cX10_leaf 2 = .ok (.getfield 48, 3) := by decide +kernel
theorem dX10_leaf_5 : decode cX10_leaf 5 = .ok (.aload_n 0, 1) := by decide +kernel
theorem dX10_leaf_6 : decode cX10_leaf 6 = .ok (.iload_n 1, 1) := by decide +kernel
theorem dX10_leaf_7 : decode cX10_leaf 7 = .ok (.invokevirtual 402, 3) := by decide +kernel
theorem dX10_leaf_10 : decode cX10_leaf 10 = .ok (.iload_n 2, 1) := by decide +kernel
theorem dX10_leaf_11 : decode cX10_leaf 11 = .ok (.iconst 0, 1) := by decide +kernel
theorem dX10_leaf_12 : decode cX10_leaf 12 = .ok (.iconst 5, 1) := by decide +kernel
theorem dX10_leaf_13 : decode cX10_leaf 13 = .ok (.invokestatic 69, 3) := by decide +kernel
theorem dX10_leaf_16 : decode cX10_leaf 16 = .ok (.invokevirtual 44, 3) := by decide +kernel
theorem dX10_leaf_19 : decode cX10_leaf 19 = .ok (.ifCond .ne 5, 3) := by decide +kernel
theorem dX10_leaf_22 : decode cX10_leaf 22 = .ok (.iconst 0, 1) := by decide +kernel
theorem dX10_leaf_23 : decode cX10_leaf 23 = .ok (.ireturn, 1) := by decide +kernel
theorem dX10_leaf_24 : decode cX10_leaf 24 = .ok (.iload_n 2, 1) := by decide +kernel
theorem dX10_leaf_25 : decode cX10_leaf 25 = .ok (.tableswitch 92 0 4 #[35, 41, 55, 77, 83], 35) := by decide +kernel
theorem dX10_leaf_60 : decode cX10_leaf 60 = .ok (.aload_n 0, 1) := by decide +kernel
theorem dX10_leaf_61 : decode cX10_leaf 61 = .ok (.iload_n 1, 1) := by decide +kernel
theorem dX10_leaf_62 : decode cX10_leaf 62 = .ok (.invokevirtual 237, 3) := by decide +kernel
theorem dX10_leaf_65 : decode cX10_leaf 65 = .ok (.ireturn, 1) := by decide +kernel
theorem dX10_leaf_66 : decode cX10_leaf 66 = .ok (.aload_n 0, 1) := by decide +kernel
theorem dX10_leaf_67 : decode cX10_leaf 67 = .ok (.iload_n 1, 1) := by decide +kernel
theorem dX10_leaf_68 : decode cX10_leaf 68 = .ok (.invokevirtual 443, 3) := by decide +kernel
theorem dX10_leaf_71 : decode cX10_leaf 71 = .ok (.aload_n 0, 1) := by decide +kernel
theorem dX10_leaf_72 : decode cX10_leaf 72 = .ok (.iload_n 1, 1) := by decide +kernel
theorem dX10_leaf_73 : decode cX10_leaf 73 = .ok (.invokevirtual 446, 3) := by decide +kernel
theorem dX10_leaf_76 : decode cX10_leaf 76 = .ok (.isub, 1) := by decide +kernel
theorem dX10_leaf_77 : decode cX10_leaf 77 = .ok (.iconst 1, 1) := by decide +kernel
theorem dX10_leaf_78 : decode cX10_leaf 78 = .ok (.iadd, 1) := by decide +kernel
theorem dX10_leaf_79 : decode cX10_leaf 79 = .ok (.ireturn, 1) := by decide +kernel
theorem dX10_leaf_80 : decode cX10_leaf 80 = .ok (.aload_n 0, 1) := by decide +kernel
theorem dX10_leaf_81 : decode cX10_leaf 81 = .ok (.aload_n 0, 1) := by decide +kernel
theorem dX10_leaf_82 : decode cX10_leaf 82 = .ok (.iload_n 1, 1) := by decide +kernel
theorem dX10_leaf_83 : decode cX10_leaf 83 = .ok (.invokevirtual 443, 3) := by decide +kernel
theorem dX10_leaf_86 : decode cX10_leaf 86 = .ok (.invokevirtual 358, 3) := by decide +kernel
theorem dX10_leaf_89 : decode cX10_leaf 89 = .ok (.aload_n 0, 1) := by decide +kernel
theorem dX10_leaf_90 : decode cX10_leaf 90 = .ok (.aload_n 0, 1) := by decide +kernel
theorem dX10_leaf_91 : decode cX10_leaf 91 = .ok (.iload_n 1, 1) := by decide +kernel
theorem dX10_leaf_92 : decode cX10_leaf 92 = .ok (.invokevirtual 446, 3) := by decide +kernel
theorem dX10_leaf_95 : decode cX10_leaf 95 = .ok (.invokevirtual 358, 3) := by decide +kernel
theorem dX10_leaf_98 : decode cX10_leaf 98 = .ok (.isub, 1) := by decide +kernel
theorem dX10_leaf_99 : decode cX10_leaf 99 = .ok (.iconst 1, 1) := by decide +kernel
theorem dX10_leaf_100 : decode cX10_leaf 100 = .ok (.iadd, 1) := by decide +kernel
theorem dX10_leaf_101 : decode cX10_leaf 101 = .ok (.ireturn, 1) := by decide +kernel
theorem dX10_leaf_102 : decode cX10_leaf 102 = .ok (.aload_n 0, 1) := by decide +kernel
theorem dX10_leaf_103 : decode cX10_leaf 103 = .ok (.iload_n 1, 1) := by decide +kernel
theorem dX10_leaf_104 : decode cX10_leaf 104 = .ok (.invokevirtual 166, 3) := by decide +kernel
theorem dX10_leaf_107 : decode cX10_leaf 107 = .ok (.ireturn, 1) := by decide +kernel
theorem dX10_leaf_108 : decode cX10_leaf 108 = .ok (.iload_n 1, 1) := by decide +kernel
theorem dX10_leaf_109 : decode cX10_leaf 109 = .ok (.aload_n 0, 1) := by decide +kernel
theorem dX10_leaf_110 : decode cX10_leaf 110 = .ok (.getfield 9, 3) := by decide +kernel
theorem dX10_leaf_113 : decode cX10_leaf 113 = .ok (.iconst 2, 1) := by decide +kernel
theorem dX10_leaf_114 : decode cX10_leaf 114 = .ok (.iaload, 1) := by decide +kernel
theorem dX10_leaf_115 : decode cX10_leaf 115 = .ok (.idiv, 1) := by decide +kernel
theorem dX10_leaf_116 : decode cX10_leaf 116 = .ok (.ireturn, 1) := by decide +kernel
theorem dX10_leaf_117 : decode cX10_leaf 117 = .ok (.aload_n 0, 1) := by decide +kernel
theorem dX10_leaf_118 : decode cX10_leaf 118 = .ok (.aload_n 0, 1) := by decide +kernel
theorem dX10_leaf_119 : decode cX10_leaf 119 = .ok (.iload_n 1, 1) := by decide +kernel
theorem dX10_leaf_120 : decode cX10_leaf 120 = .ok (.invokevirtual 446, 3) := by decide +kernel
theorem dX10_leaf_123 : decode cX10_leaf 123 = .ok (.invokevirtual 358, 3) := by decide +kernel
theorem dX10_leaf_126 : decode cX10_leaf 126 = .ok (.iconst 1, 1) := by decide +kernel
theorem dX10_leaf_127 : decode cX10_leaf 127 = .ok (.iadd, 1) := by decide +kernel
theorem dX10_leaf_128 : decode cX10_leaf 128 = .ok (.ireturn, 1) := by decide +kernel
theorem dX10_knownBy_0 : decode cX10_knownBy 0 = .ok (.iconst 0, 1) := by decide +kernel
theorem dX10_knownBy_1 : decode cX10_knownBy 1 = .ok (.istore_n 2, 1) := by decide +kernel
theorem dX10_knownBy_2 : decode cX10_knownBy 2 = .ok (.iconst 0, 1) := by decide +kernel
theorem dX10_knownBy_3 : decode cX10_knownBy 3 = .ok (.istore_n 3, 1) := by decide +kernel
theorem dX10_knownBy_4 : decode cX10_knownBy 4 = .ok (.iload_n 3, 1) := by decide +kernel
theorem dX10_knownBy_5 : decode cX10_knownBy 5 = .ok (.aload_n 0, 1) := by decide +kernel
theorem dX10_knownBy_6 : decode cX10_knownBy 6 = .ok (.getfield 9, 3) := by decide +kernel
theorem dX10_knownBy_9 : decode cX10_knownBy 9 = .ok (.iconst 4, 1) := by decide +kernel
theorem dX10_knownBy_10 : decode cX10_knownBy 10 = .ok (.iaload, 1) := by decide +kernel
theorem dX10_knownBy_11 : decode cX10_knownBy 11 = .ok (.if_icmp .ge 46, 3) := by decide +kernel
theorem dX10_knownBy_14 : decode cX10_knownBy 14 = .ok (.iload_n 2, 1) := by decide +kernel
theorem dX10_knownBy_15 : decode cX10_knownBy 15 = .ok (.aload_n 0, 1) := by decide +kernel
theorem dX10_knownBy_16 : decode cX10_knownBy 16 = .ok (.iload_n 1, 1) := by decide +kernel
theorem dX10_knownBy_17 : decode cX10_knownBy 17 = .ok (.iload_n 3, 1) := by decide +kernel
theorem dX10_knownBy_18 : decode cX10_knownBy 18 = .ok (.invokevirtual 364, 3) := by decide +kernel
theorem dX10_knownBy_21 : decode cX10_knownBy 21 = .ok (.ifCond .eq 24, 3) := by decide +kernel
theorem dX10_knownBy_24 : decode cX10_knownBy 24 = .ok (.aload_n 0, 1) := by decide +kernel
theorem dX10_knownBy_25 : decode cX10_knownBy 25 = .ok (.iload_n 3, 1) := by decide +kernel
theorem dX10_knownBy_26 : decode cX10_knownBy 26 = .ok (.invokevirtual 368, 3) := by decide +kernel
theorem dX10_knownBy_29 : decode cX10_knownBy 29 = .ok (.ifCond .eq 16, 3) := by decide +kernel
theorem dX10_knownBy_32 : decode cX10_knownBy 32 = .ok (.aload_n 0, 1) := by decide +kernel
theorem dX10_knownBy_33 : decode cX10_knownBy 33 = .ok (.iload_n 3, 1) := by decide +kernel
theorem dX10_knownBy_34 : decode cX10_knownBy 34 = .ok (.invokevirtual 371, 3) := by decide +kernel
theorem dX10_knownBy_37 : decode cX10_knownBy 37 = .ok (.iconst 1, 1) := by decide +kernel
theorem dX10_knownBy_38 : decode cX10_knownBy 38 = .ok (.if_icmp .ne 7, 3) := by decide +kernel
theorem dX10_knownBy_41 : decode cX10_knownBy 41 = .ok (.iconst 1, 1) := by decide +kernel
theorem dX10_knownBy_42 : decode cX10_knownBy 42 = .ok (.goto 4, 3) := by decide +kernel
theorem dX10_knownBy_45 : decode cX10_knownBy 45 = .ok (.iconst 0, 1) := by decide +kernel
theorem dX10_knownBy_46 : decode cX10_knownBy 46 = .ok (.invokestatic 333, 3) := by decide +kernel
theorem dX10_knownBy_49 : decode cX10_knownBy 49 = .ok (.iadd, 1) := by decide +kernel
theorem dX10_knownBy_50 : decode cX10_knownBy 50 = .ok (.istore_n 2, 1) := by decide +kernel
theorem dX10_knownBy_51 : decode cX10_knownBy 51 = .ok (.iinc 3 1, 3) := by decide +kernel
theorem dX10_knownBy_54 : decode cX10_knownBy 54 = .ok (.goto (-50), 3) := by decide +kernel
theorem dX10_knownBy_57 : decode cX10_knownBy 57 = .ok (.iload_n 2, 1) := by decide +kernel
theorem dX10_knownBy_58 : decode cX10_knownBy 58 = .ok (.ireturn, 1) := by decide +kernel
theorem dX10_copy_0 : decode cX10_copy 0 = .ok (.aload_n 0, 1) := by decide +kernel
theorem dX10_copy_1 : decode cX10_copy 1 = .ok (.aload_n 0, 1) := by decide +kernel
theorem dX10_copy_2 : decode cX10_copy 2 = .ok (.getfield 48, 3) := by decide +kernel
theorem dX10_copy_5 : decode cX10_copy 5 = .ok (.aload_n 0, 1) := by decide +kernel
theorem dX10_copy_6 : decode cX10_copy 6 = .ok (.iload_n 1, 1) := by decide +kernel
theorem dX10_copy_7 : decode cX10_copy 7 = .ok (.invokevirtual 405, 3) := by decide +kernel
theorem dX10_copy_10 : decode cX10_copy 10 = .ok (.iload_n 2, 1) := by decide +kernel
theorem dX10_copy_11 : decode cX10_copy 11 = .ok (.iconst 0, 1) := by decide +kernel
theorem dX10_copy_12 : decode cX10_copy 12 = .ok (.iconst 4, 1) := by decide +kernel
theorem dX10_copy_13 : decode cX10_copy 13 = .ok (.invokestatic 69, 3) := by decide +kernel
theorem dX10_copy_16 : decode cX10_copy 16 = .ok (.invokevirtual 44, 3) := by decide +kernel
theorem dX10_copy_19 : decode cX10_copy 19 = .ok (.ifCond .ne 5, 3) := by decide +kernel
theorem dX10_copy_22 : decode cX10_copy 22 = .ok (.iconst 0, 1) := by decide +kernel
theorem dX10_copy_23 : decode cX10_copy 23 = .ok (.ireturn, 1) := by decide +kernel
theorem dX10_copy_24 : decode cX10_copy 24 = .ok (.iload_n 2, 1) := by decide +kernel
theorem dX10_copy_25 : decode cX10_copy 25 = .ok (.tableswitch 74 0 3 #[31, 40, 47, 64], 31) := by decide +kernel
theorem dX10_copy_56 : decode cX10_copy 56 = .ok (.aload_n 0, 1) := by decide +kernel
theorem dX10_copy_57 : decode cX10_copy 57 = .ok (.iload_n 1, 1) := by decide +kernel
theorem dX10_copy_58 : decode cX10_copy 58 = .ok (.iconst 0, 1) := by decide +kernel
theorem dX10_copy_59 : decode cX10_copy 59 = .ok (.invokevirtual 355, 3) := by decide +kernel
theorem dX10_copy_62 : decode cX10_copy 62 = .ok (.iconst 1, 1) := by decide +kernel
theorem dX10_copy_63 : decode cX10_copy 63 = .ok (.iadd, 1) := by decide +kernel
theorem dX10_copy_64 : decode cX10_copy 64 = .ok (.ireturn, 1) := by decide +kernel
theorem dX10_copy_65 : decode cX10_copy 65 = .ok (.aload_n 0, 1) := by decide +kernel
theorem dX10_copy_66 : decode cX10_copy 66 = .ok (.iload_n 1, 1) := by decide +kernel
theorem dX10_copy_67 : decode cX10_copy 67 = .ok (.iconst 1, 1) := by decide +kernel
theorem dX10_copy_68 : decode cX10_copy 68 = .ok (.invokevirtual 355, 3) := by decide +kernel
theorem dX10_copy_71 : decode cX10_copy 71 = .ok (.ireturn, 1) := by decide +kernel
theorem dX10_copy_72 : decode cX10_copy 72 = .ok (.aload_n 0, 1) := by decide +kernel
theorem dX10_copy_73 : decode cX10_copy 73 = .ok (.aload_n 0, 1) := by decide +kernel
theorem dX10_copy_74 : decode cX10_copy 74 = .ok (.iload_n 1, 1) := by decide +kernel
theorem dX10_copy_75 : decode cX10_copy 75 = .ok (.iconst 0, 1) := by decide +kernel
theorem dX10_copy_76 : decode cX10_copy 76 = .ok (.invokevirtual 355, 3) := by decide +kernel
theorem dX10_copy_79 : decode cX10_copy 79 = .ok (.aload_n 0, 1) := by decide +kernel
theorem dX10_copy_80 : decode cX10_copy 80 = .ok (.iload_n 1, 1) := by decide +kernel
theorem dX10_copy_81 : decode cX10_copy 81 = .ok (.iconst 1, 1) := by decide +kernel
theorem dX10_copy_82 : decode cX10_copy 82 = .ok (.invokevirtual 355, 3) := by decide +kernel
theorem dX10_copy_85 : decode cX10_copy 85 = .ok (.invokevirtual 449, 3) := by decide +kernel
theorem dX10_copy_88 : decode cX10_copy 88 = .ok (.ireturn, 1) := by decide +kernel
theorem dX10_copy_89 : decode cX10_copy 89 = .ok (.aload_n 0, 1) := by decide +kernel
theorem dX10_copy_90 : decode cX10_copy 90 = .ok (.iload_n 1, 1) := by decide +kernel
theorem dX10_copy_91 : decode cX10_copy 91 = .ok (.iconst 1, 1) := by decide +kernel
theorem dX10_copy_92 : decode cX10_copy 92 = .ok (.invokevirtual 355, 3) := by decide +kernel
theorem dX10_copy_95 : decode cX10_copy 95 = .ok (.invokestatic 377, 3) := by decide +kernel
theorem dX10_copy_98 : decode cX10_copy 98 = .ok (.ireturn, 1) := by decide +kernel
theorem dX10_copy_99 : decode cX10_copy 99 = .ok (.aload_n 0, 1) := by decide +kernel
theorem dX10_copy_100 : decode cX10_copy 100 = .ok (.iload_n 1, 1) := by decide +kernel
theorem dX10_copy_101 : decode cX10_copy 101 = .ok (.invokevirtual 452, 3) := by decide +kernel
theorem dX10_copy_104 : decode cX10_copy 104 = .ok (.ireturn, 1) := by decide +kernel
theorem dX10_has_0 : decode cX10_has 0 = .ok (.aload_n 0, 1) := by decide +kernel
theorem dX10_has_1 : decode cX10_has 1 = .ok (.aload_n 0, 1) := by decide +kernel
theorem dX10_has_2 : decode cX10_has 2 = .ok (.getfield 48, 3) := by decide +kernel
theorem dX10_has_5 : decode cX10_has 5 = .ok (.aload_n 0, 1) := by decide +kernel
theorem dX10_has_6 : decode cX10_has 6 = .ok (.iload_n 1, 1) := by decide +kernel
theorem dX10_has_7 : decode cX10_has 7 = .ok (.invokevirtual 405, 3) := by decide +kernel
theorem dX10_has_10 : decode cX10_has 10 = .ok (.ifCond .eq 23, 3) := by decide +kernel
theorem dX10_has_13 : decode cX10_has 13 = .ok (.aload_n 0, 1) := by decide +kernel
theorem dX10_has_14 : decode cX10_has 14 = .ok (.aload_n 0, 1) := by decide +kernel
theorem dX10_has_15 : decode cX10_has 15 = .ok (.iload_n 1, 1) := by decide +kernel
theorem dX10_has_16 : decode cX10_has 16 = .ok (.iconst 0, 1) := by decide +kernel
theorem dX10_has_17 : decode cX10_has 17 = .ok (.invokevirtual 355, 3) := by decide +kernel
theorem dX10_has_20 : decode cX10_has 20 = .ok (.iconst 1, 1) := by decide +kernel
theorem dX10_has_21 : decode cX10_has 21 = .ok (.iadd, 1) := by decide +kernel
theorem dX10_has_22 : decode cX10_has 22 = .ok (.iload_n 2, 1) := by decide +kernel
theorem dX10_has_23 : decode cX10_has 23 = .ok (.invokevirtual 422, 3) := by decide +kernel
theorem dX10_has_26 : decode cX10_has 26 = .ok (.ifCond .eq 7, 3) := by decide +kernel
theorem dX10_has_29 : decode cX10_has 29 = .ok (.iconst 1, 1) := by decide +kernel
theorem dX10_has_30 : decode cX10_has 30 = .ok (.goto 4, 3) := by decide +kernel
theorem dX10_has_33 : decode cX10_has 33 = .ok (.iconst 0, 1) := by decide +kernel
theorem dX10_has_34 : decode cX10_has 34 = .ok (.invokevirtual 380, 3) := by decide +kernel
theorem dX10_has_37 : decode cX10_has 37 = .ok (.ifCond .ne 5, 3) := by decide +kernel
theorem dX10_has_40 : decode cX10_has 40 = .ok (.iconst 0, 1) := by decide +kernel
theorem dX10_has_41 : decode cX10_has 41 = .ok (.ireturn, 1) := by decide +kernel
theorem dX10_has_42 : decode cX10_has 42 = .ok (.aload_n 0, 1) := by decide +kernel
theorem dX10_has_43 : decode cX10_has 43 = .ok (.iload_n 1, 1) := by decide +kernel
theorem dX10_has_44 : decode cX10_has 44 = .ok (.aload_n 0, 1) := by decide +kernel
theorem dX10_has_45 : decode cX10_has 45 = .ok (.aload_n 0, 1) := by decide +kernel
theorem dX10_has_46 : decode cX10_has 46 = .ok (.iload_n 1, 1) := by decide +kernel
theorem dX10_has_47 : decode cX10_has 47 = .ok (.iconst 0, 1) := by decide +kernel
theorem dX10_has_48 : decode cX10_has 48 = .ok (.invokevirtual 355, 3) := by decide +kernel
theorem dX10_has_51 : decode cX10_has 51 = .ok (.iconst 1, 1) := by decide +kernel
theorem dX10_has_52 : decode cX10_has 52 = .ok (.iadd, 1) := by decide +kernel
theorem dX10_has_53 : decode cX10_has 53 = .ok (.iload_n 2, 1) := by decide +kernel
theorem dX10_has_54 : decode cX10_has 54 = .ok (.invokevirtual 425, 3) := by decide +kernel
theorem dX10_has_57 : decode cX10_has 57 = .ok (.invokevirtual 364, 3) := by decide +kernel
theorem dX10_has_60 : decode cX10_has 60 = .ok (.ireturn, 1) := by decide +kernel
theorem dX10_known_0 : decode cX10_known 0 = .ok (.aload_n 0, 1) := by decide +kernel
theorem dX10_known_1 : decode cX10_known 1 = .ok (.iload_n 1, 1) := by decide +kernel
theorem dX10_known_2 : decode cX10_known 2 = .ok (.invokevirtual 455, 3) := by decide +kernel
theorem dX10_known_5 : decode cX10_known 5 = .ok (.ifCond .ne 5, 3) := by decide +kernel
theorem dX10_known_8 : decode cX10_known 8 = .ok (.iconst 0, 1) := by decide +kernel
theorem dX10_known_9 : decode cX10_known 9 = .ok (.ireturn, 1) := by decide +kernel
theorem dX10_known_10 : decode cX10_known 10 = .ok (.iconst 0, 1) := by decide +kernel
theorem dX10_known_11 : decode cX10_known 11 = .ok (.istore_n 2, 1) := by decide +kernel
theorem dX10_known_12 : decode cX10_known 12 = .ok (.aload_n 0, 1) := by decide +kernel
theorem dX10_known_13 : decode cX10_known 13 = .ok (.iload_n 1, 1) := by decide +kernel
theorem dX10_known_14 : decode cX10_known 14 = .ok (.iconst 1, 1) := by decide +kernel
theorem dX10_known_15 : decode cX10_known 15 = .ok (.isub, 1) := by decide +kernel
theorem dX10_known_16 : decode cX10_known 16 = .ok (.iconst 5, 1) := by decide +kernel
theorem dX10_known_17 : decode cX10_known 17 = .ok (.invokevirtual 138, 3) := by decide +kernel
theorem dX10_known_20 : decode cX10_known 20 = .ok (.istore_n 3, 1) := by decide +kernel
theorem dX10_known_21 : decode cX10_known 21 = .ok (.iload_n 3, 1) := by decide +kernel
theorem dX10_known_22 : decode cX10_known 22 = .ok (.aload_n 0, 1) := by decide +kernel
theorem dX10_known_23 : decode cX10_known 23 = .ok (.iload_n 1, 1) := by decide +kernel
theorem dX10_known_24 : decode cX10_known 24 = .ok (.iconst 1, 1) := by decide +kernel
theorem dX10_known_25 : decode cX10_known 25 = .ok (.isub, 1) := by decide +kernel
theorem dX10_known_26 : decode cX10_known 26 = .ok (.invokevirtual 327, 3) := by decide +kernel
theorem dX10_known_29 : decode cX10_known 29 = .ok (.if_icmp .gt 20, 3) := by decide +kernel
theorem dX10_known_32 : decode cX10_known 32 = .ok (.iload_n 2, 1) := by decide +kernel
theorem dX10_known_33 : decode cX10_known 33 = .ok (.aload_n 0, 1) := by decide +kernel
theorem dX10_known_34 : decode cX10_known 34 = .ok (.iload_n 3, 1) := by decide +kernel
theorem dX10_known_35 : decode cX10_known 35 = .ok (.invokevirtual 374, 3) := by decide +kernel
theorem dX10_known_38 : decode cX10_known 38 = .ok (.invokestatic 333, 3) := by decide +kernel
theorem dX10_known_41 : decode cX10_known 41 = .ok (.iadd, 1) := by decide +kernel
theorem dX10_known_42 : decode cX10_known 42 = .ok (.istore_n 2, 1) := by decide +kernel
theorem dX10_known_43 : decode cX10_known 43 = .ok (.iinc 3 1, 3) := by decide +kernel
theorem dX10_known_46 : decode cX10_known 46 = .ok (.goto (-25), 3) := by decide +kernel
theorem dX10_known_49 : decode cX10_known 49 = .ok (.iload_n 2, 1) := by decide +kernel
theorem dX10_known_50 : decode cX10_known 50 = .ok (.ireturn, 1) := by decide +kernel
theorem dX10_firstUnknown_0 : decode cX10_firstUnknown 0 = .ok (.aload_n 0, 1) := by decide +kernel
theorem dX10_firstUnknown_1 : decode cX10_firstUnknown 1 = .ok (.iload_n 1, 1) := by decide +kernel
theorem dX10_firstUnknown_2 : decode cX10_firstUnknown 2 = .ok (.invokevirtual 455, 3) := by decide +kernel
theorem dX10_firstUnknown_5 : decode cX10_firstUnknown 5 = .ok (.ifCond .ne 5, 3) := by decide +kernel
theorem dX10_firstUnknown_8 : decode cX10_firstUnknown 8 = .ok (.iconst 0, 1) := by decide +kernel
theorem dX10_firstUnknown_9 : decode cX10_firstUnknown 9 = .ok (.ireturn, 1) := by decide +kernel
theorem dX10_firstUnknown_10 : decode cX10_firstUnknown 10 = .ok (.iconst 0, 1) := by decide +kernel
theorem dX10_firstUnknown_11 : decode cX10_firstUnknown 11 = .ok (.istore_n 2, 1) := by decide +kernel
theorem dX10_firstUnknown_12 : decode cX10_firstUnknown 12 = .ok (.iload_n 2, 1) := by decide +kernel
theorem dX10_firstUnknown_13 : decode cX10_firstUnknown 13 = .ok (.aload_n 0, 1) := by decide +kernel
theorem dX10_firstUnknown_14 : decode cX10_firstUnknown 14 = .ok (.iload_n 1, 1) := by decide +kernel
theorem dX10_firstUnknown_15 : decode cX10_firstUnknown 15 = .ok (.iconst 1, 1) := by decide +kernel
theorem dX10_firstUnknown_16 : decode cX10_firstUnknown 16 = .ok (.isub, 1) := by decide +kernel
theorem dX10_firstUnknown_17 : decode cX10_firstUnknown 17 = .ok (.bipush 6, 2) := by decide +kernel
theorem dX10_firstUnknown_19 : decode cX10_firstUnknown 19 = .ok (.invokevirtual 138, 3) := by decide +kernel
theorem dX10_firstUnknown_22 : decode cX10_firstUnknown 22 = .ok (.if_icmp .ge 24, 3) := by decide +kernel
theorem dX10_firstUnknown_25 : decode cX10_firstUnknown 25 = .ok (.aload_n 0, 1) := by decide +kernel
theorem dX10_firstUnknown_26 : decode cX10_firstUnknown 26 = .ok (.aload_n 0, 1) := by decide +kernel
theorem dX10_firstUnknown_27 : decode cX10_firstUnknown 27 = .ok (.iload_n 1, 1) := by decide +kernel
theorem dX10_firstUnknown_28 : decode cX10_firstUnknown 28 = .ok (.iload_n 2, 1) := by decide +kernel
theorem dX10_firstUnknown_29 : decode cX10_firstUnknown 29 = .ok (.invokevirtual 425, 3) := by decide +kernel
theorem dX10_firstUnknown_32 : decode cX10_firstUnknown 32 = .ok (.invokevirtual 374, 3) := by decide +kernel
theorem dX10_firstUnknown_35 : decode cX10_firstUnknown 35 = .ok (.ifCond .ne 5, 3) := by decide +kernel
theorem dX10_firstUnknown_38 : decode cX10_firstUnknown 38 = .ok (.iload_n 2, 1) := by decide +kernel
theorem dX10_firstUnknown_39 : decode cX10_firstUnknown 39 = .ok (.ireturn, 1) := by decide +kernel
theorem dX10_firstUnknown_40 : decode cX10_firstUnknown 40 = .ok (.iinc 2 1, 3) := by decide +kernel
theorem dX10_firstUnknown_43 : decode cX10_firstUnknown 43 = .ok (.goto (-31), 3) := by decide +kernel
theorem dX10_firstUnknown_46 : decode cX10_firstUnknown 46 = .ok (.iconst (-1), 1) := by decide +kernel
theorem dX10_firstUnknown_47 : decode cX10_firstUnknown 47 = .ok (.ireturn, 1) := by decide +kernel
theorem dX10_standingIn_0 : decode cX10_standingIn 0 = .ok (.iconst 0, 1) := by decide +kernel
theorem dX10_standingIn_1 : decode cX10_standingIn 1 = .ok (.istore_n 3, 1) := by decide +kernel
theorem dX10_standingIn_2 : decode cX10_standingIn 2 = .ok (.aload_n 0, 1) := by decide +kernel
theorem dX10_standingIn_3 : decode cX10_standingIn 3 = .ok (.iload_n 1, 1) := by decide +kernel
theorem dX10_standingIn_4 : decode cX10_standingIn 4 = .ok (.iconst 5, 1) := by decide +kernel
theorem dX10_standingIn_5 : decode cX10_standingIn 5 = .ok (.invokevirtual 138, 3) := by decide +kernel
theorem dX10_standingIn_8 : decode cX10_standingIn 8 = .ok (.istore 4, 2) := by decide +kernel
theorem dX10_standingIn_10 : decode cX10_standingIn 10 = .ok (.iload 4, 2) := by decide +kernel
theorem dX10_standingIn_12 : decode cX10_standingIn 12 = .ok (.aload_n 0, 1) := by decide +kernel
theorem dX10_standingIn_13 : decode cX10_standingIn 13 = .ok (.iload_n 1, 1) := by decide +kernel
theorem dX10_standingIn_14 : decode cX10_standingIn 14 = .ok (.invokevirtual 327, 3) := by decide +kernel
theorem dX10_standingIn_17 : decode cX10_standingIn 17 = .ok (.if_icmp .gt 44, 3) := by decide +kernel
theorem dX10_standingIn_20 : decode cX10_standingIn 20 = .ok (.iload_n 3, 1) := by decide +kernel
theorem dX10_standingIn_21 : decode cX10_standingIn 21 = .ok (.aload_n 0, 1) := by decide +kernel
theorem dX10_standingIn_22 : decode cX10_standingIn 22 = .ok (.iload 4, 2) := by decide +kernel
theorem dX10_standingIn_24 : decode cX10_standingIn 24 = .ok (.iconst 3, 1) := by decide +kernel
theorem dX10_standingIn_25 : decode cX10_standingIn 25 = .ok (.invokevirtual 209, 3) := by decide +kernel
theorem dX10_standingIn_28 : decode cX10_standingIn 28 = .ok (.iload_n 2, 1) := by decide +kernel
theorem dX10_standingIn_29 : decode cX10_standingIn 29 = .ok (.if_icmp .ne 23, 3) := by decide +kernel
theorem dX10_standingIn_32 : decode cX10_standingIn 32 = .ok (.aload_n 0, 1) := by decide +kernel
theorem dX10_standingIn_33 : decode cX10_standingIn 33 = .ok (.iload 4, 2) := by decide +kernel
theorem dX10_standingIn_35 : decode cX10_standingIn 35 = .ok (.invokevirtual 330, 3) := by decide +kernel
theorem dX10_standingIn_38 : decode cX10_standingIn 38 = .ok (.invokestatic 333, 3) := by decide +kernel
theorem dX10_standingIn_41 : decode cX10_standingIn 41 = .ok (.aload_n 0, 1) := by decide +kernel
theorem dX10_standingIn_42 : decode cX10_standingIn 42 = .ok (.iload 4, 2) := by decide +kernel
theorem dX10_standingIn_44 : decode cX10_standingIn 44 = .ok (.iconst 4, 1) := by decide +kernel
theorem dX10_standingIn_45 : decode cX10_standingIn 45 = .ok (.invokevirtual 209, 3) := by decide +kernel
theorem dX10_standingIn_48 : decode cX10_standingIn 48 = .ok (.iadd, 1) := by decide +kernel
theorem dX10_standingIn_49 : decode cX10_standingIn 49 = .ok (.goto 4, 3) := by decide +kernel
theorem dX10_standingIn_52 : decode cX10_standingIn 52 = .ok (.iconst 0, 1) := by decide +kernel
theorem dX10_standingIn_53 : decode cX10_standingIn 53 = .ok (.iadd, 1) := by decide +kernel
theorem dX10_standingIn_54 : decode cX10_standingIn 54 = .ok (.istore_n 3, 1) := by decide +kernel
theorem dX10_standingIn_55 : decode cX10_standingIn 55 = .ok (.iinc 4 1, 3) := by decide +kernel
theorem dX10_standingIn_58 : decode cX10_standingIn 58 = .ok (.goto (-48), 3) := by decide +kernel
theorem dX10_standingIn_61 : decode cX10_standingIn 61 = .ok (.iload_n 3, 1) := by decide +kernel
theorem dX10_standingIn_62 : decode cX10_standingIn 62 = .ok (.ireturn, 1) := by decide +kernel
theorem dX10_standingByClauses_0 : decode cX10_standingByClauses 0 = .ok (.iconst 0, 1) := by decide +kernel
theorem dX10_standingByClauses_1 : decode cX10_standingByClauses 1 = .ok (.istore_n 2, 1) := by decide +kernel
theorem dX10_standingByClauses_2 : decode cX10_standingByClauses 2 = .ok (.iconst (-1), 1) := by decide +kernel
theorem dX10_standingByClauses_3 : decode cX10_standingByClauses 3 = .ok (.istore_n 3, 1) := by decide +kernel
theorem dX10_standingByClauses_4 : decode cX10_standingByClauses 4 = .ok (.iload_n 3, 1) := by decide +kernel
theorem dX10_standingByClauses_5 : decode cX10_standingByClauses 5 = .ok (.aload_n 0, 1) := by decide +kernel
theorem dX10_standingByClauses_6 : decode cX10_standingByClauses 6 = .ok (.iload_n 1, 1) := by decide +kernel
theorem dX10_standingByClauses_7 : decode cX10_standingByClauses 7 = .ok (.bipush 8, 2) := by decide +kernel
theorem dX10_standingByClauses_9 : decode cX10_standingByClauses 9 = .ok (.invokevirtual 138, 3) := by decide +kernel
theorem dX10_standingByClauses_12 : decode cX10_standingByClauses 12 = .ok (.if_icmp .ge 37, 3) := by decide +kernel
theorem dX10_standingByClauses_15 : decode cX10_standingByClauses 15 = .ok (.iload_n 2, 1) := by decide +kernel
theorem dX10_standingByClauses_16 : decode cX10_standingByClauses 16 = .ok (.aload_n 0, 1) := by decide +kernel
theorem dX10_standingByClauses_17 : decode cX10_standingByClauses 17 = .ok (.iload_n 1, 1) := by decide +kernel
theorem dX10_standingByClauses_18 : decode cX10_standingByClauses 18 = .ok (.iload_n 3, 1) := by decide +kernel
theorem dX10_standingByClauses_19 : decode cX10_standingByClauses 19 = .ok (.iconst (-1), 1) := by decide +kernel
theorem dX10_standingByClauses_20 : decode cX10_standingByClauses 20 = .ok (.if_icmp .ne 7, 3) := by decide +kernel
theorem dX10_standingByClauses_23 : decode cX10_standingByClauses 23 = .ok (.iconst 0, 1) := by decide +kernel
theorem dX10_standingByClauses_24 : decode cX10_standingByClauses 24 = .ok (.goto 14, 3) := by decide +kernel
theorem dX10_standingByClauses_27 : decode cX10_standingByClauses 27 = .ok (.aload_n 0, 1) := by decide +kernel
theorem dX10_standingByClauses_28 : decode cX10_standingByClauses 28 = .ok (.iload_n 1, 1) := by decide +kernel
theorem dX10_standingByClauses_29 : decode cX10_standingByClauses 29 = .ok (.bipush 7, 2) := by decide +kernel
theorem dX10_standingByClauses_31 : decode cX10_standingByClauses 31 = .ok (.invokevirtual 138, 3) := by decide +kernel
theorem dX10_standingByClauses_34 : decode cX10_standingByClauses 34 = .ok (.iload_n 3, 1) := by decide +kernel
theorem dX10_standingByClauses_35 : decode cX10_standingByClauses 35 = .ok (.iadd, 1) := by decide +kernel
theorem dX10_standingByClauses_36 : decode cX10_standingByClauses 36 = .ok (.iconst 1, 1) := by decide +kernel
theorem dX10_standingByClauses_37 : decode cX10_standingByClauses 37 = .ok (.iadd, 1) := by decide +kernel
theorem dX10_standingByClauses_38 : decode cX10_standingByClauses 38 = .ok (.invokevirtual 458, 3) := by decide +kernel
theorem dX10_standingByClauses_41 : decode cX10_standingByClauses 41 = .ok (.iadd, 1) := by decide +kernel
theorem dX10_standingByClauses_42 : decode cX10_standingByClauses 42 = .ok (.istore_n 2, 1) := by decide +kernel
theorem dX10_standingByClauses_43 : decode cX10_standingByClauses 43 = .ok (.iinc 3 1, 3) := by decide +kernel
theorem dX10_standingByClauses_46 : decode cX10_standingByClauses 46 = .ok (.goto (-42), 3) := by decide +kernel
theorem dX10_standingByClauses_49 : decode cX10_standingByClauses 49 = .ok (.iload_n 2, 1) := by decide +kernel
theorem dX10_standingByClauses_50 : decode cX10_standingByClauses 50 = .ok (.ireturn, 1) := by decide +kernel
theorem dX10_gap_0 : decode cX10_gap 0 = .ok (.aload_n 0, 1) := by decide +kernel
theorem dX10_gap_1 : decode cX10_gap 1 = .ok (.invokevirtual 461, 3) := by decide +kernel
theorem dX10_gap_4 : decode cX10_gap 4 = .ok (.ifCond .ne 5, 3) := by decide +kernel
theorem dX10_gap_7 : decode cX10_gap 7 = .ok (.iconst 0, 1) := by decide +kernel
theorem dX10_gap_8 : decode cX10_gap 8 = .ok (.ireturn, 1) := by decide +kernel
theorem dX10_gap_9 : decode cX10_gap 9 = .ok (.iconst 0, 1) := by decide +kernel
theorem dX10_gap_10 : decode cX10_gap 10 = .ok (.istore_n 1, 1) := by decide +kernel
theorem dX10_gap_11 : decode cX10_gap 11 = .ok (.aload_n 0, 1) := by decide +kernel
theorem dX10_gap_12 : decode cX10_gap 12 = .ok (.getfield 9, 3) := by decide +kernel
theorem dX10_gap_15 : decode cX10_gap 15 = .ok (.bipush 8, 2) := by decide +kernel
theorem dX10_gap_17 : decode cX10_gap 17 = .ok (.iaload, 1) := by decide +kernel
theorem dX10_gap_18 : decode cX10_gap 18 = .ok (.istore_n 2, 1) := by decide +kernel
theorem dX10_gap_19 : decode cX10_gap 19 = .ok (.iconst 0, 1) := by decide +kernel
theorem dX10_gap_20 : decode cX10_gap 20 = .ok (.istore_n 3, 1) := by decide +kernel
theorem dX10_gap_21 : decode cX10_gap 21 = .ok (.iconst 0, 1) := by decide +kernel
theorem dX10_gap_22 : decode cX10_gap 22 = .ok (.istore 4, 2) := by decide +kernel
theorem dX10_gap_24 : decode cX10_gap 24 = .ok (.iload 4, 2) := by decide +kernel
theorem dX10_gap_26 : decode cX10_gap 26 = .ok (.aload_n 0, 1) := by decide +kernel
theorem dX10_gap_27 : decode cX10_gap 27 = .ok (.invokevirtual 231, 3) := by decide +kernel
theorem dX10_gap_30 : decode cX10_gap 30 = .ok (.if_icmp .ge 27, 3) := by decide +kernel
theorem dX10_gap_33 : decode cX10_gap 33 = .ok (.iload_n 1, 1) := by decide +kernel
theorem dX10_gap_34 : decode cX10_gap 34 = .ok (.aload_n 0, 1) := by decide +kernel
theorem dX10_gap_35 : decode cX10_gap 35 = .ok (.iload 4, 2) := by decide +kernel
theorem dX10_gap_37 : decode cX10_gap 37 = .ok (.invokevirtual 443, 3) := by decide +kernel
theorem dX10_gap_40 : decode cX10_gap 40 = .ok (.aload_n 0, 1) := by decide +kernel
theorem dX10_gap_41 : decode cX10_gap 41 = .ok (.iload 4, 2) := by decide +kernel
theorem dX10_gap_43 : decode cX10_gap 43 = .ok (.invokevirtual 446, 3) := by decide +kernel
theorem dX10_gap_46 : decode cX10_gap 46 = .ok (.isub, 1) := by decide +kernel
theorem dX10_gap_47 : decode cX10_gap 47 = .ok (.iconst 1, 1) := by decide +kernel
theorem dX10_gap_48 : decode cX10_gap 48 = .ok (.iadd, 1) := by decide +kernel
theorem dX10_gap_49 : decode cX10_gap 49 = .ok (.iadd, 1) := by decide +kernel
theorem dX10_gap_50 : decode cX10_gap 50 = .ok (.istore_n 1, 1) := by decide +kernel
theorem dX10_gap_51 : decode cX10_gap 51 = .ok (.iinc 4 1, 3) := by decide +kernel
theorem dX10_gap_54 : decode cX10_gap 54 = .ok (.goto (-30), 3) := by decide +kernel
theorem dX10_gap_57 : decode cX10_gap 57 = .ok (.iconst 0, 1) := by decide +kernel
theorem dX10_gap_58 : decode cX10_gap 58 = .ok (.istore 4, 2) := by decide +kernel
theorem dX10_gap_60 : decode cX10_gap 60 = .ok (.iload 4, 2) := by decide +kernel
theorem dX10_gap_62 : decode cX10_gap 62 = .ok (.aload_n 0, 1) := by decide +kernel
theorem dX10_gap_63 : decode cX10_gap 63 = .ok (.getfield 9, 3) := by decide +kernel
theorem dX10_gap_66 : decode cX10_gap 66 = .ok (.iconst 3, 1) := by decide +kernel
theorem dX10_gap_67 : decode cX10_gap 67 = .ok (.iaload, 1) := by decide +kernel
theorem dX10_gap_68 : decode cX10_gap 68 = .ok (.if_icmp .ge 45, 3) := by decide +kernel
theorem dX10_gap_71 : decode cX10_gap 71 = .ok (.iload_n 3, 1) := by decide +kernel
theorem dX10_gap_72 : decode cX10_gap 72 = .ok (.aload_n 0, 1) := by decide +kernel
theorem dX10_gap_73 : decode cX10_gap 73 = .ok (.iload 4, 2) := by decide +kernel
theorem dX10_gap_75 : decode cX10_gap 75 = .ok (.invokevirtual 465, 3) := by decide +kernel
theorem dX10_gap_78 : decode cX10_gap 78 = .ok (.aload_n 0, 1) := by decide +kernel
theorem dX10_gap_79 : decode cX10_gap 79 = .ok (.iload 4, 2) := by decide +kernel
theorem dX10_gap_81 : decode cX10_gap 81 = .ok (.invokevirtual 343, 3) := by decide +kernel
theorem dX10_gap_84 : decode cX10_gap 84 = .ok (.if_icmp .eq 7, 3) := by decide +kernel
theorem dX10_gap_87 : decode cX10_gap 87 = .ok (.iconst 1, 1) := by decide +kernel
theorem dX10_gap_88 : decode cX10_gap 88 = .ok (.goto 4, 3) := by decide +kernel
theorem dX10_gap_91 : decode cX10_gap 91 = .ok (.iconst 0, 1) := by decide +kernel
theorem dX10_gap_92 : decode cX10_gap 92 = .ok (.invokestatic 333, 3) := by decide +kernel
theorem dX10_gap_95 : decode cX10_gap 95 = .ok (.iadd, 1) := by decide +kernel
theorem dX10_gap_96 : decode cX10_gap 96 = .ok (.istore_n 3, 1) := by decide +kernel
theorem dX10_gap_97 : decode cX10_gap 97 = .ok (.iload_n 2, 1) := by decide +kernel
theorem dX10_gap_98 : decode cX10_gap 98 = .ok (.aload_n 0, 1) := by decide +kernel
theorem dX10_gap_99 : decode cX10_gap 99 = .ok (.iload 4, 2) := by decide +kernel
theorem dX10_gap_101 : decode cX10_gap 101 = .ok (.iconst 4, 1) := by decide +kernel
theorem dX10_gap_102 : decode cX10_gap 102 = .ok (.invokevirtual 138, 3) := by decide +kernel
theorem dX10_gap_105 : decode cX10_gap 105 = .ok (.iadd, 1) := by decide +kernel
theorem dX10_gap_106 : decode cX10_gap 106 = .ok (.istore_n 2, 1) := by decide +kernel
theorem dX10_gap_107 : decode cX10_gap 107 = .ok (.iinc 4 1, 3) := by decide +kernel
theorem dX10_gap_110 : decode cX10_gap 110 = .ok (.goto (-50), 3) := by decide +kernel
theorem dX10_gap_113 : decode cX10_gap 113 = .ok (.iconst 0, 1) := by decide +kernel
theorem dX10_gap_114 : decode cX10_gap 114 = .ok (.istore 4, 2) := by decide +kernel
theorem dX10_gap_116 : decode cX10_gap 116 = .ok (.iload 4, 2) := by decide +kernel
theorem dX10_gap_118 : decode cX10_gap 118 = .ok (.aload_n 0, 1) := by decide +kernel
theorem dX10_gap_119 : decode cX10_gap 119 = .ok (.getfield 9, 3) := by decide +kernel
theorem dX10_gap_122 : decode cX10_gap 122 = .ok (.bipush 6, 2) := by decide +kernel
theorem dX10_gap_124 : decode cX10_gap 124 = .ok (.iaload, 1) := by decide +kernel
theorem dX10_gap_125 : decode cX10_gap 125 = .ok (.if_icmp .ge 22, 3) := by decide +kernel
theorem dX10_gap_128 : decode cX10_gap 128 = .ok (.iload_n 2, 1) := by decide +kernel
theorem dX10_gap_129 : decode cX10_gap 129 = .ok (.aload_n 0, 1) := by decide +kernel
theorem dX10_gap_130 : decode cX10_gap 130 = .ok (.iload 4, 2) := by decide +kernel
theorem dX10_gap_132 : decode cX10_gap 132 = .ok (.iconst 1, 1) := by decide +kernel
theorem dX10_gap_133 : decode cX10_gap 133 = .ok (.invokevirtual 355, 3) := by decide +kernel
theorem dX10_gap_136 : decode cX10_gap 136 = .ok (.invokestatic 377, 3) := by decide +kernel
theorem dX10_gap_139 : decode cX10_gap 139 = .ok (.iadd, 1) := by decide +kernel
theorem dX10_gap_140 : decode cX10_gap 140 = .ok (.istore_n 2, 1) := by decide +kernel
theorem dX10_gap_141 : decode cX10_gap 141 = .ok (.iinc 4 1, 3) := by decide +kernel
theorem dX10_gap_144 : decode cX10_gap 144 = .ok (.goto (-28), 3) := by decide +kernel
theorem dX10_gap_147 : decode cX10_gap 147 = .ok (.iload_n 3, 1) := by decide +kernel
theorem dX10_gap_148 : decode cX10_gap 148 = .ok (.iload_n 1, 1) := by decide +kernel
theorem dX10_gap_149 : decode cX10_gap 149 = .ok (.aload_n 0, 1) := by decide +kernel
theorem dX10_gap_150 : decode cX10_gap 150 = .ok (.bipush 6, 2) := by decide +kernel
theorem dX10_gap_152 : decode cX10_gap 152 = .ok (.invokevirtual 387, 3) := by decide +kernel
theorem dX10_gap_155 : decode cX10_gap 155 = .ok (.isub, 1) := by decide +kernel
theorem dX10_gap_156 : decode cX10_gap 156 = .ok (.invokestatic 468, 3) := by decide +kernel
theorem dX10_gap_159 : decode cX10_gap 159 = .ok (.iadd, 1) := by decide +kernel
theorem dX10_gap_160 : decode cX10_gap 160 = .ok (.aload_n 0, 1) := by decide +kernel
theorem dX10_gap_161 : decode cX10_gap 161 = .ok (.getfield 9, 3) := by decide +kernel
theorem dX10_gap_164 : decode cX10_gap 164 = .ok (.bipush 7, 2) := by decide +kernel
theorem dX10_gap_166 : decode cX10_gap 166 = .ok (.iaload, 1) := by decide +kernel
theorem dX10_gap_167 : decode cX10_gap 167 = .ok (.iload_n 2, 1) := by decide +kernel
theorem dX10_gap_168 : decode cX10_gap 168 = .ok (.isub, 1) := by decide +kernel
theorem dX10_gap_169 : decode cX10_gap 169 = .ok (.invokestatic 468, 3) := by decide +kernel
theorem dX10_gap_172 : decode cX10_gap 172 = .ok (.iadd, 1) := by decide +kernel
theorem dX10_gap_173 : decode cX10_gap 173 = .ok (.ireturn, 1) := by decide +kernel
theorem dX10_whyNotSeal_0 : decode cX10_whyNotSeal 0 = .ok (.aload_n 0, 1) := by decide +kernel
theorem dX10_whyNotSeal_1 : decode cX10_whyNotSeal 1 = .ok (.aload_n 0, 1) := by decide +kernel
theorem dX10_whyNotSeal_2 : decode cX10_whyNotSeal 2 = .ok (.getfield 48, 3) := by decide +kernel
theorem dX10_whyNotSeal_5 : decode cX10_whyNotSeal 5 = .ok (.iload_n 1, 1) := by decide +kernel
theorem dX10_whyNotSeal_6 : decode cX10_whyNotSeal 6 = .ok (.iconst 0, 1) := by decide +kernel
theorem dX10_whyNotSeal_7 : decode cX10_whyNotSeal 7 = .ok (.bipush 9, 2) := by decide +kernel
theorem dX10_whyNotSeal_9 : decode cX10_whyNotSeal 9 = .ok (.invokestatic 69, 3) := by decide +kernel
theorem dX10_whyNotSeal_12 : decode cX10_whyNotSeal 12 = .ok (.ifCond .eq 17, 3) := by decide +kernel
theorem dX10_whyNotSeal_15 : decode cX10_whyNotSeal 15 = .ok (.iload_n 2, 1) := by decide +kernel
theorem dX10_whyNotSeal_16 : decode cX10_whyNotSeal 16 = .ok (.iconst 0, 1) := by decide +kernel
theorem dX10_whyNotSeal_17 : decode cX10_whyNotSeal 17 = .ok (.bipush 99, 2) := by decide +kernel
theorem dX10_whyNotSeal_19 : decode cX10_whyNotSeal 19 = .ok (.invokestatic 69, 3) := by decide +kernel
theorem dX10_whyNotSeal_22 : decode cX10_whyNotSeal 22 = .ok (.ifCond .eq 7, 3) := by decide +kernel
theorem dX10_whyNotSeal_25 : decode cX10_whyNotSeal 25 = .ok (.iconst 1, 1) := by decide +kernel
theorem dX10_whyNotSeal_26 : decode cX10_whyNotSeal 26 = .ok (.goto 4, 3) := by decide +kernel
theorem dX10_whyNotSeal_29 : decode cX10_whyNotSeal 29 = .ok (.iconst 0, 1) := by decide +kernel
theorem dX10_whyNotSeal_30 : decode cX10_whyNotSeal 30 = .ok (.invokevirtual 380, 3) := by decide +kernel
theorem dX10_whyNotSeal_33 : decode cX10_whyNotSeal 33 = .ok (.ifCond .eq 12, 3) := by decide +kernel
theorem dX10_whyNotSeal_36 : decode cX10_whyNotSeal 36 = .ok (.aload_n 0, 1) := by decide +kernel
theorem dX10_whyNotSeal_37 : decode cX10_whyNotSeal 37 = .ok (.iload_n 1, 1) := by decide +kernel
theorem dX10_whyNotSeal_38 : decode cX10_whyNotSeal 38 = .ok (.iload_n 2, 1) := by decide +kernel
theorem dX10_whyNotSeal_39 : decode cX10_whyNotSeal 39 = .ok (.invokevirtual 218, 3) := by decide +kernel
theorem dX10_whyNotSeal_42 : decode cX10_whyNotSeal 42 = .ok (.goto 4, 3) := by decide +kernel
theorem dX10_whyNotSeal_45 : decode cX10_whyNotSeal 45 = .ok (.iconst 0, 1) := by decide +kernel
theorem dX10_whyNotSeal_46 : decode cX10_whyNotSeal 46 = .ok (.ireturn, 1) := by decide +kernel
theorem dX10_whyNotCopy_0 : decode cX10_whyNotCopy 0 = .ok (.aload_n 0, 1) := by decide +kernel
theorem dX10_whyNotCopy_1 : decode cX10_whyNotCopy 1 = .ok (.aload_n 0, 1) := by decide +kernel
theorem dX10_whyNotCopy_2 : decode cX10_whyNotCopy 2 = .ok (.getfield 48, 3) := by decide +kernel
theorem dX10_whyNotCopy_5 : decode cX10_whyNotCopy 5 = .ok (.aload_n 0, 1) := by decide +kernel
theorem dX10_whyNotCopy_6 : decode cX10_whyNotCopy 6 = .ok (.iload_n 1, 1) := by decide +kernel
theorem dX10_whyNotCopy_7 : decode cX10_whyNotCopy 7 = .ok (.invokevirtual 399, 3) := by decide +kernel
theorem dX10_whyNotCopy_10 : decode cX10_whyNotCopy 10 = .ok (.iload_n 2, 1) := by decide +kernel
theorem dX10_whyNotCopy_11 : decode cX10_whyNotCopy 11 = .ok (.invokestatic 471, 3) := by decide +kernel
theorem dX10_whyNotCopy_14 : decode cX10_whyNotCopy 14 = .ok (.invokevirtual 44, 3) := by decide +kernel
theorem dX10_whyNotCopy_17 : decode cX10_whyNotCopy 17 = .ok (.ifCond .eq 14, 3) := by decide +kernel
theorem dX10_whyNotCopy_20 : decode cX10_whyNotCopy 20 = .ok (.aload_n 0, 1) := by decide +kernel
theorem dX10_whyNotCopy_21 : decode cX10_whyNotCopy 21 = .ok (.iload_n 1, 1) := by decide +kernel
theorem dX10_whyNotCopy_22 : decode cX10_whyNotCopy 22 = .ok (.iconst 1, 1) := by decide +kernel
theorem dX10_whyNotCopy_23 : decode cX10_whyNotCopy 23 = .ok (.isub, 1) := by decide +kernel
theorem dX10_whyNotCopy_24 : decode cX10_whyNotCopy 24 = .ok (.iload_n 2, 1) := by decide +kernel
theorem dX10_whyNotCopy_25 : decode cX10_whyNotCopy 25 = .ok (.invokevirtual 224, 3) := by decide +kernel
theorem dX10_whyNotCopy_28 : decode cX10_whyNotCopy 28 = .ok (.goto 4, 3) := by decide +kernel
theorem dX10_whyNotCopy_31 : decode cX10_whyNotCopy 31 = .ok (.iconst 0, 1) := by decide +kernel
theorem dX10_whyNotCopy_32 : decode cX10_whyNotCopy 32 = .ok (.ireturn, 1) := by decide +kernel
theorem dX10_whyNotStrike_0 : decode cX10_whyNotStrike 0 = .ok (.aload_n 0, 1) := by decide +kernel
theorem dX10_whyNotStrike_1 : decode cX10_whyNotStrike 1 = .ok (.invokevirtual 461, 3) := by decide +kernel
theorem dX10_whyNotStrike_4 : decode cX10_whyNotStrike 4 = .ok (.ifCond .eq 11, 3) := by decide +kernel
theorem dX10_whyNotStrike_7 : decode cX10_whyNotStrike 7 = .ok (.aload_n 0, 1) := by decide +kernel
theorem dX10_whyNotStrike_8 : decode cX10_whyNotStrike 8 = .ok (.iload_n 1, 1) := by decide +kernel
theorem dX10_whyNotStrike_9 : decode cX10_whyNotStrike 9 = .ok (.invokevirtual 194, 3) := by decide +kernel
theorem dX10_whyNotStrike_12 : decode cX10_whyNotStrike 12 = .ok (.goto 4, 3) := by decide +kernel
theorem dX10_whyNotStrike_15 : decode cX10_whyNotStrike 15 = .ok (.iconst 0, 1) := by decide +kernel
theorem dX10_whyNotStrike_16 : decode cX10_whyNotStrike 16 = .ok (.ireturn, 1) := by decide +kernel
theorem dX10_lostBy_0 : decode cX10_lostBy 0 = .ok (.iconst 0, 1) := by decide +kernel
theorem dX10_lostBy_1 : decode cX10_lostBy 1 = .ok (.istore_n 2, 1) := by decide +kernel
theorem dX10_lostBy_2 : decode cX10_lostBy 2 = .ok (.aload_n 0, 1) := by decide +kernel
theorem dX10_lostBy_3 : decode cX10_lostBy 3 = .ok (.iload_n 1, 1) := by decide +kernel
theorem dX10_lostBy_4 : decode cX10_lostBy 4 = .ok (.invokevirtual 446, 3) := by decide +kernel
theorem dX10_lostBy_7 : decode cX10_lostBy 7 = .ok (.istore_n 3, 1) := by decide +kernel
theorem dX10_lostBy_8 : decode cX10_lostBy 8 = .ok (.iload_n 3, 1) := by decide +kernel
theorem dX10_lostBy_9 : decode cX10_lostBy 9 = .ok (.aload_n 0, 1) := by decide +kernel
theorem dX10_lostBy_10 : decode cX10_lostBy 10 = .ok (.iload_n 1, 1) := by decide +kernel
theorem dX10_lostBy_11 : decode cX10_lostBy 11 = .ok (.invokevirtual 443, 3) := by decide +kernel
theorem dX10_lostBy_14 : decode cX10_lostBy 14 = .ok (.if_icmp .gt 37, 3) := by decide +kernel
theorem dX10_lostBy_17 : decode cX10_lostBy 17 = .ok (.iload_n 2, 1) := by decide +kernel
theorem dX10_lostBy_18 : decode cX10_lostBy 18 = .ok (.aload_n 0, 1) := by decide +kernel
theorem dX10_lostBy_19 : decode cX10_lostBy 19 = .ok (.iload_n 1, 1) := by decide +kernel
theorem dX10_lostBy_20 : decode cX10_lostBy 20 = .ok (.invokevirtual 237, 3) := by decide +kernel
theorem dX10_lostBy_23 : decode cX10_lostBy 23 = .ok (.iconst 2, 1) := by decide +kernel
theorem dX10_lostBy_24 : decode cX10_lostBy 24 = .ok (.if_icmp .eq 15, 3) := by decide +kernel
theorem dX10_lostBy_27 : decode cX10_lostBy 27 = .ok (.aload_n 0, 1) := by decide +kernel
theorem dX10_lostBy_28 : decode cX10_lostBy 28 = .ok (.iload_n 3, 1) := by decide +kernel
theorem dX10_lostBy_29 : decode cX10_lostBy 29 = .ok (.invokevirtual 371, 3) := by decide +kernel
theorem dX10_lostBy_32 : decode cX10_lostBy 32 = .ok (.ifCond .ne 7, 3) := by decide +kernel
theorem dX10_lostBy_35 : decode cX10_lostBy 35 = .ok (.iconst 1, 1) := by decide +kernel
theorem dX10_lostBy_36 : decode cX10_lostBy 36 = .ok (.goto 4, 3) := by decide +kernel
theorem dX10_lostBy_39 : decode cX10_lostBy 39 = .ok (.iconst 0, 1) := by decide +kernel
theorem dX10_lostBy_40 : decode cX10_lostBy 40 = .ok (.invokestatic 333, 3) := by decide +kernel
theorem dX10_lostBy_43 : decode cX10_lostBy 43 = .ok (.iadd, 1) := by decide +kernel
theorem dX10_lostBy_44 : decode cX10_lostBy 44 = .ok (.istore_n 2, 1) := by decide +kernel
theorem dX10_lostBy_45 : decode cX10_lostBy 45 = .ok (.iinc 3 1, 3) := by decide +kernel
theorem dX10_lostBy_48 : decode cX10_lostBy 48 = .ok (.goto (-40), 3) := by decide +kernel
theorem dX10_lostBy_51 : decode cX10_lostBy 51 = .ok (.iload_n 2, 1) := by decide +kernel
theorem dX10_lostBy_52 : decode cX10_lostBy 52 = .ok (.ireturn, 1) := by decide +kernel
theorem dX10_unknownIf_0 : decode cX10_unknownIf 0 = .ok (.aload_n 0, 1) := by decide +kernel
theorem dX10_unknownIf_1 : decode cX10_unknownIf 1 = .ok (.iload_n 1, 1) := by decide +kernel
theorem dX10_unknownIf_2 : decode cX10_unknownIf 2 = .ok (.invokevirtual 474, 3) := by decide +kernel
theorem dX10_unknownIf_5 : decode cX10_unknownIf 5 = .ok (.ifCond .eq 11, 3) := by decide +kernel
theorem dX10_unknownIf_8 : decode cX10_unknownIf 8 = .ok (.aload_n 0, 1) := by decide +kernel
theorem dX10_unknownIf_9 : decode cX10_unknownIf 9 = .ok (.iload_n 1, 1) := by decide +kernel
theorem dX10_unknownIf_10 : decode cX10_unknownIf 10 = .ok (.invokevirtual 477, 3) := by decide +kernel
theorem dX10_unknownIf_13 : decode cX10_unknownIf 13 = .ok (.goto 4, 3) := by decide +kernel
theorem dX10_unknownIf_16 : decode cX10_unknownIf 16 = .ok (.iconst 0, 1) := by decide +kernel
theorem dX10_unknownIf_17 : decode cX10_unknownIf 17 = .ok (.ireturn, 1) := by decide +kernel
theorem dX10_worstLeaf_0 : decode cX10_worstLeaf 0 = .ok (.aload_n 0, 1) := by decide +kernel
theorem dX10_worstLeaf_1 : decode cX10_worstLeaf 1 = .ok (.invokevirtual 461, 3) := by decide +kernel
theorem dX10_worstLeaf_4 : decode cX10_worstLeaf 4 = .ok (.ifCond .ne 5, 3) := by decide +kernel
theorem dX10_worstLeaf_7 : decode cX10_worstLeaf 7 = .ok (.iconst 0, 1) := by decide +kernel
theorem dX10_worstLeaf_8 : decode cX10_worstLeaf 8 = .ok (.ireturn, 1) := by decide +kernel
theorem dX10_worstLeaf_9 : decode cX10_worstLeaf 9 = .ok (.iconst (-1), 1) := by decide +kernel
theorem dX10_worstLeaf_10 : decode cX10_worstLeaf 10 = .ok (.istore_n 1, 1) := by decide +kernel
theorem dX10_worstLeaf_11 : decode cX10_worstLeaf 11 = .ok (.iconst (-1), 1) := by decide +kernel
theorem dX10_worstLeaf_12 : decode cX10_worstLeaf 12 = .ok (.istore_n 2, 1) := by decide +kernel
theorem dX10_worstLeaf_13 : decode cX10_worstLeaf 13 = .ok (.iconst 0, 1) := by decide +kernel
theorem dX10_worstLeaf_14 : decode cX10_worstLeaf 14 = .ok (.istore_n 3, 1) := by decide +kernel
theorem dX10_worstLeaf_15 : decode cX10_worstLeaf 15 = .ok (.iload_n 3, 1) := by decide +kernel
theorem dX10_worstLeaf_16 : decode cX10_worstLeaf 16 = .ok (.aload_n 0, 1) := by decide +kernel
theorem dX10_worstLeaf_17 : decode cX10_worstLeaf 17 = .ok (.invokevirtual 231, 3) := by decide +kernel
theorem dX10_worstLeaf_20 : decode cX10_worstLeaf 20 = .ok (.if_icmp .ge 30, 3) := by decide +kernel
theorem dX10_worstLeaf_23 : decode cX10_worstLeaf 23 = .ok (.aload_n 0, 1) := by decide +kernel
theorem dX10_worstLeaf_24 : decode cX10_worstLeaf 24 = .ok (.iload_n 3, 1) := by decide +kernel
theorem dX10_worstLeaf_25 : decode cX10_worstLeaf 25 = .ok (.invokevirtual 477, 3) := by decide +kernel
theorem dX10_worstLeaf_28 : decode cX10_worstLeaf 28 = .ok (.istore 4, 2) := by decide +kernel
theorem dX10_worstLeaf_30 : decode cX10_worstLeaf 30 = .ok (.iload 4, 2) := by decide +kernel
theorem dX10_worstLeaf_32 : decode cX10_worstLeaf 32 = .ok (.iload_n 2, 1) := by decide +kernel
theorem dX10_worstLeaf_33 : decode cX10_worstLeaf 33 = .ok (.if_icmp .gt 6, 3) := by decide +kernel
theorem dX10_worstLeaf_36 : decode cX10_worstLeaf 36 = .ok (.goto 8, 3) := by decide +kernel
theorem dX10_worstLeaf_39 : decode cX10_worstLeaf 39 = .ok (.iload 4, 2) := by decide +kernel
theorem dX10_worstLeaf_41 : decode cX10_worstLeaf 41 = .ok (.istore_n 2, 1) := by decide +kernel
theorem dX10_worstLeaf_42 : decode cX10_worstLeaf 42 = .ok (.iload_n 3, 1) := by decide +kernel
theorem dX10_worstLeaf_43 : decode cX10_worstLeaf 43 = .ok (.istore_n 1, 1) := by decide +kernel
theorem dX10_worstLeaf_44 : decode cX10_worstLeaf 44 = .ok (.iinc 3 1, 3) := by decide +kernel
theorem dX10_worstLeaf_47 : decode cX10_worstLeaf 47 = .ok (.goto (-32), 3) := by decide +kernel
theorem dX10_worstLeaf_50 : decode cX10_worstLeaf 50 = .ok (.iload_n 1, 1) := by decide +kernel
theorem dX10_worstLeaf_51 : decode cX10_worstLeaf 51 = .ok (.ireturn, 1) := by decide +kernel
theorem dX10_shakenOut_0 : decode cX10_shakenOut 0 = .ok (.aload_n 0, 1) := by decide +kernel
theorem dX10_shakenOut_1 : decode cX10_shakenOut 1 = .ok (.invokevirtual 461, 3) := by decide +kernel
theorem dX10_shakenOut_4 : decode cX10_shakenOut 4 = .ok (.ifCond .ne 5, 3) := by decide +kernel
theorem dX10_shakenOut_7 : decode cX10_shakenOut 7 = .ok (.iconst 0, 1) := by decide +kernel
theorem dX10_shakenOut_8 : decode cX10_shakenOut 8 = .ok (.ireturn, 1) := by decide +kernel
theorem dX10_shakenOut_9 : decode cX10_shakenOut 9 = .ok (.iconst 0, 1) := by decide +kernel
theorem dX10_shakenOut_10 : decode cX10_shakenOut 10 = .ok (.istore_n 1, 1) := by decide +kernel
theorem dX10_shakenOut_11 : decode cX10_shakenOut 11 = .ok (.aload_n 0, 1) := by decide +kernel
theorem dX10_shakenOut_12 : decode cX10_shakenOut 12 = .ok (.invokevirtual 315, 3) := by decide +kernel
theorem dX10_shakenOut_15 : decode cX10_shakenOut 15 = .ok (.aload_n 0, 1) := by decide +kernel
theorem dX10_shakenOut_16 : decode cX10_shakenOut 16 = .ok (.invokevirtual 246, 3) := by decide +kernel
theorem dX10_shakenOut_19 : decode cX10_shakenOut 19 = .ok (.ifCond .le 9, 3) := by decide +kernel
theorem dX10_shakenOut_22 : decode cX10_shakenOut 22 = .ok (.iinc 1 1, 3) := by decide +kernel
theorem dX10_shakenOut_25 : decode cX10_shakenOut 25 = .ok (.goto (-10), 3) := by decide +kernel
theorem dX10_shakenOut_28 : decode cX10_shakenOut 28 = .ok (.aload_n 0, 1) := by decide +kernel
theorem dX10_shakenOut_29 : decode cX10_shakenOut 29 = .ok (.iload_n 1, 1) := by decide +kernel
theorem dX10_shakenOut_30 : decode cX10_shakenOut 30 = .ok (.invokevirtual 321, 3) := by decide +kernel
theorem dX10_shakenOut_33 : decode cX10_shakenOut 33 = .ok (.ireturn, 1) := by decide +kernel
theorem dX10_leavesFor_0 : decode cX10_leavesFor 0 = .ok (.aload_n 0, 1) := by decide +kernel
theorem dX10_leavesFor_1 : decode cX10_leavesFor 1 = .ok (.aload_n 0, 1) := by decide +kernel
theorem dX10_leavesFor_2 : decode cX10_leavesFor 2 = .ok (.getfield 48, 3) := by decide +kernel
theorem dX10_leavesFor_5 : decode cX10_leavesFor 5 = .ok (.iload_n 1, 1) := by decide +kernel
theorem dX10_leavesFor_6 : decode cX10_leavesFor 6 = .ok (.iconst 0, 1) := by decide +kernel
theorem dX10_leavesFor_7 : decode cX10_leavesFor 7 = .ok (.sipush 240, 3) := by decide +kernel
theorem dX10_leavesFor_10 : decode cX10_leavesFor 10 = .ok (.invokestatic 69, 3) := by decide +kernel
theorem dX10_leavesFor_13 : decode cX10_leavesFor 13 = .ok (.invokevirtual 380, 3) := by decide +kernel
theorem dX10_leavesFor_16 : decode cX10_leavesFor 16 = .ok (.ifCond .ne 5, 3) := by decide +kernel
theorem dX10_leavesFor_19 : decode cX10_leavesFor 19 = .ok (.iconst 0, 1) := by decide +kernel
theorem dX10_leavesFor_20 : decode cX10_leavesFor 20 = .ok (.ireturn, 1) := by decide +kernel
theorem dX10_leavesFor_21 : decode cX10_leavesFor 21 = .ok (.aload_n 0, 1) := by decide +kernel
theorem dX10_leavesFor_22 : decode cX10_leavesFor 22 = .ok (.getfield 9, 3) := by decide +kernel
theorem dX10_leavesFor_25 : decode cX10_leavesFor 25 = .ok (.iconst 4, 1) := by decide +kernel
theorem dX10_leavesFor_26 : decode cX10_leavesFor 26 = .ok (.iaload, 1) := by decide +kernel
theorem dX10_leavesFor_27 : decode cX10_leavesFor 27 = .ok (.iload_n 1, 1) := by decide +kernel
theorem dX10_leavesFor_28 : decode cX10_leavesFor 28 = .ok (.iadd, 1) := by decide +kernel
theorem dX10_leavesFor_29 : decode cX10_leavesFor 29 = .ok (.aload_n 0, 1) := by decide +kernel
theorem dX10_leavesFor_30 : decode cX10_leavesFor 30 = .ok (.getfield 9, 3) := by decide +kernel
theorem dX10_leavesFor_33 : decode cX10_leavesFor 33 = .ok (.iconst 0, 1) := by decide +kernel
theorem dX10_leavesFor_34 : decode cX10_leavesFor 34 = .ok (.iaload, 1) := by decide +kernel
theorem dX10_leavesFor_35 : decode cX10_leavesFor 35 = .ok (.iadd, 1) := by decide +kernel
theorem dX10_leavesFor_36 : decode cX10_leavesFor 36 = .ok (.iconst 1, 1) := by decide +kernel
theorem dX10_leavesFor_37 : decode cX10_leavesFor 37 = .ok (.isub, 1) := by decide +kernel
theorem dX10_leavesFor_38 : decode cX10_leavesFor 38 = .ok (.aload_n 0, 1) := by decide +kernel
theorem dX10_leavesFor_39 : decode cX10_leavesFor 39 = .ok (.getfield 9, 3) := by decide +kernel
theorem dX10_leavesFor_42 : decode cX10_leavesFor 42 = .ok (.iconst 0, 1) := by decide +kernel
theorem dX10_leavesFor_43 : decode cX10_leavesFor 43 = .ok (.iaload, 1) := by decide +kernel
theorem dX10_leavesFor_44 : decode cX10_leavesFor 44 = .ok (.idiv, 1) := by decide +kernel
theorem dX10_leavesFor_45 : decode cX10_leavesFor 45 = .ok (.istore_n 2, 1) := by decide +kernel
theorem dX10_leavesFor_46 : decode cX10_leavesFor 46 = .ok (.iload_n 2, 1) := by decide +kernel
theorem dX10_leavesFor_47 : decode cX10_leavesFor 47 = .ok (.bipush 12, 2) := by decide +kernel
theorem dX10_leavesFor_49 : decode cX10_leavesFor 49 = .ok (.if_icmp .le 7, 3) := by decide +kernel
theorem dX10_leavesFor_52 : decode cX10_leavesFor 52 = .ok (.iconst (-1), 1) := by decide +kernel
theorem dX10_leavesFor_53 : decode cX10_leavesFor 53 = .ok (.goto 9, 3) := by decide +kernel
theorem dX10_leavesFor_56 : decode cX10_leavesFor 56 = .ok (.iload_n 2, 1) := by decide +kernel
theorem dX10_leavesFor_57 : decode cX10_leavesFor 57 = .ok (.aload_n 0, 1) := by decide +kernel
theorem dX10_leavesFor_58 : decode cX10_leavesFor 58 = .ok (.invokevirtual 231, 3) := by decide +kernel
theorem dX10_leavesFor_61 : decode cX10_leavesFor 61 = .ok (.isub, 1) := by decide +kernel
theorem dX10_leavesFor_62 : decode cX10_leavesFor 62 = .ok (.ireturn, 1) := by decide +kernel
theorem dX10_copyWords_0 : decode cX10_copyWords 0 = .ok (.aload_n 0, 1) := by decide +kernel
theorem dX10_copyWords_1 : decode cX10_copyWords 1 = .ok (.aload_n 0, 1) := by decide +kernel
theorem dX10_copyWords_2 : decode cX10_copyWords 2 = .ok (.getfield 48, 3) := by decide +kernel
theorem dX10_copyWords_5 : decode cX10_copyWords 5 = .ok (.aload_n 0, 1) := by decide +kernel
theorem dX10_copyWords_6 : decode cX10_copyWords 6 = .ok (.iload_n 1, 1) := by decide +kernel
theorem dX10_copyWords_7 : decode cX10_copyWords 7 = .ok (.invokevirtual 399, 3) := by decide +kernel
theorem dX10_copyWords_10 : decode cX10_copyWords 10 = .ok (.iload_n 2, 1) := by decide +kernel
theorem dX10_copyWords_11 : decode cX10_copyWords 11 = .ok (.invokestatic 471, 3) := by decide +kernel
theorem dX10_copyWords_14 : decode cX10_copyWords 14 = .ok (.invokevirtual 44, 3) := by decide +kernel
theorem dX10_copyWords_17 : decode cX10_copyWords 17 = .ok (.ifCond .eq 14, 3) := by decide +kernel
theorem dX10_copyWords_20 : decode cX10_copyWords 20 = .ok (.aload_n 0, 1) := by decide +kernel
theorem dX10_copyWords_21 : decode cX10_copyWords 21 = .ok (.iload_n 1, 1) := by decide +kernel
theorem dX10_copyWords_22 : decode cX10_copyWords 22 = .ok (.iconst 1, 1) := by decide +kernel
theorem dX10_copyWords_23 : decode cX10_copyWords 23 = .ok (.isub, 1) := by decide +kernel
theorem dX10_copyWords_24 : decode cX10_copyWords 24 = .ok (.iload_n 2, 1) := by decide +kernel
theorem dX10_copyWords_25 : decode cX10_copyWords 25 = .ok (.invokevirtual 449, 3) := by decide +kernel
theorem dX10_copyWords_28 : decode cX10_copyWords 28 = .ok (.goto 4, 3) := by decide +kernel
theorem dX10_copyWords_31 : decode cX10_copyWords 31 = .ok (.iconst 0, 1) := by decide +kernel
theorem dX10_copyWords_32 : decode cX10_copyWords 32 = .ok (.ireturn, 1) := by decide +kernel
theorem dX10_knownWith_0 : decode cX10_knownWith 0 = .ok (.iconst 0, 1) := by decide +kernel
theorem dX10_knownWith_1 : decode cX10_knownWith 1 = .ok (.istore_n 3, 1) := by decide +kernel
theorem dX10_knownWith_2 : decode cX10_knownWith 2 = .ok (.aload_n 0, 1) := by decide +kernel
theorem dX10_knownWith_3 : decode cX10_knownWith 3 = .ok (.iload_n 1, 1) := by decide +kernel
theorem dX10_knownWith_4 : decode cX10_knownWith 4 = .ok (.iconst 5, 1) := by decide +kernel
theorem dX10_knownWith_5 : decode cX10_knownWith 5 = .ok (.invokevirtual 138, 3) := by decide +kernel
theorem dX10_knownWith_8 : decode cX10_knownWith 8 = .ok (.istore 4, 2) := by decide +kernel
theorem dX10_knownWith_10 : decode cX10_knownWith 10 = .ok (.iload 4, 2) := by decide +kernel
theorem dX10_knownWith_12 : decode cX10_knownWith 12 = .ok (.aload_n 0, 1) := by decide +kernel
theorem dX10_knownWith_13 : decode cX10_knownWith 13 = .ok (.iload_n 1, 1) := by decide +kernel
theorem dX10_knownWith_14 : decode cX10_knownWith 14 = .ok (.invokevirtual 327, 3) := by decide +kernel
theorem dX10_knownWith_17 : decode cX10_knownWith 17 = .ok (.if_icmp .gt 40, 3) := by decide +kernel
theorem dX10_knownWith_20 : decode cX10_knownWith 20 = .ok (.iload_n 3, 1) := by decide +kernel
theorem dX10_knownWith_21 : decode cX10_knownWith 21 = .ok (.aload_n 0, 1) := by decide +kernel
theorem dX10_knownWith_22 : decode cX10_knownWith 22 = .ok (.iload_n 1, 1) := by decide +kernel
theorem dX10_knownWith_23 : decode cX10_knownWith 23 = .ok (.iload_n 2, 1) := by decide +kernel
theorem dX10_knownWith_24 : decode cX10_knownWith 24 = .ok (.iload 4, 2) := by decide +kernel
theorem dX10_knownWith_26 : decode cX10_knownWith 26 = .ok (.invokevirtual 361, 3) := by decide +kernel
theorem dX10_knownWith_29 : decode cX10_knownWith 29 = .ok (.ifCond .ne 12, 3) := by decide +kernel
theorem dX10_knownWith_32 : decode cX10_knownWith 32 = .ok (.aload_n 0, 1) := by decide +kernel
theorem dX10_knownWith_33 : decode cX10_knownWith 33 = .ok (.iload 4, 2) := by decide +kernel
theorem dX10_knownWith_35 : decode cX10_knownWith 35 = .ok (.invokevirtual 371, 3) := by decide +kernel
theorem dX10_knownWith_38 : decode cX10_knownWith 38 = .ok (.ifCond .le 7, 3) := by decide +kernel
theorem dX10_knownWith_41 : decode cX10_knownWith 41 = .ok (.iconst 1, 1) := by decide +kernel
theorem dX10_knownWith_42 : decode cX10_knownWith 42 = .ok (.goto 4, 3) := by decide +kernel
theorem dX10_knownWith_45 : decode cX10_knownWith 45 = .ok (.iconst 0, 1) := by decide +kernel
theorem dX10_knownWith_46 : decode cX10_knownWith 46 = .ok (.invokestatic 333, 3) := by decide +kernel
theorem dX10_knownWith_49 : decode cX10_knownWith 49 = .ok (.iadd, 1) := by decide +kernel
theorem dX10_knownWith_50 : decode cX10_knownWith 50 = .ok (.istore_n 3, 1) := by decide +kernel
theorem dX10_knownWith_51 : decode cX10_knownWith 51 = .ok (.iinc 4 1, 3) := by decide +kernel
theorem dX10_knownWith_54 : decode cX10_knownWith 54 = .ok (.goto (-44), 3) := by decide +kernel
theorem dX10_knownWith_57 : decode cX10_knownWith 57 = .ok (.iload_n 3, 1) := by decide +kernel
theorem dX10_knownWith_58 : decode cX10_knownWith 58 = .ok (.ireturn, 1) := by decide +kernel
theorem dX10_bestCopy_0 : decode cX10_bestCopy 0 = .ok (.aload_n 0, 1) := by decide +kernel
theorem dX10_bestCopy_1 : decode cX10_bestCopy 1 = .ok (.iload_n 1, 1) := by decide +kernel
theorem dX10_bestCopy_2 : decode cX10_bestCopy 2 = .ok (.invokevirtual 455, 3) := by decide +kernel
theorem dX10_bestCopy_5 : decode cX10_bestCopy 5 = .ok (.ifCond .ne 5, 3) := by decide +kernel
theorem dX10_bestCopy_8 : decode cX10_bestCopy 8 = .ok (.iconst 0, 1) := by decide +kernel
theorem dX10_bestCopy_9 : decode cX10_bestCopy 9 = .ok (.ireturn, 1) := by decide +kernel
theorem dX10_bestCopy_10 : decode cX10_bestCopy 10 = .ok (.iconst (-1), 1) := by decide +kernel
theorem dX10_bestCopy_11 : decode cX10_bestCopy 11 = .ok (.istore_n 2, 1) := by decide +kernel
theorem dX10_bestCopy_12 : decode cX10_bestCopy 12 = .ok (.iconst (-1), 1) := by decide +kernel
theorem dX10_bestCopy_13 : decode cX10_bestCopy 13 = .ok (.istore_n 3, 1) := by decide +kernel
theorem dX10_bestCopy_14 : decode cX10_bestCopy 14 = .ok (.iconst 2, 1) := by decide +kernel
theorem dX10_bestCopy_15 : decode cX10_bestCopy 15 = .ok (.istore 4, 2) := by decide +kernel
theorem dX10_bestCopy_17 : decode cX10_bestCopy 17 = .ok (.iload 4, 2) := by decide +kernel
theorem dX10_bestCopy_19 : decode cX10_bestCopy 19 = .ok (.ifCond .lt 50, 3) := by decide +kernel
theorem dX10_bestCopy_22 : decode cX10_bestCopy 22 = .ok (.aload_n 0, 1) := by decide +kernel
theorem dX10_bestCopy_23 : decode cX10_bestCopy 23 = .ok (.iload_n 1, 1) := by decide +kernel
theorem dX10_bestCopy_24 : decode cX10_bestCopy 24 = .ok (.iconst 1, 1) := by decide +kernel
theorem dX10_bestCopy_25 : decode cX10_bestCopy 25 = .ok (.isub, 1) := by decide +kernel
theorem dX10_bestCopy_26 : decode cX10_bestCopy 26 = .ok (.iload 4, 2) := by decide +kernel
theorem dX10_bestCopy_28 : decode cX10_bestCopy 28 = .ok (.invokevirtual 224, 3) := by decide +kernel
theorem dX10_bestCopy_31 : decode cX10_bestCopy 31 = .ok (.ifCond .ne 32, 3) := by decide +kernel
theorem dX10_bestCopy_34 : decode cX10_bestCopy 34 = .ok (.aload_n 0, 1) := by decide +kernel
theorem dX10_bestCopy_35 : decode cX10_bestCopy 35 = .ok (.iload_n 1, 1) := by decide +kernel
theorem dX10_bestCopy_36 : decode cX10_bestCopy 36 = .ok (.iconst 1, 1) := by decide +kernel
theorem dX10_bestCopy_37 : decode cX10_bestCopy 37 = .ok (.isub, 1) := by decide +kernel
theorem dX10_bestCopy_38 : decode cX10_bestCopy 38 = .ok (.iload 4, 2) := by decide +kernel
theorem dX10_bestCopy_40 : decode cX10_bestCopy 40 = .ok (.invokevirtual 480, 3) := by decide +kernel
theorem dX10_bestCopy_43 : decode cX10_bestCopy 43 = .ok (.iload_n 3, 1) := by decide +kernel
theorem dX10_bestCopy_44 : decode cX10_bestCopy 44 = .ok (.if_icmp .gt 6, 3) := by decide +kernel
theorem dX10_bestCopy_47 : decode cX10_bestCopy 47 = .ok (.goto 16, 3) := by decide +kernel
theorem dX10_bestCopy_50 : decode cX10_bestCopy 50 = .ok (.aload_n 0, 1) := by decide +kernel
theorem dX10_bestCopy_51 : decode cX10_bestCopy 51 = .ok (.iload_n 1, 1) := by decide +kernel
theorem dX10_bestCopy_52 : decode cX10_bestCopy 52 = .ok (.iconst 1, 1) := by decide +kernel
theorem dX10_bestCopy_53 : decode cX10_bestCopy 53 = .ok (.isub, 1) := by decide +kernel
theorem dX10_bestCopy_54 : decode cX10_bestCopy 54 = .ok (.iload 4, 2) := by decide +kernel
theorem dX10_bestCopy_56 : decode cX10_bestCopy 56 = .ok (.invokevirtual 480, 3) := by decide +kernel
theorem dX10_bestCopy_59 : decode cX10_bestCopy 59 = .ok (.istore_n 3, 1) := by decide +kernel
theorem dX10_bestCopy_60 : decode cX10_bestCopy 60 = .ok (.iload 4, 2) := by decide +kernel
theorem dX10_bestCopy_62 : decode cX10_bestCopy 62 = .ok (.istore_n 2, 1) := by decide +kernel
theorem dX10_bestCopy_63 : decode cX10_bestCopy 63 = .ok (.iinc 4 (-1), 3) := by decide +kernel
theorem dX10_bestCopy_66 : decode cX10_bestCopy 66 = .ok (.goto (-49), 3) := by decide +kernel
theorem dX10_bestCopy_69 : decode cX10_bestCopy 69 = .ok (.iload_n 2, 1) := by decide +kernel
theorem dX10_bestCopy_70 : decode cX10_bestCopy 70 = .ok (.ireturn, 1) := by decide +kernel
theorem dX10_standingWithout_0 : decode cX10_standingWithout 0 = .ok (.aload_n 0, 1) := by decide +kernel
theorem dX10_standingWithout_1 : decode cX10_standingWithout 1 = .ok (.iload_n 1, 1) := by decide +kernel
theorem dX10_standingWithout_2 : decode cX10_standingWithout 2 = .ok (.invokevirtual 200, 3) := by decide +kernel
theorem dX10_standingWithout_5 : decode cX10_standingWithout 5 = .ok (.istore_n 3, 1) := by decide +kernel
theorem dX10_standingWithout_6 : decode cX10_standingWithout 6 = .ok (.aload_n 0, 1) := by decide +kernel
theorem dX10_standingWithout_7 : decode cX10_standingWithout 7 = .ok (.aload_n 0, 1) := by decide +kernel
theorem dX10_standingWithout_8 : decode cX10_standingWithout 8 = .ok (.invokevirtual 179, 3) := by decide +kernel
theorem dX10_standingWithout_11 : decode cX10_standingWithout 11 = .ok (.invokevirtual 343, 3) := by decide +kernel
theorem dX10_standingWithout_14 : decode cX10_standingWithout 14 = .ok (.istore 4, 2) := by decide +kernel
theorem dX10_standingWithout_16 : decode cX10_standingWithout 16 = .ok (.iload_n 2, 1) := by decide +kernel
theorem dX10_standingWithout_17 : decode cX10_standingWithout 17 = .ok (.ifCond .ne 15, 3) := by decide +kernel
theorem dX10_standingWithout_20 : decode cX10_standingWithout 20 = .ok (.iload 4, 2) := by decide +kernel
theorem dX10_standingWithout_22 : decode cX10_standingWithout 22 = .ok (.aload_n 0, 1) := by decide +kernel
theorem dX10_standingWithout_23 : decode cX10_standingWithout 23 = .ok (.iload_n 3, 1) := by decide +kernel
theorem dX10_standingWithout_24 : decode cX10_standingWithout 24 = .ok (.invokevirtual 330, 3) := by decide +kernel
theorem dX10_standingWithout_27 : decode cX10_standingWithout 27 = .ok (.invokestatic 333, 3) := by decide +kernel
theorem dX10_standingWithout_30 : decode cX10_standingWithout 30 = .ok (.isub, 1) := by decide +kernel
theorem dX10_standingWithout_31 : decode cX10_standingWithout 31 = .ok (.ireturn, 1) := by decide +kernel
theorem dX10_standingWithout_32 : decode cX10_standingWithout 32 = .ok (.iload 4, 2) := by decide +kernel
theorem dX10_standingWithout_34 : decode cX10_standingWithout 34 = .ok (.aload_n 0, 1) := by decide +kernel
theorem dX10_standingWithout_35 : decode cX10_standingWithout 35 = .ok (.aload_n 0, 1) := by decide +kernel
theorem dX10_standingWithout_36 : decode cX10_standingWithout 36 = .ok (.aload_n 0, 1) := by decide +kernel
theorem dX10_standingWithout_37 : decode cX10_standingWithout 37 = .ok (.iload_n 3, 1) := by decide +kernel
theorem dX10_standingWithout_38 : decode cX10_standingWithout 38 = .ok (.invokevirtual 203, 3) := by decide +kernel
theorem dX10_standingWithout_41 : decode cX10_standingWithout 41 = .ok (.iconst 0, 1) := by decide +kernel
theorem dX10_standingWithout_42 : decode cX10_standingWithout 42 = .ok (.invokevirtual 145, 3) := by decide +kernel
theorem dX10_standingWithout_45 : decode cX10_standingWithout 45 = .ok (.aload_n 0, 1) := by decide +kernel
theorem dX10_standingWithout_46 : decode cX10_standingWithout 46 = .ok (.aload_n 0, 1) := by decide +kernel
theorem dX10_standingWithout_47 : decode cX10_standingWithout 47 = .ok (.iload_n 3, 1) := by decide +kernel
theorem dX10_standingWithout_48 : decode cX10_standingWithout 48 = .ok (.invokevirtual 203, 3) := by decide +kernel
theorem dX10_standingWithout_51 : decode cX10_standingWithout 51 = .ok (.iconst 1, 1) := by decide +kernel
theorem dX10_standingWithout_52 : decode cX10_standingWithout 52 = .ok (.invokevirtual 145, 3) := by decide +kernel
theorem dX10_standingWithout_55 : decode cX10_standingWithout 55 = .ok (.invokevirtual 434, 3) := by decide +kernel
theorem dX10_standingWithout_58 : decode cX10_standingWithout 58 = .ok (.isub, 1) := by decide +kernel
theorem dX10_standingWithout_59 : decode cX10_standingWithout 59 = .ok (.ireturn, 1) := by decide +kernel
theorem dX10_isAsked_0 : decode cX10_isAsked 0 = .ok (.aload_n 0, 1) := by decide +kernel
theorem dX10_isAsked_1 : decode cX10_isAsked 1 = .ok (.iload_n 1, 1) := by decide +kernel
theorem dX10_isAsked_2 : decode cX10_isAsked 2 = .ok (.invokevirtual 194, 3) := by decide +kernel
theorem dX10_isAsked_5 : decode cX10_isAsked 5 = .ok (.iconst 3, 1) := by decide +kernel
theorem dX10_isAsked_6 : decode cX10_isAsked 6 = .ok (.irem, 1) := by decide +kernel
theorem dX10_isAsked_7 : decode cX10_isAsked 7 = .ok (.iconst 0, 1) := by decide +kernel
theorem dX10_isAsked_8 : decode cX10_isAsked 8 = .ok (.iconst 0, 1) := by decide +kernel
theorem dX10_isAsked_9 : decode cX10_isAsked 9 = .ok (.invokestatic 69, 3) := by decide +kernel
theorem dX10_isAsked_12 : decode cX10_isAsked 12 = .ok (.ifCond .eq 24, 3) := by decide +kernel
theorem dX10_isAsked_15 : decode cX10_isAsked 15 = .ok (.iload_n 2, 1) := by decide +kernel
theorem dX10_isAsked_16 : decode cX10_isAsked 16 = .ok (.ifCond .eq 16, 3) := by decide +kernel
theorem dX10_isAsked_19 : decode cX10_isAsked 19 = .ok (.aload_n 0, 1) := by decide +kernel
theorem dX10_isAsked_20 : decode cX10_isAsked 20 = .ok (.aload_n 0, 1) := by decide +kernel
theorem dX10_isAsked_21 : decode cX10_isAsked 21 = .ok (.iload_n 1, 1) := by decide +kernel
theorem dX10_isAsked_22 : decode cX10_isAsked 22 = .ok (.invokevirtual 200, 3) := by decide +kernel
theorem dX10_isAsked_25 : decode cX10_isAsked 25 = .ok (.invokevirtual 203, 3) := by decide +kernel
theorem dX10_isAsked_28 : decode cX10_isAsked 28 = .ok (.iconst (-1), 1) := by decide +kernel
theorem dX10_isAsked_29 : decode cX10_isAsked 29 = .ok (.if_icmp .eq 7, 3) := by decide +kernel
theorem dX10_isAsked_32 : decode cX10_isAsked 32 = .ok (.iconst 1, 1) := by decide +kernel
theorem dX10_isAsked_33 : decode cX10_isAsked 33 = .ok (.goto 4, 3) := by decide +kernel
theorem dX10_isAsked_36 : decode cX10_isAsked 36 = .ok (.iconst 0, 1) := by decide +kernel
theorem dX10_isAsked_37 : decode cX10_isAsked 37 = .ok (.ireturn, 1) := by decide +kernel
theorem dX10_standingIf_0 : decode cX10_standingIf 0 = .ok (.aload_n 0, 1) := by decide +kernel
theorem dX10_standingIf_1 : decode cX10_standingIf 1 = .ok (.aload_n 0, 1) := by decide +kernel
theorem dX10_standingIf_2 : decode cX10_standingIf 2 = .ok (.getfield 48, 3) := by decide +kernel
theorem dX10_standingIf_5 : decode cX10_standingIf 5 = .ok (.aload_n 0, 1) := by decide +kernel
theorem dX10_standingIf_6 : decode cX10_standingIf 6 = .ok (.getfield 48, 3) := by decide +kernel
theorem dX10_standingIf_9 : decode cX10_standingIf 9 = .ok (.ifCond .eq 16, 3) := by decide +kernel
theorem dX10_standingIf_12 : decode cX10_standingIf 12 = .ok (.aload_n 0, 1) := by decide +kernel
theorem dX10_standingIf_13 : decode cX10_standingIf 13 = .ok (.iload_n 1, 1) := by decide +kernel
theorem dX10_standingIf_14 : decode cX10_standingIf 14 = .ok (.iload_n 2, 1) := by decide +kernel
theorem dX10_standingIf_15 : decode cX10_standingIf 15 = .ok (.invokevirtual 483, 3) := by decide +kernel
theorem dX10_standingIf_18 : decode cX10_standingIf 18 = .ok (.ifCond .eq 7, 3) := by decide +kernel
theorem dX10_standingIf_21 : decode cX10_standingIf 21 = .ok (.iconst 1, 1) := by decide +kernel
theorem dX10_standingIf_22 : decode cX10_standingIf 22 = .ok (.goto 4, 3) := by decide +kernel
theorem dX10_standingIf_25 : decode cX10_standingIf 25 = .ok (.iconst 0, 1) := by decide +kernel
theorem dX10_standingIf_26 : decode cX10_standingIf 26 = .ok (.invokevirtual 380, 3) := by decide +kernel
theorem dX10_standingIf_29 : decode cX10_standingIf 29 = .ok (.ifCond .eq 12, 3) := by decide +kernel
theorem dX10_standingIf_32 : decode cX10_standingIf 32 = .ok (.aload_n 0, 1) := by decide +kernel
theorem dX10_standingIf_33 : decode cX10_standingIf 33 = .ok (.iload_n 1, 1) := by decide +kernel
theorem dX10_standingIf_34 : decode cX10_standingIf 34 = .ok (.iload_n 2, 1) := by decide +kernel
theorem dX10_standingIf_35 : decode cX10_standingIf 35 = .ok (.invokevirtual 487, 3) := by decide +kernel
theorem dX10_standingIf_38 : decode cX10_standingIf 38 = .ok (.goto 4, 3) := by decide +kernel
theorem dX10_standingIf_41 : decode cX10_standingIf 41 = .ok (.iconst 0, 1) := by decide +kernel
theorem dX10_standingIf_42 : decode cX10_standingIf 42 = .ok (.ireturn, 1) := by decide +kernel
set_option maxRecDepth 100000 in
set_option maxHeartbeats 4000000 in
theorem cX10_lastOnc {l : Launch} {v0 : Option Nat} {v1 : Int32} {σ : HpT} {r : Int32} (h : fX10_lastOn v0 v1 σ = some r) : IsK σ v0 10 ∧ Ct l yX10_lastOn cX10_lastOn 2 (some .int) 1 21 [va_rf v0, .int v1] σ (.ok (some (.int r))) σ 0 0 := by
  unfold fX10_lastOn at h
  replace h := bnP_s h
  obtain ⟨u, hk, h⟩ := h
  replace hk := isK_s hk
  refine ⟨hk, ?_⟩
  refine ct_start mi_X10_lastOn.1 rfl (al_le (al_1 (rf_cat _) (al_1 rfl al_n)) (Nat.le_of_ble_eq_true rfl)) (ag_1 (rf_cat _) (ag_1 rfl ag_n)) (fun Δ Γ B hE hnm => ?_)
  refine g_aload_n B 0 dX10_lastOn_0 rfl rfl ?_
  replace h := bnP_s h
  obtain ⟨x1, h2, h⟩ := h
  refine g_getR B fl_RX10_9 (by decide) dX10_lastOn_1 h2 ?_
  refine g_iconst (v := 4) B dX10_lastOn_4 (by decide) ?_
  replace h := bnP_s h
  obtain ⟨x3, h4, h⟩ := h
  refine g_iald B dX10_lastOn_5 h4 ?_
  refine g_iload_n B 1 dX10_lastOn_6 rfl rfl ?_
  refine g_iconst (v := 1) B dX10_lastOn_7 (by decide) ?_
  refine g_iadd B dX10_lastOn_8 ?_
  refine g_aload_n B 0 dX10_lastOn_9 rfl rfl ?_
  replace h := bnP_s h
  obtain ⟨x5, h6, h⟩ := h
  refine g_getR B fl_RX10_9 (by decide) dX10_lastOn_10 h6 ?_
  refine g_iconst (v := 0) B dX10_lastOn_13 (by decide) ?_
  replace h := bnP_s h
  obtain ⟨x7, h8, h⟩ := h
  refine g_iald B dX10_lastOn_14 h8 ?_
  refine g_imul B dX10_lastOn_15 ?_
  refine g_mmin B mt_RX10_440 (by decide) (Nat.le_of_ble_eq_true rfl) dX10_lastOn_16 (Nat.zero_le _) (Nat.zero_le _) ?_
  refine g_iconst (v := 1) B dX10_lastOn_19 (by decide) ?_
  refine g_isub B dX10_lastOn_20 ?_
  replace h := Option.some.inj h
  subst h
  exact g_iret B hE (Nat.zero_le _) (Nat.zero_le _) dX10_lastOn_21
set_option maxRecDepth 100000 in
set_option maxHeartbeats 4000000 in
theorem cX10_leafc {l : Launch} {v0 : Option Nat} {v1 : Int32} {v2 : Int32} {σ : HpT} {r : Int32} {σ' : HpT} (h : fX10_leaf v0 v1 v2 σ = some (r, σ')) : IsK σ v0 10 ∧ Ct l yX10_leaf cX10_leaf 3 (some .int) 3 65 [va_rf v0, .int v1, .int v2] σ (.ok (some (.int r))) σ' 0 0 := by
  unfold fX10_leaf at h
  replace h := bnP_s h
  obtain ⟨u, hk, h⟩ := h
  replace hk := isK_s hk
  refine ⟨hk, ?_⟩
  refine ct_start mi_X10_leaf.1 rfl (al_le (al_1 (rf_cat _) (al_1 rfl (al_1 rfl al_n))) (Nat.le_of_ble_eq_true rfl)) (ag_1 (rf_cat _) (ag_1 rfl (ag_1 rfl ag_n))) (fun Δ Γ B hE hnm => ?_)
  refine g_aload_n B 0 dX10_leaf_0 rfl rfl ?_
  refine g_aload_n B 0 dX10_leaf_1 rfl rfl ?_
  replace h := bnP_s h
  obtain ⟨x1, h2, h⟩ := h
  refine g_getI B fl_RX10_48 (by decide) dX10_leaf_2 h2 ?_
  refine g_aload_n B 0 dX10_leaf_5 rfl rfl ?_
  refine g_iload_n B 1 dX10_leaf_6 rfl rfl ?_
  replace h := bnP_s h
  obtain ⟨x3, h4, h⟩ := h
  refine g_callVs0 (st := [.int x1, va_rf v0]) B (cX10_isLeafc h4) (Nat.le_of_ble_eq_true rfl) rfl rfl mi_X10_isLeaf lk_RX10_402 ⟨Nat.le_of_ble_eq_true rfl, Nat.le_of_ble_eq_true rfl⟩ rfl rfl (Nat.le_of_ble_eq_true rfl) dX10_leaf_7 (Nat.zero_le _) (Nat.zero_le _) ?_
  refine g_iload_n B 2 dX10_leaf_10 rfl rfl ?_
  refine g_iconst (v := 0) B dX10_leaf_11 (by decide) ?_
  refine g_iconst (v := 5) B dX10_leaf_12 (by decide) ?_
  replace h := bnP_s h
  obtain ⟨x5, h6, h⟩ := h
  refine g_callSs0 (st := [.int (bI x3), .int x1, va_rf v0]) B (cX10_inc h6) mi_X10_in lk_RX10_69 ⟨Nat.le_of_ble_eq_true rfl, Nat.le_of_ble_eq_true rfl⟩ rfl rfl (Nat.le_of_ble_eq_true rfl) dX10_leaf_13 (Nat.zero_le _) (Nat.zero_le _) ?_
  replace h := bnS_s h
  obtain ⟨x7, s9, h8, h⟩ := h
  refine g_callVs0 (st := []) B (cX10_mayc h8) (Nat.le_of_ble_eq_true rfl) rfl rfl mi_X10_may lk_RX10_44 ⟨Nat.le_of_ble_eq_true rfl, Nat.le_of_ble_eq_true rfl⟩ rfl rfl (Nat.le_of_ble_eq_true rfl) dX10_leaf_16 (Nat.zero_le _) (Nat.zero_le _) ?_
  refine g_if_ne B 24 dX10_leaf_19 (by decide) (fun hc => ?_) (fun hc => ?_)
  · replace h := ifp (bI1 hc) h
    refine g_iload_n B 2 dX10_leaf_24 rfl rfl ?_
    by_cases n0 : v2 = 0
    · replace h := ifp n0 h
      rw [n0]
      refine g_tableIn B 60 dX10_leaf_25 (by decide) (by decide) rfl (by decide) ?_
      refine g_aload_n B 0 dX10_leaf_60 rfl rfl ?_
      refine g_iload_n B 1 dX10_leaf_61 rfl rfl ?_
      replace h := bnP_s h
      obtain ⟨x14, h15, h⟩ := h
      refine g_callVs0 (st := []) B (cX10_statusOfc h15) (Nat.le_of_ble_eq_true rfl) rfl rfl mi_X10_statusOf lk_RX10_237 ⟨Nat.le_of_ble_eq_true rfl, Nat.le_of_ble_eq_true rfl⟩ rfl rfl (Nat.le_of_ble_eq_true rfl) dX10_leaf_62 (Nat.zero_le _) (Nat.zero_le _) ?_
      obtain ⟨w1, w2⟩ := inS h
      clear h
      subst w1
      subst w2
      exact g_iret B hE (Nat.zero_le _) (Nat.zero_le _) dX10_leaf_65
    replace h := ifn n0 h
    by_cases n1 : v2 = 1
    · replace h := ifp n1 h
      rw [n1]
      refine g_tableIn B 66 dX10_leaf_25 (by decide) (by decide) rfl (by decide) ?_
      refine g_aload_n B 0 dX10_leaf_66 rfl rfl ?_
      refine g_iload_n B 1 dX10_leaf_67 rfl rfl ?_
      replace h := bnP_s h
      obtain ⟨x16, h17, h⟩ := h
      refine g_callVs0 (st := []) B (cX10_lastOnc h17) (Nat.le_of_ble_eq_true rfl) rfl rfl mi_X10_lastOn lk_RX10_443 ⟨Nat.le_of_ble_eq_true rfl, Nat.le_of_ble_eq_true rfl⟩ rfl rfl (Nat.le_of_ble_eq_true rfl) dX10_leaf_68 (Nat.zero_le _) (Nat.zero_le _) ?_
      refine g_aload_n B 0 dX10_leaf_71 rfl rfl ?_
      refine g_iload_n B 1 dX10_leaf_72 rfl rfl ?_
      replace h := bnP_s h
      obtain ⟨x18, h19, h⟩ := h
      refine g_callVs0 (st := [.int x16]) B (cX10_firstOnc h19) (Nat.le_of_ble_eq_true rfl) rfl rfl mi_X10_firstOn lk_RX10_446 ⟨Nat.le_of_ble_eq_true rfl, Nat.le_of_ble_eq_true rfl⟩ rfl rfl (Nat.le_of_ble_eq_true rfl) dX10_leaf_73 (Nat.zero_le _) (Nat.zero_le _) ?_
      refine g_isub B dX10_leaf_76 ?_
      refine g_iconst (v := 1) B dX10_leaf_77 (by decide) ?_
      refine g_iadd B dX10_leaf_78 ?_
      obtain ⟨w1, w2⟩ := inS h
      clear h
      subst w1
      subst w2
      exact g_iret B hE (Nat.zero_le _) (Nat.zero_le _) dX10_leaf_79
    replace h := ifn n1 h
    by_cases n2 : v2 = 2
    · replace h := ifp n2 h
      rw [n2]
      refine g_tableIn B 80 dX10_leaf_25 (by decide) (by decide) rfl (by decide) ?_
      refine g_aload_n B 0 dX10_leaf_80 rfl rfl ?_
      refine g_aload_n B 0 dX10_leaf_81 rfl rfl ?_
      refine g_iload_n B 1 dX10_leaf_82 rfl rfl ?_
      replace h := bnP_s h
      obtain ⟨x20, h21, h⟩ := h
      refine g_callVs0 (st := [va_rf v0]) B (cX10_lastOnc h21) (Nat.le_of_ble_eq_true rfl) rfl rfl mi_X10_lastOn lk_RX10_443 ⟨Nat.le_of_ble_eq_true rfl, Nat.le_of_ble_eq_true rfl⟩ rfl rfl (Nat.le_of_ble_eq_true rfl) dX10_leaf_83 (Nat.zero_le _) (Nat.zero_le _) ?_
      replace h := bnP_s h
      obtain ⟨x22, h23, h⟩ := h
      refine g_callVs0 (st := []) B (cX10_actOfc h23) (Nat.le_of_ble_eq_true rfl) rfl rfl mi_X10_actOf lk_RX10_358 ⟨Nat.le_of_ble_eq_true rfl, Nat.le_of_ble_eq_true rfl⟩ rfl rfl (Nat.le_of_ble_eq_true rfl) dX10_leaf_86 (Nat.zero_le _) (Nat.zero_le _) ?_
      refine g_aload_n B 0 dX10_leaf_89 rfl rfl ?_
      refine g_aload_n B 0 dX10_leaf_90 rfl rfl ?_
      refine g_iload_n B 1 dX10_leaf_91 rfl rfl ?_
      replace h := bnP_s h
      obtain ⟨x24, h25, h⟩ := h
      refine g_callVs0 (st := [va_rf v0, .int x22]) B (cX10_firstOnc h25) (Nat.le_of_ble_eq_true rfl) rfl rfl mi_X10_firstOn lk_RX10_446 ⟨Nat.le_of_ble_eq_true rfl, Nat.le_of_ble_eq_true rfl⟩ rfl rfl (Nat.le_of_ble_eq_true rfl) dX10_leaf_92 (Nat.zero_le _) (Nat.zero_le _) ?_
      replace h := bnP_s h
      obtain ⟨x26, h27, h⟩ := h
      refine g_callVs0 (st := [.int x22]) B (cX10_actOfc h27) (Nat.le_of_ble_eq_true rfl) rfl rfl mi_X10_actOf lk_RX10_358 ⟨Nat.le_of_ble_eq_true rfl, Nat.le_of_ble_eq_true rfl⟩ rfl rfl (Nat.le_of_ble_eq_true rfl) dX10_leaf_95 (Nat.zero_le _) (Nat.zero_le _) ?_
      refine g_isub B dX10_leaf_98 ?_
      refine g_iconst (v := 1) B dX10_leaf_99 (by decide) ?_
      refine g_iadd B dX10_leaf_100 ?_
      obtain ⟨w1, w2⟩ := inS h
      clear h
      subst w1
      subst w2
      exact g_iret B hE (Nat.zero_le _) (Nat.zero_le _) dX10_leaf_101
    replace h := ifn n2 h
    by_cases n3 : v2 = 3
    · replace h := ifp n3 h
      rw [n3]
      refine g_tableIn B 102 dX10_leaf_25 (by decide) (by decide) rfl (by decide) ?_
      refine g_aload_n B 0 dX10_leaf_102 rfl rfl ?_
      refine g_iload_n B 1 dX10_leaf_103 rfl rfl ?_
      replace h := bnP_s h
      obtain ⟨x28, h29, h⟩ := h
      refine g_callVs0 (st := []) B (cX10_mateOfc h29) (Nat.le_of_ble_eq_true rfl) rfl rfl mi_X10_mateOf lk_RX10_166 ⟨Nat.le_of_ble_eq_true rfl, Nat.le_of_ble_eq_true rfl⟩ rfl rfl (Nat.le_of_ble_eq_true rfl) dX10_leaf_104 (Nat.zero_le _) (Nat.zero_le _) ?_
      obtain ⟨w1, w2⟩ := inS h
      clear h
      subst w1
      subst w2
      exact g_iret B hE (Nat.zero_le _) (Nat.zero_le _) dX10_leaf_107
    replace h := ifn n3 h
    by_cases n4 : v2 = 4
    · replace h := ifp n4 h
      rw [n4]
      refine g_tableIn B 108 dX10_leaf_25 (by decide) (by decide) rfl (by decide) ?_
      refine g_iload_n B 1 dX10_leaf_108 rfl rfl ?_
      refine g_aload_n B 0 dX10_leaf_109 rfl rfl ?_
      replace h := bnP_s h
      obtain ⟨x30, h31, h⟩ := h
      refine g_getR B fl_RX10_9 (by decide) dX10_leaf_110 h31 ?_
      refine g_iconst (v := 2) B dX10_leaf_113 (by decide) ?_
      replace h := bnP_s h
      obtain ⟨x32, h33, h⟩ := h
      refine g_iald B dX10_leaf_114 h33 ?_
      replace h := bnP_s h
      obtain ⟨u34, h35, h⟩ := h
      refine g_idiv B dX10_leaf_115 (nz_s h35) ?_
      obtain ⟨w1, w2⟩ := inS h
      clear h
      subst w1
      subst w2
      exact g_iret B hE (Nat.zero_le _) (Nat.zero_le _) dX10_leaf_116
    replace h := ifn n4 h
    have mn0 := tne n0 (k := 0) (by decide)
    have mn1 := tne n1 (k := 1) (by decide)
    have mn2 := tne n2 (k := 2) (by decide)
    have mn3 := tne n3 (k := 3) (by decide)
    have mn4 := tne n4 (k := 4) (by decide)
    refine g_tableOut B 117 dX10_leaf_25 (by omega) (by decide) ?_
    refine g_aload_n B 0 dX10_leaf_117 rfl rfl ?_
    refine g_aload_n B 0 dX10_leaf_118 rfl rfl ?_
    refine g_iload_n B 1 dX10_leaf_119 rfl rfl ?_
    replace h := bnP_s h
    obtain ⟨x10, h11, h⟩ := h
    refine g_callVs0 (st := [va_rf v0]) B (cX10_firstOnc h11) (Nat.le_of_ble_eq_true rfl) rfl rfl mi_X10_firstOn lk_RX10_446 ⟨Nat.le_of_ble_eq_true rfl, Nat.le_of_ble_eq_true rfl⟩ rfl rfl (Nat.le_of_ble_eq_true rfl) dX10_leaf_120 (Nat.zero_le _) (Nat.zero_le _) ?_
    replace h := bnP_s h
    obtain ⟨x12, h13, h⟩ := h
    refine g_callVs0 (st := []) B (cX10_actOfc h13) (Nat.le_of_ble_eq_true rfl) rfl rfl mi_X10_actOf lk_RX10_358 ⟨Nat.le_of_ble_eq_true rfl, Nat.le_of_ble_eq_true rfl⟩ rfl rfl (Nat.le_of_ble_eq_true rfl) dX10_leaf_123 (Nat.zero_le _) (Nat.zero_le _) ?_
    refine g_iconst (v := 1) B dX10_leaf_126 (by decide) ?_
    refine g_iadd B dX10_leaf_127 ?_
    obtain ⟨w1, w2⟩ := inS h
    clear h
    subst w1
    subst w2
    exact g_iret B hE (Nat.zero_le _) (Nat.zero_le _) dX10_leaf_128
  · replace h := ifn (bI0 hc) h
    refine g_iconst (v := 0) B dX10_leaf_22 (by decide) ?_
    obtain ⟨w1, w2⟩ := inS h
    clear h
    subst w1
    subst w2
    exact g_iret B hE (Nat.zero_le _) (Nat.zero_le _) dX10_leaf_23
set_option maxRecDepth 100000 in
set_option maxHeartbeats 4000000 in
theorem cX10_knownByc {l : Launch} {v0 : Option Nat} {v1 : Int32} {σ : HpT} {r : Int32} (h : fX10_knownBy v0 v1 σ = some r) : IsK σ v0 10 ∧ Ct l yX10_knownBy cX10_knownBy 4 (some .int) 6 133 [va_rf v0, .int v1] σ (.ok (some (.int r))) σ 0 0 := by
  unfold fX10_knownBy at h
  replace h := bnP_s h
  obtain ⟨u, hk, h⟩ := h
  replace hk := isK_s hk
  refine ⟨hk, ?_⟩
  refine ct_start mi_X10_knownBy.1 rfl (al_le (al_1 (rf_cat _) (al_1 rfl al_n)) (Nat.le_of_ble_eq_true rfl)) (ag_1 (rf_cat _) (ag_1 rfl ag_n)) (fun Δ Γ B hE hnm => ?_)
  refine g_iconst (v := 0) B dX10_knownBy_0 (by decide) ?_
  refine g_istore_n B dX10_knownBy_1 rfl (Nat.le_of_ble_eq_true rfl) (s1_c (f1_k rfl (f1_1 rfl rfl f1_n))) ?_
  refine g_iconst (v := 0) B dX10_knownBy_2 (by decide) ?_
  refine g_istore_n B dX10_knownBy_3 rfl (Nat.le_of_ble_eq_true rfl) (s1_c (f1_1 rfl rfl (f1_k rfl (f1_k rfl f1_n)))) ?_
  replace h := bnP_s h
  obtain ⟨r2, h3, h⟩ := h
  have kE4 : GW Δ Γ (0) (0) 57 [(2, .int r2)] [] σ := by
    refine g_iload_n B 0 dX10_knownBy_57 rfl rfl ?_
    replace h := Option.some.inj h
    subst h
    exact g_iret B hE (Nat.zero_le _) (Nat.zero_le _) dX10_knownBy_58
  clear h
  refine g_sub [2, 3, 1, 0] rfl ?_
  refine lpP_w (I := fun q1 => GW Δ Γ (0) (0) 4 [(0, va_rf v0), (1, .int v1), (2, .int q1.1), (3, .int q1.2)] [] σ) (r := r2) ?_ FUEL (0, 0) h3
  intro q1 x8 h hI6 hR7
  unfold fX10_knownBy_l1 at h
  refine g_iload_n B 3 dX10_knownBy_4 rfl rfl ?_
  refine g_aload_n B 0 dX10_knownBy_5 rfl rfl ?_
  replace h := bnP_s h
  obtain ⟨x10, h11, h⟩ := h
  refine g_getR B fl_RX10_9 (by decide) dX10_knownBy_6 h11 ?_
  refine g_iconst (v := 4) B dX10_knownBy_9 (by decide) ?_
  replace h := bnP_s h
  obtain ⟨x12, h13, h⟩ := h
  refine g_iald B dX10_knownBy_10 h13 ?_
  refine g_icmp_ge B 57 dX10_knownBy_11 (by decide) (fun hc => ?_) (fun hc => ?_)
  · replace h := ifp hc h
    replace h := Option.some.inj h
    subst h
    have e8 := hR7 _ rfl
    subst e8
    exact g_sub [2] rfl kE4
  · replace h := ifn hc h
    refine g_iload_n B 2 dX10_knownBy_14 rfl rfl ?_
    refine g_aload_n B 0 dX10_knownBy_15 rfl rfl ?_
    refine g_iload_n B 1 dX10_knownBy_16 rfl rfl ?_
    refine g_iload_n B 3 dX10_knownBy_17 rfl rfl ?_
    replace h := bnP_s h
    obtain ⟨x14, h15, h⟩ := h
    refine g_callVs0 (st := [.int q1.1]) B (cX10_hasWordc h15) (Nat.le_of_ble_eq_true rfl) rfl rfl mi_X10_hasWord lk_RX10_364 ⟨Nat.le_of_ble_eq_true rfl, Nat.le_of_ble_eq_true rfl⟩ rfl rfl (Nat.le_of_ble_eq_true rfl) dX10_knownBy_18 (Nat.zero_le _) (Nat.zero_le _) ?_
    replace h := bnP_s h
    obtain ⟨j16, h17, h⟩ := h
    have k19 : GW Δ Γ (0) (0) 46 [(0, va_rf v0), (1, .int v1), (3, .int q1.2)] [.int j16.2, .int j16.1] σ := by
      replace h := bnP_s h
      obtain ⟨x25, h26, h⟩ := h
      refine g_callSs0 (st := [.int j16.1]) B (cX10_onec h26) mi_X10_one lk_RX10_333 ⟨Nat.le_of_ble_eq_true rfl, Nat.le_of_ble_eq_true rfl⟩ rfl rfl (Nat.le_of_ble_eq_true rfl) dX10_knownBy_46 (Nat.zero_le _) (Nat.zero_le _) ?_
      refine g_iadd B dX10_knownBy_49 ?_
      refine g_istore_n B dX10_knownBy_50 rfl (Nat.le_of_ble_eq_true rfl) (s1_c (f1_k rfl (f1_1 rfl rfl (f1_k rfl f1_n)))) ?_
      refine g_iinc (v := (q1.2 + 1)) B 3 dX10_knownBy_51 rfl (by first | rfl | (congr 1; decide)) (Nat.le_of_ble_eq_true rfl) (s1_c (f1_1 rfl rfl (f1_k rfl (f1_k rfl (f1_x f1_n))))) ?_
      refine g_goto B 4 dX10_knownBy_54 (by decide) ?_
      replace h := Option.some.inj h
      subst h
      exact g_sub [2, 3, 1, 0] rfl (hI6 _ rfl)
    clear h
    have h := h17
    clear h17
    refine g_if_eq B 45 dX10_knownBy_21 (by decide) (fun hc => ?_) (fun hc => ?_)
    · replace h := ifn (bI0 hc) h
      refine g_iconst (v := 0) B dX10_knownBy_45 (by decide) ?_
      replace h := Option.some.inj h
      subst h
      exact g_sub [0, 1, 3] rfl k19
    · replace h := ifp (bI1 hc) h
      refine g_aload_n B 0 dX10_knownBy_24 rfl rfl ?_
      refine g_iload_n B 3 dX10_knownBy_25 rfl rfl ?_
      replace h := bnP_s h
      obtain ⟨x21, h22, h⟩ := h
      refine g_callVs0 (st := [.int q1.1]) B (cX10_isOnLostc h22) (Nat.le_of_ble_eq_true rfl) rfl rfl mi_X10_isOnLost lk_RX10_368 ⟨Nat.le_of_ble_eq_true rfl, Nat.le_of_ble_eq_true rfl⟩ rfl rfl (Nat.le_of_ble_eq_true rfl) dX10_knownBy_26 (Nat.zero_le _) (Nat.zero_le _) ?_
      refine g_if_eq B 45 dX10_knownBy_29 (by decide) (fun hc => ?_) (fun hc => ?_)
      · replace h := ifn (bI0 hc) h
        refine g_iconst (v := 0) B dX10_knownBy_45 (by decide) ?_
        replace h := Option.some.inj h
        subst h
        exact g_sub [0, 1, 3] rfl k19
      · replace h := ifp (bI1 hc) h
        refine g_aload_n B 0 dX10_knownBy_32 rfl rfl ?_
        refine g_iload_n B 3 dX10_knownBy_33 rfl rfl ?_
        replace h := bnP_s h
        obtain ⟨x23, h24, h⟩ := h
        refine g_callVs0 (st := [.int q1.1]) B (cX10_copiesWithc h24) (Nat.le_of_ble_eq_true rfl) rfl rfl mi_X10_copiesWith lk_RX10_371 ⟨Nat.le_of_ble_eq_true rfl, Nat.le_of_ble_eq_true rfl⟩ rfl rfl (Nat.le_of_ble_eq_true rfl) dX10_knownBy_34 (Nat.zero_le _) (Nat.zero_le _) ?_
        refine g_iconst (v := 1) B dX10_knownBy_37 (by decide) ?_
        refine g_icmp_ne B 45 dX10_knownBy_38 (by decide) (fun hc => ?_) (fun hc => ?_)
        · replace h := ifn hc h
          refine g_iconst (v := 0) B dX10_knownBy_45 (by decide) ?_
          replace h := Option.some.inj h
          subst h
          exact g_sub [0, 1, 3] rfl k19
        · replace h := ifp hc h
          refine g_iconst (v := 1) B dX10_knownBy_41 (by decide) ?_
          refine g_goto B 46 dX10_knownBy_42 (by decide) ?_
          replace h := Option.some.inj h
          subst h
          exact g_sub [0, 1, 3] rfl k19
set_option maxRecDepth 100000 in
set_option maxHeartbeats 4000000 in
theorem cX10_copyc {l : Launch} {v0 : Option Nat} {v1 : Int32} {v2 : Int32} {σ : HpT} {r : Int32} {σ' : HpT} (h : fX10_copy v0 v1 v2 σ = some (r, σ')) : IsK σ v0 10 ∧ Ct l yX10_copy cX10_copy 3 (some .int) 7 156 [va_rf v0, .int v1, .int v2] σ (.ok (some (.int r))) σ' 0 0 := by
  unfold fX10_copy at h
  replace h := bnP_s h
  obtain ⟨u, hk, h⟩ := h
  replace hk := isK_s hk
  refine ⟨hk, ?_⟩
  refine ct_start mi_X10_copy.1 rfl (al_le (al_1 (rf_cat _) (al_1 rfl (al_1 rfl al_n))) (Nat.le_of_ble_eq_true rfl)) (ag_1 (rf_cat _) (ag_1 rfl (ag_1 rfl ag_n))) (fun Δ Γ B hE hnm => ?_)
  refine g_aload_n B 0 dX10_copy_0 rfl rfl ?_
  refine g_aload_n B 0 dX10_copy_1 rfl rfl ?_
  replace h := bnP_s h
  obtain ⟨x1, h2, h⟩ := h
  refine g_getI B fl_RX10_48 (by decide) dX10_copy_2 h2 ?_
  refine g_aload_n B 0 dX10_copy_5 rfl rfl ?_
  refine g_iload_n B 1 dX10_copy_6 rfl rfl ?_
  replace h := bnP_s h
  obtain ⟨x3, h4, h⟩ := h
  refine g_callVs0 (st := [.int x1, va_rf v0]) B (cX10_isCopyc h4) (Nat.le_of_ble_eq_true rfl) rfl rfl mi_X10_isCopy lk_RX10_405 ⟨Nat.le_of_ble_eq_true rfl, Nat.le_of_ble_eq_true rfl⟩ rfl rfl (Nat.le_of_ble_eq_true rfl) dX10_copy_7 (Nat.zero_le _) (Nat.zero_le _) ?_
  refine g_iload_n B 2 dX10_copy_10 rfl rfl ?_
  refine g_iconst (v := 0) B dX10_copy_11 (by decide) ?_
  refine g_iconst (v := 4) B dX10_copy_12 (by decide) ?_
  replace h := bnP_s h
  obtain ⟨x5, h6, h⟩ := h
  refine g_callSs0 (st := [.int (bI x3), .int x1, va_rf v0]) B (cX10_inc h6) mi_X10_in lk_RX10_69 ⟨Nat.le_of_ble_eq_true rfl, Nat.le_of_ble_eq_true rfl⟩ rfl rfl (Nat.le_of_ble_eq_true rfl) dX10_copy_13 (Nat.zero_le _) (Nat.zero_le _) ?_
  replace h := bnS_s h
  obtain ⟨x7, s9, h8, h⟩ := h
  refine g_callVs0 (st := []) B (cX10_mayc h8) (Nat.le_of_ble_eq_true rfl) rfl rfl mi_X10_may lk_RX10_44 ⟨Nat.le_of_ble_eq_true rfl, Nat.le_of_ble_eq_true rfl⟩ rfl rfl (Nat.le_of_ble_eq_true rfl) dX10_copy_16 (Nat.zero_le _) (Nat.zero_le _) ?_
  refine g_if_ne B 24 dX10_copy_19 (by decide) (fun hc => ?_) (fun hc => ?_)
  · replace h := ifp (bI1 hc) h
    refine g_iload_n B 2 dX10_copy_24 rfl rfl ?_
    by_cases n0 : v2 = 0
    · replace h := ifp n0 h
      rw [n0]
      refine g_tableIn B 56 dX10_copy_25 (by decide) (by decide) rfl (by decide) ?_
      refine g_aload_n B 0 dX10_copy_56 rfl rfl ?_
      refine g_iload_n B 1 dX10_copy_57 rfl rfl ?_
      refine g_iconst (v := 0) B dX10_copy_58 (by decide) ?_
      replace h := bnP_s h
      obtain ⟨x12, h13, h⟩ := h
      refine g_callVs0 (st := []) B (cX10_ofCopyc h13) (Nat.le_of_ble_eq_true rfl) rfl rfl mi_X10_ofCopy lk_RX10_355 ⟨Nat.le_of_ble_eq_true rfl, Nat.le_of_ble_eq_true rfl⟩ rfl rfl (Nat.le_of_ble_eq_true rfl) dX10_copy_59 (Nat.zero_le _) (Nat.zero_le _) ?_
      refine g_iconst (v := 1) B dX10_copy_62 (by decide) ?_
      refine g_iadd B dX10_copy_63 ?_
      obtain ⟨w1, w2⟩ := inS h
      clear h
      subst w1
      subst w2
      exact g_iret B hE (Nat.zero_le _) (Nat.zero_le _) dX10_copy_64
    replace h := ifn n0 h
    by_cases n1 : v2 = 1
    · replace h := ifp n1 h
      rw [n1]
      refine g_tableIn B 65 dX10_copy_25 (by decide) (by decide) rfl (by decide) ?_
      refine g_aload_n B 0 dX10_copy_65 rfl rfl ?_
      refine g_iload_n B 1 dX10_copy_66 rfl rfl ?_
      refine g_iconst (v := 1) B dX10_copy_67 (by decide) ?_
      replace h := bnP_s h
      obtain ⟨x14, h15, h⟩ := h
      refine g_callVs0 (st := []) B (cX10_ofCopyc h15) (Nat.le_of_ble_eq_true rfl) rfl rfl mi_X10_ofCopy lk_RX10_355 ⟨Nat.le_of_ble_eq_true rfl, Nat.le_of_ble_eq_true rfl⟩ rfl rfl (Nat.le_of_ble_eq_true rfl) dX10_copy_68 (Nat.zero_le _) (Nat.zero_le _) ?_
      obtain ⟨w1, w2⟩ := inS h
      clear h
      subst w1
      subst w2
      exact g_iret B hE (Nat.zero_le _) (Nat.zero_le _) dX10_copy_71
    replace h := ifn n1 h
    by_cases n2 : v2 = 2
    · replace h := ifp n2 h
      rw [n2]
      refine g_tableIn B 72 dX10_copy_25 (by decide) (by decide) rfl (by decide) ?_
      refine g_aload_n B 0 dX10_copy_72 rfl rfl ?_
      refine g_aload_n B 0 dX10_copy_73 rfl rfl ?_
      refine g_iload_n B 1 dX10_copy_74 rfl rfl ?_
      refine g_iconst (v := 0) B dX10_copy_75 (by decide) ?_
      replace h := bnP_s h
      obtain ⟨x16, h17, h⟩ := h
      refine g_callVs0 (st := [va_rf v0]) B (cX10_ofCopyc h17) (Nat.le_of_ble_eq_true rfl) rfl rfl mi_X10_ofCopy lk_RX10_355 ⟨Nat.le_of_ble_eq_true rfl, Nat.le_of_ble_eq_true rfl⟩ rfl rfl (Nat.le_of_ble_eq_true rfl) dX10_copy_76 (Nat.zero_le _) (Nat.zero_le _) ?_
      refine g_aload_n B 0 dX10_copy_79 rfl rfl ?_
      refine g_iload_n B 1 dX10_copy_80 rfl rfl ?_
      refine g_iconst (v := 1) B dX10_copy_81 (by decide) ?_
      replace h := bnP_s h
      obtain ⟨x18, h19, h⟩ := h
      refine g_callVs0 (st := [.int x16, va_rf v0]) B (cX10_ofCopyc h19) (Nat.le_of_ble_eq_true rfl) rfl rfl mi_X10_ofCopy lk_RX10_355 ⟨Nat.le_of_ble_eq_true rfl, Nat.le_of_ble_eq_true rfl⟩ rfl rfl (Nat.le_of_ble_eq_true rfl) dX10_copy_82 (Nat.zero_le _) (Nat.zero_le _) ?_
      replace h := bnP_s h
      obtain ⟨x20, h21, h⟩ := h
      refine g_callVs0 (st := []) B (cX10_wordsByc h21) (Nat.le_of_ble_eq_true rfl) rfl rfl mi_X10_wordsBy lk_RX10_449 ⟨Nat.le_of_ble_eq_true rfl, Nat.le_of_ble_eq_true rfl⟩ rfl rfl (Nat.le_of_ble_eq_true rfl) dX10_copy_85 (Nat.zero_le _) (Nat.zero_le _) ?_
      obtain ⟨w1, w2⟩ := inS h
      clear h
      subst w1
      subst w2
      exact g_iret B hE (Nat.zero_le _) (Nat.zero_le _) dX10_copy_88
    replace h := ifn n2 h
    by_cases n3 : v2 = 3
    · replace h := ifp n3 h
      rw [n3]
      refine g_tableIn B 89 dX10_copy_25 (by decide) (by decide) rfl (by decide) ?_
      refine g_aload_n B 0 dX10_copy_89 rfl rfl ?_
      refine g_iload_n B 1 dX10_copy_90 rfl rfl ?_
      refine g_iconst (v := 1) B dX10_copy_91 (by decide) ?_
      replace h := bnP_s h
      obtain ⟨x22, h23, h⟩ := h
      refine g_callVs0 (st := []) B (cX10_ofCopyc h23) (Nat.le_of_ble_eq_true rfl) rfl rfl mi_X10_ofCopy lk_RX10_355 ⟨Nat.le_of_ble_eq_true rfl, Nat.le_of_ble_eq_true rfl⟩ rfl rfl (Nat.le_of_ble_eq_true rfl) dX10_copy_92 (Nat.zero_le _) (Nat.zero_le _) ?_
      replace h := bnP_s h
      obtain ⟨x24, h25, h⟩ := h
      refine g_callSs0 (st := []) B (cX10_feeOfc h25) mi_X10_feeOf lk_RX10_377 ⟨Nat.le_of_ble_eq_true rfl, Nat.le_of_ble_eq_true rfl⟩ rfl rfl (Nat.le_of_ble_eq_true rfl) dX10_copy_95 (Nat.zero_le _) (Nat.zero_le _) ?_
      obtain ⟨w1, w2⟩ := inS h
      clear h
      subst w1
      subst w2
      exact g_iret B hE (Nat.zero_le _) (Nat.zero_le _) dX10_copy_98
    replace h := ifn n3 h
    have mn0 := tne n0 (k := 0) (by decide)
    have mn1 := tne n1 (k := 1) (by decide)
    have mn2 := tne n2 (k := 2) (by decide)
    have mn3 := tne n3 (k := 3) (by decide)
    refine g_tableOut B 99 dX10_copy_25 (by omega) (by decide) ?_
    refine g_aload_n B 0 dX10_copy_99 rfl rfl ?_
    refine g_iload_n B 1 dX10_copy_100 rfl rfl ?_
    replace h := bnP_s h
    obtain ⟨x10, h11, h⟩ := h
    refine g_callVs0 (st := []) B (cX10_knownByc h11) (Nat.le_of_ble_eq_true rfl) rfl rfl mi_X10_knownBy lk_RX10_452 ⟨Nat.le_of_ble_eq_true rfl, Nat.le_of_ble_eq_true rfl⟩ rfl rfl (Nat.le_of_ble_eq_true rfl) dX10_copy_101 (Nat.zero_le _) (Nat.zero_le _) ?_
    obtain ⟨w1, w2⟩ := inS h
    clear h
    subst w1
    subst w2
    exact g_iret B hE (Nat.zero_le _) (Nat.zero_le _) dX10_copy_104
  · replace h := ifn (bI0 hc) h
    refine g_iconst (v := 0) B dX10_copy_22 (by decide) ?_
    obtain ⟨w1, w2⟩ := inS h
    clear h
    subst w1
    subst w2
    exact g_iret B hE (Nat.zero_le _) (Nat.zero_le _) dX10_copy_23
set_option maxRecDepth 100000 in
set_option maxHeartbeats 4000000 in
theorem cX10_hasc {l : Launch} {v0 : Option Nat} {v1 : Int32} {v2 : Int32} {σ : HpT} {r : Bool} {σ' : HpT} (h : fX10_has v0 v1 v2 σ = some (r, σ')) : IsK σ v0 10 ∧ Ct l yX10_has cX10_has 3 (some .boolean) 5 110 [va_rf v0, .int v1, .int v2] σ (.ok (some (.int (bI r)))) σ' 0 0 := by
  unfold fX10_has at h
  replace h := bnP_s h
  obtain ⟨u, hk, h⟩ := h
  replace hk := isK_s hk
  refine ⟨hk, ?_⟩
  refine ct_start mi_X10_has.1 rfl (al_le (al_1 (rf_cat _) (al_1 rfl (al_1 rfl al_n))) (Nat.le_of_ble_eq_true rfl)) (ag_1 (rf_cat _) (ag_1 rfl (ag_1 rfl ag_n))) (fun Δ Γ B hE hnm => ?_)
  refine g_aload_n B 0 dX10_has_0 rfl rfl ?_
  refine g_aload_n B 0 dX10_has_1 rfl rfl ?_
  replace h := bnP_s h
  obtain ⟨x1, h2, h⟩ := h
  refine g_getI B fl_RX10_48 (by decide) dX10_has_2 h2 ?_
  refine g_aload_n B 0 dX10_has_5 rfl rfl ?_
  refine g_iload_n B 1 dX10_has_6 rfl rfl ?_
  replace h := bnP_s h
  obtain ⟨x3, h4, h⟩ := h
  refine g_callVs0 (st := [.int x1, va_rf v0]) B (cX10_isCopyc h4) (Nat.le_of_ble_eq_true rfl) rfl rfl mi_X10_isCopy lk_RX10_405 ⟨Nat.le_of_ble_eq_true rfl, Nat.le_of_ble_eq_true rfl⟩ rfl rfl (Nat.le_of_ble_eq_true rfl) dX10_has_7 (Nat.zero_le _) (Nat.zero_le _) ?_
  replace h := bnP_s h
  obtain ⟨j5, h6, h⟩ := h
  have k8 : GW Δ Γ (0) (0) 34 [(0, va_rf v0), (1, .int v1), (2, .int v2)] [.int j5.2.2, .int j5.2.1, va_rf j5.1] σ := by
    replace h := bnS_s h
    obtain ⟨x14, s16, h15, h⟩ := h
    refine g_callVs0 (st := []) B (cX10_mayTwoc h15) (Nat.le_of_ble_eq_true rfl) rfl rfl mi_X10_mayTwo lk_RX10_380 ⟨Nat.le_of_ble_eq_true rfl, Nat.le_of_ble_eq_true rfl⟩ rfl rfl (Nat.le_of_ble_eq_true rfl) dX10_has_34 (Nat.zero_le _) (Nat.zero_le _) ?_
    refine g_if_ne B 42 dX10_has_37 (by decide) (fun hc => ?_) (fun hc => ?_)
    · replace h := ifp (bI1 hc) h
      refine g_aload_n B 0 dX10_has_42 rfl rfl ?_
      refine g_iload_n B 1 dX10_has_43 rfl rfl ?_
      refine g_aload_n B 0 dX10_has_44 rfl rfl ?_
      refine g_aload_n B 0 dX10_has_45 rfl rfl ?_
      refine g_iload_n B 1 dX10_has_46 rfl rfl ?_
      refine g_iconst (v := 0) B dX10_has_47 (by decide) ?_
      replace h := bnP_s h
      obtain ⟨x17, h18, h⟩ := h
      refine g_callVs0 (st := [va_rf v0, .int v1, va_rf v0]) B (cX10_ofCopyc h18) (Nat.le_of_ble_eq_true rfl) rfl rfl mi_X10_ofCopy lk_RX10_355 ⟨Nat.le_of_ble_eq_true rfl, Nat.le_of_ble_eq_true rfl⟩ rfl rfl (Nat.le_of_ble_eq_true rfl) dX10_has_48 (Nat.zero_le _) (Nat.zero_le _) ?_
      refine g_iconst (v := 1) B dX10_has_51 (by decide) ?_
      refine g_iadd B dX10_has_52 ?_
      refine g_iload_n B 2 dX10_has_53 rfl rfl ?_
      replace h := bnP_s h
      obtain ⟨x19, h20, h⟩ := h
      refine g_callVs0 (st := [.int v1, va_rf v0]) B (cX10_globalOfc h20) (Nat.le_of_ble_eq_true rfl) rfl rfl mi_X10_globalOf lk_RX10_425 ⟨Nat.le_of_ble_eq_true rfl, Nat.le_of_ble_eq_true rfl⟩ rfl rfl (Nat.le_of_ble_eq_true rfl) dX10_has_54 (Nat.zero_le _) (Nat.zero_le _) ?_
      replace h := bnP_s h
      obtain ⟨x21, h22, h⟩ := h
      refine g_callVs0 (st := []) B (cX10_hasWordc h22) (Nat.le_of_ble_eq_true rfl) rfl rfl mi_X10_hasWord lk_RX10_364 ⟨Nat.le_of_ble_eq_true rfl, Nat.le_of_ble_eq_true rfl⟩ rfl rfl (Nat.le_of_ble_eq_true rfl) dX10_has_57 (Nat.zero_le _) (Nat.zero_le _) ?_
      obtain ⟨w1, w2⟩ := inS h
      clear h
      subst w1
      subst w2
      exact g_zret B hE (nar_bI _) (Nat.zero_le _) (Nat.zero_le _) dX10_has_60
    · replace h := ifn (bI0 hc) h
      refine g_iconst (v := 0) B dX10_has_40 (by decide) ?_
      obtain ⟨w1, w2⟩ := inS h
      clear h
      subst w1
      subst w2
      exact g_zret B hE rfl (Nat.zero_le _) (Nat.zero_le _) dX10_has_41
  clear h
  have h := h6
  clear h6
  refine g_if_eq B 33 dX10_has_10 (by decide) (fun hc => ?_) (fun hc => ?_)
  · replace h := ifn (bI0 hc) h
    refine g_iconst (v := 0) B dX10_has_33 (by decide) ?_
    replace h := Option.some.inj h
    subst h
    exact g_sub [0, 1, 2] rfl k8
  · replace h := ifp (bI1 hc) h
    refine g_aload_n B 0 dX10_has_13 rfl rfl ?_
    refine g_aload_n B 0 dX10_has_14 rfl rfl ?_
    refine g_iload_n B 1 dX10_has_15 rfl rfl ?_
    refine g_iconst (v := 0) B dX10_has_16 (by decide) ?_
    replace h := bnP_s h
    obtain ⟨x10, h11, h⟩ := h
    refine g_callVs0 (st := [va_rf v0, .int x1, va_rf v0]) B (cX10_ofCopyc h11) (Nat.le_of_ble_eq_true rfl) rfl rfl mi_X10_ofCopy lk_RX10_355 ⟨Nat.le_of_ble_eq_true rfl, Nat.le_of_ble_eq_true rfl⟩ rfl rfl (Nat.le_of_ble_eq_true rfl) dX10_has_17 (Nat.zero_le _) (Nat.zero_le _) ?_
    refine g_iconst (v := 1) B dX10_has_20 (by decide) ?_
    refine g_iadd B dX10_has_21 ?_
    refine g_iload_n B 2 dX10_has_22 rfl rfl ?_
    replace h := bnP_s h
    obtain ⟨x12, h13, h⟩ := h
    refine g_callVs0 (st := [.int x1, va_rf v0]) B (cX10_isWordOfc h13) (Nat.le_of_ble_eq_true rfl) rfl rfl mi_X10_isWordOf lk_RX10_422 ⟨Nat.le_of_ble_eq_true rfl, Nat.le_of_ble_eq_true rfl⟩ rfl rfl (Nat.le_of_ble_eq_true rfl) dX10_has_23 (Nat.zero_le _) (Nat.zero_le _) ?_
    refine g_if_eq B 33 dX10_has_26 (by decide) (fun hc => ?_) (fun hc => ?_)
    · replace h := ifn (bI0 hc) h
      refine g_iconst (v := 0) B dX10_has_33 (by decide) ?_
      replace h := Option.some.inj h
      subst h
      exact g_sub [0, 1, 2] rfl k8
    · replace h := ifp (bI1 hc) h
      refine g_iconst (v := 1) B dX10_has_29 (by decide) ?_
      refine g_goto B 34 dX10_has_30 (by decide) ?_
      replace h := Option.some.inj h
      subst h
      exact g_sub [0, 1, 2] rfl k8
set_option maxRecDepth 100000 in
set_option maxHeartbeats 4000000 in
theorem cX10_knownc {l : Launch} {v0 : Option Nat} {v1 : Int32} {σ : HpT} {r : Int32} {σ' : HpT} (h : fX10_known v0 v1 σ = some (r, σ')) : IsK σ v0 10 ∧ Ct l yX10_known cX10_known 4 (some .int) 7 154 [va_rf v0, .int v1] σ (.ok (some (.int r))) σ' 0 0 := by
  unfold fX10_known at h
  replace h := bnP_s h
  obtain ⟨u, hk, h⟩ := h
  replace hk := isK_s hk
  refine ⟨hk, ?_⟩
  refine ct_start mi_X10_known.1 rfl (al_le (al_1 (rf_cat _) (al_1 rfl al_n)) (Nat.le_of_ble_eq_true rfl)) (ag_1 (rf_cat _) (ag_1 rfl ag_n)) (fun Δ Γ B hE hnm => ?_)
  refine g_aload_n B 0 dX10_known_0 rfl rfl ?_
  refine g_iload_n B 1 dX10_known_1 rfl rfl ?_
  replace h := bnS_s h
  obtain ⟨x1, s3, h2, h⟩ := h
  refine g_callVs0 (st := []) B (cX10_mayActc h2) (Nat.le_of_ble_eq_true rfl) rfl rfl mi_X10_mayAct lk_RX10_455 ⟨Nat.le_of_ble_eq_true rfl, Nat.le_of_ble_eq_true rfl⟩ rfl rfl (Nat.le_of_ble_eq_true rfl) dX10_known_2 (Nat.zero_le _) (Nat.zero_le _) ?_
  refine g_if_ne B 10 dX10_known_5 (by decide) (fun hc => ?_) (fun hc => ?_)
  · replace h := ifp (bI1 hc) h
    refine g_iconst (v := 0) B dX10_known_10 (by decide) ?_
    refine g_istore_n B dX10_known_11 rfl (Nat.le_of_ble_eq_true rfl) (s1_c (f1_k rfl (f1_1 rfl rfl f1_n))) ?_
    refine g_aload_n B 1 dX10_known_12 rfl rfl ?_
    refine g_iload_n B 2 dX10_known_13 rfl rfl ?_
    refine g_iconst (v := 1) B dX10_known_14 (by decide) ?_
    refine g_isub B dX10_known_15 ?_
    refine g_iconst (v := 5) B dX10_known_16 (by decide) ?_
    replace h := bnP_s h
    obtain ⟨x4, h5, h⟩ := h
    refine g_callVs0 (st := []) B (cX10_ofActc h5) (Nat.le_of_ble_eq_true rfl) rfl rfl mi_X10_ofAct lk_RX10_138 ⟨Nat.le_of_ble_eq_true rfl, Nat.le_of_ble_eq_true rfl⟩ rfl rfl (Nat.le_of_ble_eq_true rfl) dX10_known_17 (Nat.zero_le _) (Nat.zero_le _) ?_
    refine g_istore_n B dX10_known_20 rfl (Nat.le_of_ble_eq_true rfl) (s1_c (f1_1 rfl rfl (f1_k rfl (f1_k rfl f1_n)))) ?_
    replace h := bnP_s h
    obtain ⟨r7, h8, h⟩ := h
    have kE9 : GW Δ Γ (0) (0) 49 [(2, .int r7)] [] s3 := by
      refine g_iload_n B 0 dX10_known_49 rfl rfl ?_
      obtain ⟨w1, w2⟩ := inS h
      clear h
      subst w1
      subst w2
      exact g_iret B hE (Nat.zero_le _) (Nat.zero_le _) dX10_known_50
    clear h
    refine g_sub [2, 3, 1, 0] rfl ?_
    refine lpP_w (I := fun q6 => GW Δ Γ (0) (0) 21 [(0, va_rf v0), (1, .int v1), (2, .int q6.1), (3, .int q6.2)] [] s3) (r := r7) ?_ FUEL (0, x4) h8
    intro q6 x13 h hI11 hR12
    unfold fX10_known_l1 at h
    refine g_iload_n B 3 dX10_known_21 rfl rfl ?_
    refine g_aload_n B 0 dX10_known_22 rfl rfl ?_
    refine g_iload_n B 1 dX10_known_23 rfl rfl ?_
    refine g_iconst (v := 1) B dX10_known_24 (by decide) ?_
    refine g_isub B dX10_known_25 ?_
    replace h := bnP_s h
    obtain ⟨x15, h16, h⟩ := h
    refine g_callVs0 (st := [.int q6.2]) B (cX10_lastOfc h16) (Nat.le_of_ble_eq_true rfl) rfl rfl mi_X10_lastOf lk_RX10_327 ⟨Nat.le_of_ble_eq_true rfl, Nat.le_of_ble_eq_true rfl⟩ rfl rfl (Nat.le_of_ble_eq_true rfl) dX10_known_26 (Nat.zero_le _) (Nat.zero_le _) ?_
    refine g_icmp_gt B 49 dX10_known_29 (by decide) (fun hc => ?_) (fun hc => ?_)
    · replace h := ifp hc h
      replace h := Option.some.inj h
      subst h
      have e8 := hR12 _ rfl
      subst e8
      exact g_sub [2] rfl kE9
    · replace h := ifn hc h
      refine g_iload_n B 2 dX10_known_32 rfl rfl ?_
      refine g_aload_n B 0 dX10_known_33 rfl rfl ?_
      refine g_iload_n B 3 dX10_known_34 rfl rfl ?_
      replace h := bnP_s h
      obtain ⟨x17, h18, h⟩ := h
      refine g_callVs0 (st := [.int q6.1]) B (cX10_isKnownc h18) (Nat.le_of_ble_eq_true rfl) rfl rfl mi_X10_isKnown lk_RX10_374 ⟨Nat.le_of_ble_eq_true rfl, Nat.le_of_ble_eq_true rfl⟩ rfl rfl (Nat.le_of_ble_eq_true rfl) dX10_known_35 (Nat.zero_le _) (Nat.zero_le _) ?_
      replace h := bnP_s h
      obtain ⟨x19, h20, h⟩ := h
      refine g_callSs0 (st := [.int q6.1]) B (cX10_onec h20) mi_X10_one lk_RX10_333 ⟨Nat.le_of_ble_eq_true rfl, Nat.le_of_ble_eq_true rfl⟩ rfl rfl (Nat.le_of_ble_eq_true rfl) dX10_known_38 (Nat.zero_le _) (Nat.zero_le _) ?_
      refine g_iadd B dX10_known_41 ?_
      refine g_istore_n B dX10_known_42 rfl (Nat.le_of_ble_eq_true rfl) (s1_c (f1_k rfl (f1_1 rfl rfl (f1_x (f1_k rfl f1_n))))) ?_
      refine g_iinc (v := (q6.2 + 1)) B 3 dX10_known_43 rfl (by first | rfl | (congr 1; decide)) (Nat.le_of_ble_eq_true rfl) (s1_c (f1_1 rfl rfl (f1_k rfl (f1_k rfl (f1_x f1_n))))) ?_
      refine g_goto B 21 dX10_known_46 (by decide) ?_
      replace h := Option.some.inj h
      subst h
      exact g_sub [2, 3, 1, 0] rfl (hI11 _ rfl)
  · replace h := ifn (bI0 hc) h
    refine g_iconst (v := 0) B dX10_known_8 (by decide) ?_
    obtain ⟨w1, w2⟩ := inS h
    clear h
    subst w1
    subst w2
    exact g_iret B hE (Nat.zero_le _) (Nat.zero_le _) dX10_known_9
set_option maxRecDepth 100000 in
set_option maxHeartbeats 4000000 in
theorem cX10_firstUnknownc {l : Launch} {v0 : Option Nat} {v1 : Int32} {σ : HpT} {r : Int32} {σ' : HpT} (h : fX10_firstUnknown v0 v1 σ = some (r, σ')) : IsK σ v0 10 ∧ Ct l yX10_firstUnknown cX10_firstUnknown 3 (some .int) 7 154 [va_rf v0, .int v1] σ (.ok (some (.int r))) σ' 0 0 := by
  unfold fX10_firstUnknown at h
  replace h := bnP_s h
  obtain ⟨u, hk, h⟩ := h
  replace hk := isK_s hk
  refine ⟨hk, ?_⟩
  refine ct_start mi_X10_firstUnknown.1 rfl (al_le (al_1 (rf_cat _) (al_1 rfl al_n)) (Nat.le_of_ble_eq_true rfl)) (ag_1 (rf_cat _) (ag_1 rfl ag_n)) (fun Δ Γ B hE hnm => ?_)
  refine g_aload_n B 0 dX10_firstUnknown_0 rfl rfl ?_
  refine g_iload_n B 1 dX10_firstUnknown_1 rfl rfl ?_
  replace h := bnS_s h
  obtain ⟨x1, s3, h2, h⟩ := h
  refine g_callVs0 (st := []) B (cX10_mayActc h2) (Nat.le_of_ble_eq_true rfl) rfl rfl mi_X10_mayAct lk_RX10_455 ⟨Nat.le_of_ble_eq_true rfl, Nat.le_of_ble_eq_true rfl⟩ rfl rfl (Nat.le_of_ble_eq_true rfl) dX10_firstUnknown_2 (Nat.zero_le _) (Nat.zero_le _) ?_
  refine g_if_ne B 10 dX10_firstUnknown_5 (by decide) (fun hc => ?_) (fun hc => ?_)
  · replace h := ifp (bI1 hc) h
    refine g_iconst (v := 0) B dX10_firstUnknown_10 (by decide) ?_
    refine g_istore_n B dX10_firstUnknown_11 rfl (Nat.le_of_ble_eq_true rfl) (s1_c (f1_k rfl (f1_1 rfl rfl f1_n))) ?_
    replace h := bnP_s h
    obtain ⟨r5, h6, h⟩ := h
    have kE7 : ∀ y19, r5 = .inl y19 → GW Δ Γ (0) (0) 46 [] [] s3 := by
      intro y19 er
      subst er
      dsimp only at h
      refine g_iconst (v := (-1)) B dX10_firstUnknown_46 (by decide) ?_
      obtain ⟨w1, w2⟩ := inS h
      clear h
      subst w1
      subst w2
      exact g_iret B hE (Nat.zero_le _) (Nat.zero_le _) dX10_firstUnknown_47
    have kR8 : ∀ vv, r5 = .inr vv → En Δ Γ (.ok (some (.int vv))) s3 0 0 (some .int) ∧ 0 ≤ 0 ∧ 0 ≤ 0 := by
      intro vv er
      subst er
      dsimp only at h
      obtain ⟨w1, w2⟩ := inS h
      clear h
      subst w1
      subst w2
      exact ⟨hE, Nat.zero_le _, Nat.zero_le _⟩
    clear h
    refine g_sub [1, 2, 0] rfl ?_
    refine lpP_w (I := fun q4 => GW Δ Γ (0) (0) 12 [(0, va_rf v0), (1, .int v1), (2, .int q4)] [] s3) (r := r5) ?_ FUEL 0 h6
    intro q4 x11 h hI9 hR10
    unfold fX10_firstUnknown_l1 at h
    refine g_iload_n B 2 dX10_firstUnknown_12 rfl rfl ?_
    refine g_aload_n B 0 dX10_firstUnknown_13 rfl rfl ?_
    refine g_iload_n B 1 dX10_firstUnknown_14 rfl rfl ?_
    refine g_iconst (v := 1) B dX10_firstUnknown_15 (by decide) ?_
    refine g_isub B dX10_firstUnknown_16 ?_
    refine g_bipush (v := 6) B dX10_firstUnknown_17 (by decide) ?_
    replace h := bnP_s h
    obtain ⟨x13, h14, h⟩ := h
    refine g_callVs0 (st := [.int q4]) B (cX10_ofActc h14) (Nat.le_of_ble_eq_true rfl) rfl rfl mi_X10_ofAct lk_RX10_138 ⟨Nat.le_of_ble_eq_true rfl, Nat.le_of_ble_eq_true rfl⟩ rfl rfl (Nat.le_of_ble_eq_true rfl) dX10_firstUnknown_19 (Nat.zero_le _) (Nat.zero_le _) ?_
    refine g_icmp_ge B 46 dX10_firstUnknown_22 (by decide) (fun hc => ?_) (fun hc => ?_)
    · replace h := ifp hc h
      replace h := Option.some.inj h
      subst h
      have e8 := hR10 _ rfl
      subst e8
      exact g_sub [] rfl (kE7 _ rfl)
    · replace h := ifn hc h
      refine g_aload_n B 0 dX10_firstUnknown_25 rfl rfl ?_
      refine g_aload_n B 0 dX10_firstUnknown_26 rfl rfl ?_
      refine g_iload_n B 1 dX10_firstUnknown_27 rfl rfl ?_
      refine g_iload_n B 2 dX10_firstUnknown_28 rfl rfl ?_
      replace h := bnP_s h
      obtain ⟨x15, h16, h⟩ := h
      refine g_callVs0 (st := [va_rf v0]) B (cX10_globalOfc h16) (Nat.le_of_ble_eq_true rfl) rfl rfl mi_X10_globalOf lk_RX10_425 ⟨Nat.le_of_ble_eq_true rfl, Nat.le_of_ble_eq_true rfl⟩ rfl rfl (Nat.le_of_ble_eq_true rfl) dX10_firstUnknown_29 (Nat.zero_le _) (Nat.zero_le _) ?_
      replace h := bnP_s h
      obtain ⟨x17, h18, h⟩ := h
      refine g_callVs0 (st := []) B (cX10_isKnownc h18) (Nat.le_of_ble_eq_true rfl) rfl rfl mi_X10_isKnown lk_RX10_374 ⟨Nat.le_of_ble_eq_true rfl, Nat.le_of_ble_eq_true rfl⟩ rfl rfl (Nat.le_of_ble_eq_true rfl) dX10_firstUnknown_32 (Nat.zero_le _) (Nat.zero_le _) ?_
      refine g_if_ne B 40 dX10_firstUnknown_35 (by decide) (fun hc => ?_) (fun hc => ?_)
      · replace h := ifp (bI1 hc) h
        refine g_iinc (v := (q4 + 1)) B 2 dX10_firstUnknown_40 rfl (by first | rfl | (congr 1; decide)) (Nat.le_of_ble_eq_true rfl) (s1_c (f1_k rfl (f1_1 rfl rfl (f1_x f1_n)))) ?_
        refine g_goto B 12 dX10_firstUnknown_43 (by decide) ?_
        replace h := Option.some.inj h
        subst h
        exact g_sub [1, 2, 0] rfl (hI9 _ rfl)
      · replace h := ifn (bI0 hc) h
        refine g_iload_n B 2 dX10_firstUnknown_38 rfl rfl ?_
        replace h := Option.some.inj h
        subst h
        have e8 := hR10 _ rfl
        obtain ⟨hE, hc9, hs9⟩ := kR8 _ e8.symm
        exact g_iret B hE hc9 hs9 dX10_firstUnknown_39
  · replace h := ifn (bI0 hc) h
    refine g_iconst (v := 0) B dX10_firstUnknown_8 (by decide) ?_
    obtain ⟨w1, w2⟩ := inS h
    clear h
    subst w1
    subst w2
    exact g_iret B hE (Nat.zero_le _) (Nat.zero_le _) dX10_firstUnknown_9
set_option maxRecDepth 100000 in
set_option maxHeartbeats 4000000 in
theorem cX10_standingInc {l : Launch} {v0 : Option Nat} {v1 : Int32} {v2 : Int32} {σ : HpT} {r : Int32} (h : fX10_standingIn v0 v1 v2 σ = some r) : IsK σ v0 10 ∧ Ct l yX10_standingIn cX10_standingIn 5 (some .int) 2 43 [va_rf v0, .int v1, .int v2] σ (.ok (some (.int r))) σ 0 0 := by
  unfold fX10_standingIn at h
  replace h := bnP_s h
  obtain ⟨u, hk, h⟩ := h
  replace hk := isK_s hk
  refine ⟨hk, ?_⟩
  refine ct_start mi_X10_standingIn.1 rfl (al_le (al_1 (rf_cat _) (al_1 rfl (al_1 rfl al_n))) (Nat.le_of_ble_eq_true rfl)) (ag_1 (rf_cat _) (ag_1 rfl (ag_1 rfl ag_n))) (fun Δ Γ B hE hnm => ?_)
  refine g_iconst (v := 0) B dX10_standingIn_0 (by decide) ?_
  refine g_istore_n B dX10_standingIn_1 rfl (Nat.le_of_ble_eq_true rfl) (s1_c (f1_k rfl (f1_k rfl (f1_1 rfl rfl f1_n)))) ?_
  refine g_aload_n B 1 dX10_standingIn_2 rfl rfl ?_
  refine g_iload_n B 2 dX10_standingIn_3 rfl rfl ?_
  refine g_iconst (v := 5) B dX10_standingIn_4 (by decide) ?_
  replace h := bnP_s h
  obtain ⟨x1, h2, h⟩ := h
  refine g_callVs0 (st := []) B (cX10_ofActc h2) (Nat.le_of_ble_eq_true rfl) rfl rfl mi_X10_ofAct lk_RX10_138 ⟨Nat.le_of_ble_eq_true rfl, Nat.le_of_ble_eq_true rfl⟩ rfl rfl (Nat.le_of_ble_eq_true rfl) dX10_standingIn_5 (Nat.zero_le _) (Nat.zero_le _) ?_
  refine g_istore B dX10_standingIn_8 (Nat.le_of_ble_eq_true rfl) (s1_c (f1_1 rfl rfl (f1_k rfl (f1_k rfl (f1_k rfl f1_n))))) ?_
  replace h := bnP_s h
  obtain ⟨r4, h5, h⟩ := h
  have kE6 : GW Δ Γ (0) (0) 61 [(3, .int r4)] [] σ := by
    refine g_iload_n B 0 dX10_standingIn_61 rfl rfl ?_
    replace h := Option.some.inj h
    subst h
    exact g_iret B hE (Nat.zero_le _) (Nat.zero_le _) dX10_standingIn_62
  clear h
  refine g_sub [2, 3, 4, 1, 0] rfl ?_
  refine lpP_w (I := fun q3 => GW Δ Γ (0) (0) 10 [(0, va_rf v0), (1, .int v1), (2, .int v2), (3, .int q3.1), (4, .int q3.2)] [] σ) (r := r4) ?_ FUEL (0, x1) h5
  intro q3 x10 h hI8 hR9
  unfold fX10_standingIn_l1 at h
  refine g_iload B 4 dX10_standingIn_10 rfl ?_
  refine g_aload_n B 0 dX10_standingIn_12 rfl rfl ?_
  refine g_iload_n B 1 dX10_standingIn_13 rfl rfl ?_
  replace h := bnP_s h
  obtain ⟨x12, h13, h⟩ := h
  refine g_callVs0 (st := [.int q3.2]) B (cX10_lastOfc h13) (Nat.le_of_ble_eq_true rfl) rfl rfl mi_X10_lastOf lk_RX10_327 ⟨Nat.le_of_ble_eq_true rfl, Nat.le_of_ble_eq_true rfl⟩ rfl rfl (Nat.le_of_ble_eq_true rfl) dX10_standingIn_14 (Nat.zero_le _) (Nat.zero_le _) ?_
  refine g_icmp_gt B 61 dX10_standingIn_17 (by decide) (fun hc => ?_) (fun hc => ?_)
  · replace h := ifp hc h
    replace h := Option.some.inj h
    subst h
    have e8 := hR9 _ rfl
    subst e8
    exact g_sub [3] rfl kE6
  · replace h := ifn hc h
    refine g_iload_n B 3 dX10_standingIn_20 rfl rfl ?_
    refine g_aload_n B 0 dX10_standingIn_21 rfl rfl ?_
    refine g_iload B 4 dX10_standingIn_22 rfl ?_
    refine g_iconst (v := 3) B dX10_standingIn_24 (by decide) ?_
    replace h := bnP_s h
    obtain ⟨x14, h15, h⟩ := h
    refine g_callVs0 (st := [.int q3.1]) B (cX10_ofWordc h15) (Nat.le_of_ble_eq_true rfl) rfl rfl mi_X10_ofWord lk_RX10_209 ⟨Nat.le_of_ble_eq_true rfl, Nat.le_of_ble_eq_true rfl⟩ rfl rfl (Nat.le_of_ble_eq_true rfl) dX10_standingIn_25 (Nat.zero_le _) (Nat.zero_le _) ?_
    refine g_iload_n B 2 dX10_standingIn_28 rfl rfl ?_
    refine g_icmp_ne B 52 dX10_standingIn_29 (by decide) (fun hc => ?_) (fun hc => ?_)
    · replace h := ifn hc h
      refine g_iconst (v := 0) B dX10_standingIn_52 (by decide) ?_
      refine g_iadd B dX10_standingIn_53 ?_
      refine g_istore_n B dX10_standingIn_54 rfl (Nat.le_of_ble_eq_true rfl) (s1_c (f1_k rfl (f1_k rfl (f1_1 rfl rfl (f1_x (f1_k rfl f1_n)))))) ?_
      refine g_iinc (v := (q3.2 + 1)) B 4 dX10_standingIn_55 rfl (by first | rfl | (congr 1; decide)) (Nat.le_of_ble_eq_true rfl) (s1_c (f1_1 rfl rfl (f1_k rfl (f1_k rfl (f1_k rfl (f1_x f1_n)))))) ?_
      refine g_goto B 10 dX10_standingIn_58 (by decide) ?_
      replace h := Option.some.inj h
      subst h
      exact g_sub [2, 3, 4, 1, 0] rfl (hI8 _ rfl)
    · replace h := ifp hc h
      refine g_aload_n B 0 dX10_standingIn_32 rfl rfl ?_
      refine g_iload B 4 dX10_standingIn_33 rfl ?_
      replace h := bnP_s h
      obtain ⟨x16, h17, h⟩ := h
      refine g_callVs0 (st := [.int q3.1]) B (cX10_standsc h17) (Nat.le_of_ble_eq_true rfl) rfl rfl mi_X10_stands lk_RX10_330 ⟨Nat.le_of_ble_eq_true rfl, Nat.le_of_ble_eq_true rfl⟩ rfl rfl (Nat.le_of_ble_eq_true rfl) dX10_standingIn_35 (Nat.zero_le _) (Nat.zero_le _) ?_
      replace h := bnP_s h
      obtain ⟨x18, h19, h⟩ := h
      refine g_callSs0 (st := [.int q3.1]) B (cX10_onec h19) mi_X10_one lk_RX10_333 ⟨Nat.le_of_ble_eq_true rfl, Nat.le_of_ble_eq_true rfl⟩ rfl rfl (Nat.le_of_ble_eq_true rfl) dX10_standingIn_38 (Nat.zero_le _) (Nat.zero_le _) ?_
      refine g_aload_n B 0 dX10_standingIn_41 rfl rfl ?_
      refine g_iload B 4 dX10_standingIn_42 rfl ?_
      refine g_iconst (v := 4) B dX10_standingIn_44 (by decide) ?_
      replace h := bnP_s h
      obtain ⟨x20, h21, h⟩ := h
      refine g_callVs0 (st := [.int x18, .int q3.1]) B (cX10_ofWordc h21) (Nat.le_of_ble_eq_true rfl) rfl rfl mi_X10_ofWord lk_RX10_209 ⟨Nat.le_of_ble_eq_true rfl, Nat.le_of_ble_eq_true rfl⟩ rfl rfl (Nat.le_of_ble_eq_true rfl) dX10_standingIn_45 (Nat.zero_le _) (Nat.zero_le _) ?_
      refine g_iadd B dX10_standingIn_48 ?_
      refine g_goto B 53 dX10_standingIn_49 (by decide) ?_
      refine g_iadd B dX10_standingIn_53 ?_
      refine g_istore_n B dX10_standingIn_54 rfl (Nat.le_of_ble_eq_true rfl) (s1_c (f1_k rfl (f1_k rfl (f1_1 rfl rfl (f1_x (f1_k rfl f1_n)))))) ?_
      refine g_iinc (v := (q3.2 + 1)) B 4 dX10_standingIn_55 rfl (by first | rfl | (congr 1; decide)) (Nat.le_of_ble_eq_true rfl) (s1_c (f1_1 rfl rfl (f1_k rfl (f1_k rfl (f1_k rfl (f1_x f1_n)))))) ?_
      refine g_goto B 10 dX10_standingIn_58 (by decide) ?_
      replace h := Option.some.inj h
      subst h
      exact g_sub [2, 3, 4, 1, 0] rfl (hI8 _ rfl)
set_option maxRecDepth 100000 in
set_option maxHeartbeats 4000000 in
theorem cX10_standingByClausesc {l : Launch} {v0 : Option Nat} {v1 : Int32} {σ : HpT} {r : Int32} (h : fX10_standingByClauses v0 v1 σ = some r) : IsK σ v0 10 ∧ Ct l yX10_standingByClauses cX10_standingByClauses 4 (some .int) 3 67 [va_rf v0, .int v1] σ (.ok (some (.int r))) σ 0 0 := by
  unfold fX10_standingByClauses at h
  replace h := bnP_s h
  obtain ⟨u, hk, h⟩ := h
  replace hk := isK_s hk
  refine ⟨hk, ?_⟩
  refine ct_start mi_X10_standingByClauses.1 rfl (al_le (al_1 (rf_cat _) (al_1 rfl al_n)) (Nat.le_of_ble_eq_true rfl)) (ag_1 (rf_cat _) (ag_1 rfl ag_n)) (fun Δ Γ B hE hnm => ?_)
  refine g_iconst (v := 0) B dX10_standingByClauses_0 (by decide) ?_
  refine g_istore_n B dX10_standingByClauses_1 rfl (Nat.le_of_ble_eq_true rfl) (s1_c (f1_k rfl (f1_1 rfl rfl f1_n))) ?_
  refine g_iconst (v := (-1)) B dX10_standingByClauses_2 (by decide) ?_
  refine g_istore_n B dX10_standingByClauses_3 rfl (Nat.le_of_ble_eq_true rfl) (s1_c (f1_1 rfl rfl (f1_k rfl (f1_k rfl f1_n)))) ?_
  replace h := bnP_s h
  obtain ⟨r2, h3, h⟩ := h
  have kE4 : GW Δ Γ (0) (0) 49 [(2, .int r2)] [] σ := by
    refine g_iload_n B 0 dX10_standingByClauses_49 rfl rfl ?_
    replace h := Option.some.inj h
    subst h
    exact g_iret B hE (Nat.zero_le _) (Nat.zero_le _) dX10_standingByClauses_50
  clear h
  refine g_sub [2, 3, 1, 0] rfl ?_
  refine lpP_w (I := fun q1 => GW Δ Γ (0) (0) 4 [(0, va_rf v0), (1, .int v1), (2, .int q1.1), (3, .int q1.2)] [] σ) (r := r2) ?_ FUEL (0, (-1)) h3
  intro q1 x8 h hI6 hR7
  unfold fX10_standingByClauses_l1 at h
  refine g_iload_n B 3 dX10_standingByClauses_4 rfl rfl ?_
  refine g_aload_n B 0 dX10_standingByClauses_5 rfl rfl ?_
  refine g_iload_n B 1 dX10_standingByClauses_6 rfl rfl ?_
  refine g_bipush (v := 8) B dX10_standingByClauses_7 (by decide) ?_
  replace h := bnP_s h
  obtain ⟨x10, h11, h⟩ := h
  refine g_callVs0 (st := [.int q1.2]) B (cX10_ofActc h11) (Nat.le_of_ble_eq_true rfl) rfl rfl mi_X10_ofAct lk_RX10_138 ⟨Nat.le_of_ble_eq_true rfl, Nat.le_of_ble_eq_true rfl⟩ rfl rfl (Nat.le_of_ble_eq_true rfl) dX10_standingByClauses_9 (Nat.zero_le _) (Nat.zero_le _) ?_
  refine g_icmp_ge B 49 dX10_standingByClauses_12 (by decide) (fun hc => ?_) (fun hc => ?_)
  · replace h := ifp hc h
    replace h := Option.some.inj h
    subst h
    have e8 := hR7 _ rfl
    subst e8
    exact g_sub [2] rfl kE4
  · replace h := ifn hc h
    refine g_iload_n B 2 dX10_standingByClauses_15 rfl rfl ?_
    refine g_aload_n B 0 dX10_standingByClauses_16 rfl rfl ?_
    refine g_iload_n B 1 dX10_standingByClauses_17 rfl rfl ?_
    refine g_iload_n B 3 dX10_standingByClauses_18 rfl rfl ?_
    refine g_iconst (v := (-1)) B dX10_standingByClauses_19 (by decide) ?_
    replace h := bnP_s h
    obtain ⟨j12, h13, h⟩ := h
    have k15 : GW Δ Γ (0) (0) 38 [(0, va_rf v0), (1, .int v1), (3, .int q1.2)] [.int j12.2.2.2, .int j12.2.2.1, va_rf j12.2.1, .int j12.1] σ := by
      replace h := bnP_s h
      obtain ⟨x19, h20, h⟩ := h
      refine g_callVs0 (st := [.int j12.1]) B (cX10_standingInc h20) (Nat.le_of_ble_eq_true rfl) rfl rfl mi_X10_standingIn lk_RX10_458 ⟨Nat.le_of_ble_eq_true rfl, Nat.le_of_ble_eq_true rfl⟩ rfl rfl (Nat.le_of_ble_eq_true rfl) dX10_standingByClauses_38 (Nat.zero_le _) (Nat.zero_le _) ?_
      refine g_iadd B dX10_standingByClauses_41 ?_
      refine g_istore_n B dX10_standingByClauses_42 rfl (Nat.le_of_ble_eq_true rfl) (s1_c (f1_k rfl (f1_1 rfl rfl (f1_k rfl f1_n)))) ?_
      refine g_iinc (v := (q1.2 + 1)) B 3 dX10_standingByClauses_43 rfl (by first | rfl | (congr 1; decide)) (Nat.le_of_ble_eq_true rfl) (s1_c (f1_1 rfl rfl (f1_k rfl (f1_k rfl (f1_x f1_n))))) ?_
      refine g_goto B 4 dX10_standingByClauses_46 (by decide) ?_
      replace h := Option.some.inj h
      subst h
      exact g_sub [2, 3, 1, 0] rfl (hI6 _ rfl)
    clear h
    have h := h13
    clear h13
    refine g_icmp_ne B 27 dX10_standingByClauses_20 (by decide) (fun hc => ?_) (fun hc => ?_)
    · replace h := ifn hc h
      refine g_aload_n B 0 dX10_standingByClauses_27 rfl rfl ?_
      refine g_iload_n B 1 dX10_standingByClauses_28 rfl rfl ?_
      refine g_bipush (v := 7) B dX10_standingByClauses_29 (by decide) ?_
      replace h := bnP_s h
      obtain ⟨x17, h18, h⟩ := h
      refine g_callVs0 (st := [.int v1, va_rf v0, .int q1.1]) B (cX10_ofActc h18) (Nat.le_of_ble_eq_true rfl) rfl rfl mi_X10_ofAct lk_RX10_138 ⟨Nat.le_of_ble_eq_true rfl, Nat.le_of_ble_eq_true rfl⟩ rfl rfl (Nat.le_of_ble_eq_true rfl) dX10_standingByClauses_31 (Nat.zero_le _) (Nat.zero_le _) ?_
      refine g_iload_n B 3 dX10_standingByClauses_34 rfl rfl ?_
      refine g_iadd B dX10_standingByClauses_35 ?_
      refine g_iconst (v := 1) B dX10_standingByClauses_36 (by decide) ?_
      refine g_iadd B dX10_standingByClauses_37 ?_
      replace h := Option.some.inj h
      subst h
      exact g_sub [0, 1, 3] rfl k15
    · replace h := ifp hc h
      refine g_iconst (v := 0) B dX10_standingByClauses_23 (by decide) ?_
      refine g_goto B 38 dX10_standingByClauses_24 (by decide) ?_
      replace h := Option.some.inj h
      subst h
      exact g_sub [0, 1, 3] rfl k15
set_option maxRecDepth 100000 in
set_option maxHeartbeats 4000000 in
theorem cX10_gapc {l : Launch} {v0 : Option Nat} {σ : HpT} {r : Int32} {σ' : HpT} (h : fX10_gap v0 σ = some (r, σ')) : IsK σ v0 10 ∧ Ct l yX10_gap cX10_gap 5 (some .int) 4 90 [va_rf v0] σ (.ok (some (.int r))) σ' 0 0 := by
  unfold fX10_gap at h
  replace h := bnP_s h
  obtain ⟨u, hk, h⟩ := h
  replace hk := isK_s hk
  refine ⟨hk, ?_⟩
  refine ct_start mi_X10_gap.1 rfl (al_le (al_1 (rf_cat _) al_n) (Nat.le_of_ble_eq_true rfl)) (ag_1 (rf_cat _) ag_n) (fun Δ Γ B hE hnm => ?_)
  refine g_aload_n B 0 dX10_gap_0 rfl rfl ?_
  replace h := bnS_s h
  obtain ⟨x1, s3, h2, h⟩ := h
  refine g_callVs0 (st := []) B (cX10_mayLookc h2) (Nat.le_of_ble_eq_true rfl) rfl rfl mi_X10_mayLook lk_RX10_461 ⟨Nat.le_of_ble_eq_true rfl, Nat.le_of_ble_eq_true rfl⟩ rfl rfl (Nat.le_of_ble_eq_true rfl) dX10_gap_1 (Nat.zero_le _) (Nat.zero_le _) ?_
  refine g_if_ne B 9 dX10_gap_4 (by decide) (fun hc => ?_) (fun hc => ?_)
  · replace h := ifp (bI1 hc) h
    refine g_iconst (v := 0) B dX10_gap_9 (by decide) ?_
    refine g_istore_n B dX10_gap_10 rfl (Nat.le_of_ble_eq_true rfl) (s1_c (f1_1 rfl (rf_cat _) f1_n)) ?_
    refine g_aload_n B 1 dX10_gap_11 rfl rfl ?_
    replace h := bnP_s h
    obtain ⟨x4, h5, h⟩ := h
    refine g_getR B fl_RX10_9 (by decide) dX10_gap_12 h5 ?_
    refine g_bipush (v := 8) B dX10_gap_15 (by decide) ?_
    replace h := bnP_s h
    obtain ⟨x6, h7, h⟩ := h
    refine g_iald B dX10_gap_17 h7 ?_
    refine g_istore_n B dX10_gap_18 rfl (Nat.le_of_ble_eq_true rfl) (s1_c (f1_1 rfl rfl (f1_k rfl f1_n))) ?_
    refine g_iconst (v := 0) B dX10_gap_19 (by decide) ?_
    refine g_istore_n B dX10_gap_20 rfl (Nat.le_of_ble_eq_true rfl) (s1_c (f1_1 rfl rfl (f1_k rfl (f1_k rfl f1_n)))) ?_
    refine g_iconst (v := 0) B dX10_gap_21 (by decide) ?_
    refine g_istore B dX10_gap_22 (Nat.le_of_ble_eq_true rfl) (s1_c (f1_1 rfl rfl (f1_k rfl (f1_k rfl (f1_k rfl f1_n))))) ?_
    replace h := bnP_s h
    obtain ⟨r9, h10, h⟩ := h
    have kE11 : GW Δ Γ (0) (0) 57 [(0, va_rf v0), (1, .int r9), (2, .int x6), (3, .int 0)] [] s3 := by
      refine g_iconst (v := 0) B dX10_gap_57 (by decide) ?_
      refine g_istore B dX10_gap_58 (Nat.le_of_ble_eq_true rfl) (s1_c (f1_k rfl (f1_k rfl (f1_k rfl (f1_1 rfl rfl f1_n))))) ?_
      replace h := bnP_s h
      obtain ⟨r24, h25, h⟩ := h
      have kE26 : GW Δ Γ (0) (0) 113 [(0, va_rf v0), (1, .int r9), (2, .int r24.1), (3, .int r24.2)] [] s3 := by
        refine g_iconst (v := 0) B dX10_gap_113 (by decide) ?_
        refine g_istore B dX10_gap_114 (Nat.le_of_ble_eq_true rfl) (s1_c (f1_k rfl (f1_k rfl (f1_k rfl (f1_1 rfl rfl f1_n))))) ?_
        replace h := bnP_s h
        obtain ⟨r50, h51, h⟩ := h
        have kE52 : GW Δ Γ (0) (0) 147 [(0, va_rf v0), (1, .int r9), (2, .int r50), (3, .int r24.2)] [] s3 := by
          refine g_iload_n B 3 dX10_gap_147 rfl rfl ?_
          refine g_iload_n B 1 dX10_gap_148 rfl rfl ?_
          refine g_aload_n B 0 dX10_gap_149 rfl rfl ?_
          refine g_bipush (v := 6) B dX10_gap_150 (by decide) ?_
          replace h := bnP_s h
          obtain ⟨x66, h67, h⟩ := h
          refine g_callVs0 (st := [.int r9, .int r24.2]) B (cX10_ofAllActsc h67) (Nat.le_of_ble_eq_true rfl) rfl rfl mi_X10_ofAllActs lk_RX10_387 ⟨Nat.le_of_ble_eq_true rfl, Nat.le_of_ble_eq_true rfl⟩ rfl rfl (Nat.le_of_ble_eq_true rfl) dX10_gap_152 (Nat.zero_le _) (Nat.zero_le _) ?_
          refine g_isub B dX10_gap_155 ?_
          refine g_mabs B mt_RX10_468 (by decide) (Nat.le_of_ble_eq_true rfl) dX10_gap_156 (Nat.zero_le _) (Nat.zero_le _) ?_
          refine g_iadd B dX10_gap_159 ?_
          refine g_aload_n B 0 dX10_gap_160 rfl rfl ?_
          replace h := bnP_s h
          obtain ⟨x68, h69, h⟩ := h
          refine g_getR B fl_RX10_9 (by decide) dX10_gap_161 h69 ?_
          refine g_bipush (v := 7) B dX10_gap_164 (by decide) ?_
          replace h := bnP_s h
          obtain ⟨x70, h71, h⟩ := h
          refine g_iald B dX10_gap_166 h71 ?_
          refine g_iload_n B 2 dX10_gap_167 rfl rfl ?_
          refine g_isub B dX10_gap_168 ?_
          refine g_mabs B mt_RX10_468 (by decide) (Nat.le_of_ble_eq_true rfl) dX10_gap_169 (Nat.zero_le _) (Nat.zero_le _) ?_
          refine g_iadd B dX10_gap_172 ?_
          obtain ⟨w1, w2⟩ := inS h
          clear h
          subst w1
          subst w2
          exact g_iret B hE (Nat.zero_le _) (Nat.zero_le _) dX10_gap_173
        clear h
        refine g_sub [1, 2, 3, 4, 0] rfl ?_
        refine lpP_w (I := fun q49 => GW Δ Γ (0) (0) 116 [(0, va_rf v0), (1, .int r9), (2, .int q49.1), (3, .int r24.2), (4, .int q49.2)] [] s3) (r := r50) ?_ FUEL (r24.1, 0) h51
        intro q49 x56 h hI54 hR55
        unfold fX10_gap_l3 at h
        refine g_iload B 4 dX10_gap_116 rfl ?_
        refine g_aload_n B 0 dX10_gap_118 rfl rfl ?_
        replace h := bnP_s h
        obtain ⟨x58, h59, h⟩ := h
        refine g_getR B fl_RX10_9 (by decide) dX10_gap_119 h59 ?_
        refine g_bipush (v := 6) B dX10_gap_122 (by decide) ?_
        replace h := bnP_s h
        obtain ⟨x60, h61, h⟩ := h
        refine g_iald B dX10_gap_124 h61 ?_
        refine g_icmp_ge B 147 dX10_gap_125 (by decide) (fun hc => ?_) (fun hc => ?_)
        · replace h := ifp hc h
          replace h := Option.some.inj h
          subst h
          have e8 := hR55 _ rfl
          subst e8
          exact g_sub [0, 1, 2, 3] rfl kE52
        · replace h := ifn hc h
          refine g_iload_n B 2 dX10_gap_128 rfl rfl ?_
          refine g_aload_n B 0 dX10_gap_129 rfl rfl ?_
          refine g_iload B 4 dX10_gap_130 rfl ?_
          refine g_iconst (v := 1) B dX10_gap_132 (by decide) ?_
          replace h := bnP_s h
          obtain ⟨x62, h63, h⟩ := h
          refine g_callVs0 (st := [.int q49.1]) B (cX10_ofCopyc h63) (Nat.le_of_ble_eq_true rfl) rfl rfl mi_X10_ofCopy lk_RX10_355 ⟨Nat.le_of_ble_eq_true rfl, Nat.le_of_ble_eq_true rfl⟩ rfl rfl (Nat.le_of_ble_eq_true rfl) dX10_gap_133 (Nat.zero_le _) (Nat.zero_le _) ?_
          replace h := bnP_s h
          obtain ⟨x64, h65, h⟩ := h
          refine g_callSs0 (st := [.int q49.1]) B (cX10_feeOfc h65) mi_X10_feeOf lk_RX10_377 ⟨Nat.le_of_ble_eq_true rfl, Nat.le_of_ble_eq_true rfl⟩ rfl rfl (Nat.le_of_ble_eq_true rfl) dX10_gap_136 (Nat.zero_le _) (Nat.zero_le _) ?_
          refine g_iadd B dX10_gap_139 ?_
          refine g_istore_n B dX10_gap_140 rfl (Nat.le_of_ble_eq_true rfl) (s1_c (f1_k rfl (f1_1 rfl rfl (f1_x (f1_k rfl (f1_k rfl f1_n)))))) ?_
          refine g_iinc (v := (q49.2 + 1)) B 4 dX10_gap_141 rfl (by first | rfl | (congr 1; decide)) (Nat.le_of_ble_eq_true rfl) (s1_c (f1_k rfl (f1_k rfl (f1_k rfl (f1_1 rfl rfl (f1_x f1_n)))))) ?_
          refine g_goto B 116 dX10_gap_144 (by decide) ?_
          replace h := Option.some.inj h
          subst h
          exact g_sub [2, 3, 1, 4, 0] rfl (hI54 _ rfl)
      clear h
      refine g_sub [1, 2, 3, 4, 0] rfl ?_
      refine lpP_w (I := fun q23 => GW Δ Γ (0) (0) 60 [(0, va_rf v0), (1, .int r9), (2, .int q23.1), (3, .int q23.2.1), (4, .int q23.2.2)] [] s3) (r := r24) ?_ FUEL (x6, 0, 0) h25
      intro q23 x30 h hI28 hR29
      unfold fX10_gap_l2 at h
      refine g_iload B 4 dX10_gap_60 rfl ?_
      refine g_aload_n B 0 dX10_gap_62 rfl rfl ?_
      replace h := bnP_s h
      obtain ⟨x32, h33, h⟩ := h
      refine g_getR B fl_RX10_9 (by decide) dX10_gap_63 h33 ?_
      refine g_iconst (v := 3) B dX10_gap_66 (by decide) ?_
      replace h := bnP_s h
      obtain ⟨x34, h35, h⟩ := h
      refine g_iald B dX10_gap_67 h35 ?_
      refine g_icmp_ge B 113 dX10_gap_68 (by decide) (fun hc => ?_) (fun hc => ?_)
      · replace h := ifp hc h
        replace h := Option.some.inj h
        subst h
        have e8 := hR29 _ rfl
        subst e8
        exact g_sub [0, 1, 2, 3] rfl kE26
      · replace h := ifn hc h
        refine g_iload_n B 3 dX10_gap_71 rfl rfl ?_
        refine g_aload_n B 0 dX10_gap_72 rfl rfl ?_
        refine g_iload B 4 dX10_gap_73 rfl ?_
        replace h := bnP_s h
        obtain ⟨x36, h37, h⟩ := h
        refine g_callVs0 (st := [.int q23.2.1]) B (cX10_standingByClausesc h37) (Nat.le_of_ble_eq_true rfl) rfl rfl mi_X10_standingByClauses lk_RX10_465 ⟨Nat.le_of_ble_eq_true rfl, Nat.le_of_ble_eq_true rfl⟩ rfl rfl (Nat.le_of_ble_eq_true rfl) dX10_gap_75 (Nat.zero_le _) (Nat.zero_le _) ?_
        refine g_aload_n B 0 dX10_gap_78 rfl rfl ?_
        refine g_iload B 4 dX10_gap_79 rfl ?_
        replace h := bnP_s h
        obtain ⟨x38, h39, h⟩ := h
        refine g_callVs0 (st := [.int x36, .int q23.2.1]) B (cX10_standingc h39) (Nat.le_of_ble_eq_true rfl) rfl rfl mi_X10_standing lk_RX10_343 ⟨Nat.le_of_ble_eq_true rfl, Nat.le_of_ble_eq_true rfl⟩ rfl rfl (Nat.le_of_ble_eq_true rfl) dX10_gap_81 (Nat.zero_le _) (Nat.zero_le _) ?_
        replace h := bnP_s h
        obtain ⟨j40, h41, h⟩ := h
        have k43 : GW Δ Γ (0) (0) 92 [(0, va_rf v0), (1, .int r9), (2, .int q23.1), (4, .int q23.2.2)] [.int j40.2, .int j40.1] s3 := by
          replace h := bnP_s h
          obtain ⟨x45, h46, h⟩ := h
          refine g_callSs0 (st := [.int j40.1]) B (cX10_onec h46) mi_X10_one lk_RX10_333 ⟨Nat.le_of_ble_eq_true rfl, Nat.le_of_ble_eq_true rfl⟩ rfl rfl (Nat.le_of_ble_eq_true rfl) dX10_gap_92 (Nat.zero_le _) (Nat.zero_le _) ?_
          refine g_iadd B dX10_gap_95 ?_
          refine g_istore_n B dX10_gap_96 rfl (Nat.le_of_ble_eq_true rfl) (s1_c (f1_k rfl (f1_k rfl (f1_1 rfl rfl (f1_k rfl f1_n))))) ?_
          refine g_iload_n B 3 dX10_gap_97 rfl rfl ?_
          refine g_aload_n B 1 dX10_gap_98 rfl rfl ?_
          refine g_iload B 4 dX10_gap_99 rfl ?_
          refine g_iconst (v := 4) B dX10_gap_101 (by decide) ?_
          replace h := bnP_s h
          obtain ⟨x47, h48, h⟩ := h
          refine g_callVs0 (st := [.int q23.1]) B (cX10_ofActc h48) (Nat.le_of_ble_eq_true rfl) rfl rfl mi_X10_ofAct lk_RX10_138 ⟨Nat.le_of_ble_eq_true rfl, Nat.le_of_ble_eq_true rfl⟩ rfl rfl (Nat.le_of_ble_eq_true rfl) dX10_gap_102 (Nat.zero_le _) (Nat.zero_le _) ?_
          refine g_iadd B dX10_gap_105 ?_
          refine g_istore_n B dX10_gap_106 rfl (Nat.le_of_ble_eq_true rfl) (s1_c (f1_k rfl (f1_k rfl (f1_1 rfl rfl (f1_x (f1_k rfl f1_n)))))) ?_
          refine g_iinc (v := (q23.2.2 + 1)) B 4 dX10_gap_107 rfl (by first | rfl | (congr 1; decide)) (Nat.le_of_ble_eq_true rfl) (s1_c (f1_k rfl (f1_1 rfl rfl (f1_k rfl (f1_k rfl (f1_x f1_n)))))) ?_
          refine g_goto B 60 dX10_gap_110 (by decide) ?_
          replace h := Option.some.inj h
          subst h
          exact g_sub [3, 4, 1, 2, 0] rfl (hI28 _ rfl)
        clear h
        have h := h41
        clear h41
        refine g_icmp_eq B 91 dX10_gap_84 (by decide) (fun hc => ?_) (fun hc => ?_)
        · replace h := ifp hc h
          refine g_iconst (v := 0) B dX10_gap_91 (by decide) ?_
          replace h := Option.some.inj h
          subst h
          exact g_sub [0, 1, 2, 4] rfl k43
        · replace h := ifn hc h
          refine g_iconst (v := 1) B dX10_gap_87 (by decide) ?_
          refine g_goto B 92 dX10_gap_88 (by decide) ?_
          replace h := Option.some.inj h
          subst h
          exact g_sub [0, 1, 2, 4] rfl k43
    clear h
    refine g_sub [4, 3, 2, 1, 0] rfl ?_
    refine lpP_w (I := fun q8 => GW Δ Γ (0) (0) 24 [(0, va_rf v0), (1, .int q8.1), (2, .int x6), (3, .int 0), (4, .int q8.2)] [] s3) (r := r9) ?_ FUEL (0, 0) h10
    intro q8 x15 h hI13 hR14
    unfold fX10_gap_l1 at h
    refine g_iload B 4 dX10_gap_24 rfl ?_
    refine g_aload_n B 0 dX10_gap_26 rfl rfl ?_
    replace h := bnP_s h
    obtain ⟨x17, h18, h⟩ := h
    refine g_callVs0 (st := [.int q8.2]) B (cX10_leavesc h18) (Nat.le_of_ble_eq_true rfl) rfl rfl mi_X10_leaves lk_RX10_231 ⟨Nat.le_of_ble_eq_true rfl, Nat.le_of_ble_eq_true rfl⟩ rfl rfl (Nat.le_of_ble_eq_true rfl) dX10_gap_27 (Nat.zero_le _) (Nat.zero_le _) ?_
    refine g_icmp_ge B 57 dX10_gap_30 (by decide) (fun hc => ?_) (fun hc => ?_)
    · replace h := ifp hc h
      replace h := Option.some.inj h
      subst h
      have e8 := hR14 _ rfl
      subst e8
      exact g_sub [0, 1, 2, 3] rfl kE11
    · replace h := ifn hc h
      refine g_iload_n B 1 dX10_gap_33 rfl rfl ?_
      refine g_aload_n B 0 dX10_gap_34 rfl rfl ?_
      refine g_iload B 4 dX10_gap_35 rfl ?_
      replace h := bnP_s h
      obtain ⟨x19, h20, h⟩ := h
      refine g_callVs0 (st := [.int q8.1]) B (cX10_lastOnc h20) (Nat.le_of_ble_eq_true rfl) rfl rfl mi_X10_lastOn lk_RX10_443 ⟨Nat.le_of_ble_eq_true rfl, Nat.le_of_ble_eq_true rfl⟩ rfl rfl (Nat.le_of_ble_eq_true rfl) dX10_gap_37 (Nat.zero_le _) (Nat.zero_le _) ?_
      refine g_aload_n B 0 dX10_gap_40 rfl rfl ?_
      refine g_iload B 4 dX10_gap_41 rfl ?_
      replace h := bnP_s h
      obtain ⟨x21, h22, h⟩ := h
      refine g_callVs0 (st := [.int x19, .int q8.1]) B (cX10_firstOnc h22) (Nat.le_of_ble_eq_true rfl) rfl rfl mi_X10_firstOn lk_RX10_446 ⟨Nat.le_of_ble_eq_true rfl, Nat.le_of_ble_eq_true rfl⟩ rfl rfl (Nat.le_of_ble_eq_true rfl) dX10_gap_43 (Nat.zero_le _) (Nat.zero_le _) ?_
      refine g_isub B dX10_gap_46 ?_
      refine g_iconst (v := 1) B dX10_gap_47 (by decide) ?_
      refine g_iadd B dX10_gap_48 ?_
      refine g_iadd B dX10_gap_49 ?_
      refine g_istore_n B dX10_gap_50 rfl (Nat.le_of_ble_eq_true rfl) (s1_c (f1_1 rfl (rf_cat _) (f1_x (f1_k rfl (f1_k rfl (f1_k rfl f1_n)))))) ?_
      refine g_iinc (v := (q8.2 + 1)) B 4 dX10_gap_51 rfl (by first | rfl | (congr 1; decide)) (Nat.le_of_ble_eq_true rfl) (s1_c (f1_k rfl (f1_k rfl (f1_k rfl (f1_1 rfl rfl (f1_x f1_n)))))) ?_
      refine g_goto B 24 dX10_gap_54 (by decide) ?_
      replace h := Option.some.inj h
      subst h
      exact g_sub [2, 1, 3, 4, 0] rfl (hI13 _ rfl)
  · replace h := ifn (bI0 hc) h
    refine g_iconst (v := 0) B dX10_gap_7 (by decide) ?_
    obtain ⟨w1, w2⟩ := inS h
    clear h
    subst w1
    subst w2
    exact g_iret B hE (Nat.zero_le _) (Nat.zero_le _) dX10_gap_8
set_option maxRecDepth 100000 in
set_option maxHeartbeats 4000000 in
theorem cX10_whyNotSealc {l : Launch} {v0 : Option Nat} {v1 : Int32} {v2 : Int32} {σ : HpT} {r : Int32} {σ' : HpT} (h : fX10_whyNotSeal v0 v1 v2 σ = some (r, σ')) : IsK σ v0 10 ∧ Ct l yX10_whyNotSeal cX10_whyNotSeal 3 (some .int) 4 89 [va_rf v0, .int v1, .int v2] σ (.ok (some (.int r))) σ' 0 0 := by
  unfold fX10_whyNotSeal at h
  replace h := bnP_s h
  obtain ⟨u, hk, h⟩ := h
  replace hk := isK_s hk
  refine ⟨hk, ?_⟩
  refine ct_start mi_X10_whyNotSeal.1 rfl (al_le (al_1 (rf_cat _) (al_1 rfl (al_1 rfl al_n))) (Nat.le_of_ble_eq_true rfl)) (ag_1 (rf_cat _) (ag_1 rfl (ag_1 rfl ag_n))) (fun Δ Γ B hE hnm => ?_)
  refine g_aload_n B 0 dX10_whyNotSeal_0 rfl rfl ?_
  refine g_aload_n B 0 dX10_whyNotSeal_1 rfl rfl ?_
  replace h := bnP_s h
  obtain ⟨x1, h2, h⟩ := h
  refine g_getI B fl_RX10_48 (by decide) dX10_whyNotSeal_2 h2 ?_
  refine g_iload_n B 1 dX10_whyNotSeal_5 rfl rfl ?_
  refine g_iconst (v := 0) B dX10_whyNotSeal_6 (by decide) ?_
  refine g_bipush (v := 9) B dX10_whyNotSeal_7 (by decide) ?_
  replace h := bnP_s h
  obtain ⟨x3, h4, h⟩ := h
  refine g_callSs0 (st := [.int x1, va_rf v0]) B (cX10_inc h4) mi_X10_in lk_RX10_69 ⟨Nat.le_of_ble_eq_true rfl, Nat.le_of_ble_eq_true rfl⟩ rfl rfl (Nat.le_of_ble_eq_true rfl) dX10_whyNotSeal_9 (Nat.zero_le _) (Nat.zero_le _) ?_
  replace h := bnP_s h
  obtain ⟨j5, h6, h⟩ := h
  have k8 : GW Δ Γ (0) (0) 30 [(0, va_rf v0), (1, .int v1), (2, .int v2)] [.int j5.2.2, .int j5.2.1, va_rf j5.1] σ := by
    replace h := bnS_s h
    obtain ⟨x12, s14, h13, h⟩ := h
    refine g_callVs0 (st := []) B (cX10_mayTwoc h13) (Nat.le_of_ble_eq_true rfl) rfl rfl mi_X10_mayTwo lk_RX10_380 ⟨Nat.le_of_ble_eq_true rfl, Nat.le_of_ble_eq_true rfl⟩ rfl rfl (Nat.le_of_ble_eq_true rfl) dX10_whyNotSeal_30 (Nat.zero_le _) (Nat.zero_le _) ?_
    refine g_if_eq B 45 dX10_whyNotSeal_33 (by decide) (fun hc => ?_) (fun hc => ?_)
    · replace h := ifn (bI0 hc) h
      refine g_iconst (v := 0) B dX10_whyNotSeal_45 (by decide) ?_
      obtain ⟨w1, w2⟩ := inS h
      clear h
      subst w1
      subst w2
      exact g_iret B hE (Nat.zero_le _) (Nat.zero_le _) dX10_whyNotSeal_46
    · replace h := ifp (bI1 hc) h
      refine g_aload_n B 0 dX10_whyNotSeal_36 rfl rfl ?_
      refine g_iload_n B 1 dX10_whyNotSeal_37 rfl rfl ?_
      refine g_iload_n B 2 dX10_whyNotSeal_38 rfl rfl ?_
      replace h := bnP_s h
      obtain ⟨x15, h16, h⟩ := h
      refine g_callVs0 (st := []) B (cX10_whySealc h16) (Nat.le_of_ble_eq_true rfl) rfl rfl mi_X10_whySeal lk_RX10_218 ⟨Nat.le_of_ble_eq_true rfl, Nat.le_of_ble_eq_true rfl⟩ rfl rfl (Nat.le_of_ble_eq_true rfl) dX10_whyNotSeal_39 (Nat.zero_le _) (Nat.zero_le _) ?_
      refine g_goto B 46 dX10_whyNotSeal_42 (by decide) ?_
      obtain ⟨w1, w2⟩ := inS h
      clear h
      subst w1
      subst w2
      exact g_iret B hE (Nat.zero_le _) (Nat.zero_le _) dX10_whyNotSeal_46
  clear h
  have h := h6
  clear h6
  refine g_if_eq B 29 dX10_whyNotSeal_12 (by decide) (fun hc => ?_) (fun hc => ?_)
  · replace h := ifn (bI0 hc) h
    refine g_iconst (v := 0) B dX10_whyNotSeal_29 (by decide) ?_
    replace h := Option.some.inj h
    subst h
    exact g_sub [0, 1, 2] rfl k8
  · replace h := ifp (bI1 hc) h
    refine g_iload_n B 2 dX10_whyNotSeal_15 rfl rfl ?_
    refine g_iconst (v := 0) B dX10_whyNotSeal_16 (by decide) ?_
    refine g_bipush (v := 99) B dX10_whyNotSeal_17 (by decide) ?_
    replace h := bnP_s h
    obtain ⟨x10, h11, h⟩ := h
    refine g_callSs0 (st := [.int x1, va_rf v0]) B (cX10_inc h11) mi_X10_in lk_RX10_69 ⟨Nat.le_of_ble_eq_true rfl, Nat.le_of_ble_eq_true rfl⟩ rfl rfl (Nat.le_of_ble_eq_true rfl) dX10_whyNotSeal_19 (Nat.zero_le _) (Nat.zero_le _) ?_
    refine g_if_eq B 29 dX10_whyNotSeal_22 (by decide) (fun hc => ?_) (fun hc => ?_)
    · replace h := ifn (bI0 hc) h
      refine g_iconst (v := 0) B dX10_whyNotSeal_29 (by decide) ?_
      replace h := Option.some.inj h
      subst h
      exact g_sub [0, 1, 2] rfl k8
    · replace h := ifp (bI1 hc) h
      refine g_iconst (v := 1) B dX10_whyNotSeal_25 (by decide) ?_
      refine g_goto B 30 dX10_whyNotSeal_26 (by decide) ?_
      replace h := Option.some.inj h
      subst h
      exact g_sub [0, 1, 2] rfl k8
set_option maxRecDepth 100000 in
set_option maxHeartbeats 4000000 in
theorem cX10_whyNotCopyc {l : Launch} {v0 : Option Nat} {v1 : Int32} {v2 : Int32} {σ : HpT} {r : Int32} {σ' : HpT} (h : fX10_whyNotCopy v0 v1 v2 σ = some (r, σ')) : IsK σ v0 10 ∧ Ct l yX10_whyNotCopy cX10_whyNotCopy 3 (some .int) 8 177 [va_rf v0, .int v1, .int v2] σ (.ok (some (.int r))) σ' 0 0 := by
  unfold fX10_whyNotCopy at h
  replace h := bnP_s h
  obtain ⟨u, hk, h⟩ := h
  replace hk := isK_s hk
  refine ⟨hk, ?_⟩
  refine ct_start mi_X10_whyNotCopy.1 rfl (al_le (al_1 (rf_cat _) (al_1 rfl (al_1 rfl al_n))) (Nat.le_of_ble_eq_true rfl)) (ag_1 (rf_cat _) (ag_1 rfl (ag_1 rfl ag_n))) (fun Δ Γ B hE hnm => ?_)
  refine g_aload_n B 0 dX10_whyNotCopy_0 rfl rfl ?_
  refine g_aload_n B 0 dX10_whyNotCopy_1 rfl rfl ?_
  replace h := bnP_s h
  obtain ⟨x1, h2, h⟩ := h
  refine g_getI B fl_RX10_48 (by decide) dX10_whyNotCopy_2 h2 ?_
  refine g_aload_n B 0 dX10_whyNotCopy_5 rfl rfl ?_
  refine g_iload_n B 1 dX10_whyNotCopy_6 rfl rfl ?_
  replace h := bnP_s h
  obtain ⟨x3, h4, h⟩ := h
  refine g_callVs0 (st := [.int x1, va_rf v0]) B (cX10_isActc h4) (Nat.le_of_ble_eq_true rfl) rfl rfl mi_X10_isAct lk_RX10_399 ⟨Nat.le_of_ble_eq_true rfl, Nat.le_of_ble_eq_true rfl⟩ rfl rfl (Nat.le_of_ble_eq_true rfl) dX10_whyNotCopy_7 (Nat.zero_le _) (Nat.zero_le _) ?_
  refine g_iload_n B 2 dX10_whyNotCopy_10 rfl rfl ?_
  replace h := bnP_s h
  obtain ⟨x5, h6, h⟩ := h
  refine g_callSs0 (st := [.int (bI x3), .int x1, va_rf v0]) B (cX10_isGradec h6) mi_X10_isGrade lk_RX10_471 ⟨Nat.le_of_ble_eq_true rfl, Nat.le_of_ble_eq_true rfl⟩ rfl rfl (Nat.le_of_ble_eq_true rfl) dX10_whyNotCopy_11 (Nat.zero_le _) (Nat.zero_le _) ?_
  replace h := bnS_s h
  obtain ⟨x7, s9, h8, h⟩ := h
  refine g_callVs0 (st := []) B (cX10_mayc h8) (Nat.le_of_ble_eq_true rfl) rfl rfl mi_X10_may lk_RX10_44 ⟨Nat.le_of_ble_eq_true rfl, Nat.le_of_ble_eq_true rfl⟩ rfl rfl (Nat.le_of_ble_eq_true rfl) dX10_whyNotCopy_14 (Nat.zero_le _) (Nat.zero_le _) ?_
  refine g_if_eq B 31 dX10_whyNotCopy_17 (by decide) (fun hc => ?_) (fun hc => ?_)
  · replace h := ifn (bI0 hc) h
    refine g_iconst (v := 0) B dX10_whyNotCopy_31 (by decide) ?_
    obtain ⟨w1, w2⟩ := inS h
    clear h
    subst w1
    subst w2
    exact g_iret B hE (Nat.zero_le _) (Nat.zero_le _) dX10_whyNotCopy_32
  · replace h := ifp (bI1 hc) h
    refine g_aload_n B 0 dX10_whyNotCopy_20 rfl rfl ?_
    refine g_iload_n B 1 dX10_whyNotCopy_21 rfl rfl ?_
    refine g_iconst (v := 1) B dX10_whyNotCopy_22 (by decide) ?_
    refine g_isub B dX10_whyNotCopy_23 ?_
    refine g_iload_n B 2 dX10_whyNotCopy_24 rfl rfl ?_
    replace h := bnP_s h
    obtain ⟨x10, h11, h⟩ := h
    refine g_callVs0 (st := []) B (cX10_whyCopyc h11) (Nat.le_of_ble_eq_true rfl) rfl rfl mi_X10_whyCopy lk_RX10_224 ⟨Nat.le_of_ble_eq_true rfl, Nat.le_of_ble_eq_true rfl⟩ rfl rfl (Nat.le_of_ble_eq_true rfl) dX10_whyNotCopy_25 (Nat.zero_le _) (Nat.zero_le _) ?_
    refine g_goto B 32 dX10_whyNotCopy_28 (by decide) ?_
    obtain ⟨w1, w2⟩ := inS h
    clear h
    subst w1
    subst w2
    exact g_iret B hE (Nat.zero_le _) (Nat.zero_le _) dX10_whyNotCopy_32
set_option maxRecDepth 100000 in
set_option maxHeartbeats 4000000 in
theorem cX10_whyNotStrikec {l : Launch} {v0 : Option Nat} {v1 : Int32} {σ : HpT} {r : Int32} {σ' : HpT} (h : fX10_whyNotStrike v0 v1 σ = some (r, σ')) : IsK σ v0 10 ∧ Ct l yX10_whyNotStrike cX10_whyNotStrike 2 (some .int) 4 85 [va_rf v0, .int v1] σ (.ok (some (.int r))) σ' 0 0 := by
  unfold fX10_whyNotStrike at h
  replace h := bnP_s h
  obtain ⟨u, hk, h⟩ := h
  replace hk := isK_s hk
  refine ⟨hk, ?_⟩
  refine ct_start mi_X10_whyNotStrike.1 rfl (al_le (al_1 (rf_cat _) (al_1 rfl al_n)) (Nat.le_of_ble_eq_true rfl)) (ag_1 (rf_cat _) (ag_1 rfl ag_n)) (fun Δ Γ B hE hnm => ?_)
  refine g_aload_n B 0 dX10_whyNotStrike_0 rfl rfl ?_
  replace h := bnS_s h
  obtain ⟨x1, s3, h2, h⟩ := h
  refine g_callVs0 (st := []) B (cX10_mayLookc h2) (Nat.le_of_ble_eq_true rfl) rfl rfl mi_X10_mayLook lk_RX10_461 ⟨Nat.le_of_ble_eq_true rfl, Nat.le_of_ble_eq_true rfl⟩ rfl rfl (Nat.le_of_ble_eq_true rfl) dX10_whyNotStrike_1 (Nat.zero_le _) (Nat.zero_le _) ?_
  refine g_if_eq B 15 dX10_whyNotStrike_4 (by decide) (fun hc => ?_) (fun hc => ?_)
  · replace h := ifn (bI0 hc) h
    refine g_iconst (v := 0) B dX10_whyNotStrike_15 (by decide) ?_
    obtain ⟨w1, w2⟩ := inS h
    clear h
    subst w1
    subst w2
    exact g_iret B hE (Nat.zero_le _) (Nat.zero_le _) dX10_whyNotStrike_16
  · replace h := ifp (bI1 hc) h
    refine g_aload_n B 0 dX10_whyNotStrike_7 rfl rfl ?_
    refine g_iload_n B 1 dX10_whyNotStrike_8 rfl rfl ?_
    replace h := bnP_s h
    obtain ⟨x4, h5, h⟩ := h
    refine g_callVs0 (st := []) B (cX10_whyStrikec h5) (Nat.le_of_ble_eq_true rfl) rfl rfl mi_X10_whyStrike lk_RX10_194 ⟨Nat.le_of_ble_eq_true rfl, Nat.le_of_ble_eq_true rfl⟩ rfl rfl (Nat.le_of_ble_eq_true rfl) dX10_whyNotStrike_9 (Nat.zero_le _) (Nat.zero_le _) ?_
    refine g_goto B 16 dX10_whyNotStrike_12 (by decide) ?_
    obtain ⟨w1, w2⟩ := inS h
    clear h
    subst w1
    subst w2
    exact g_iret B hE (Nat.zero_le _) (Nat.zero_le _) dX10_whyNotStrike_16
set_option maxRecDepth 100000 in
set_option maxHeartbeats 4000000 in
theorem cX10_lostByc {l : Launch} {v0 : Option Nat} {v1 : Int32} {σ : HpT} {r : Int32} (h : fX10_lostBy v0 v1 σ = some r) : IsK σ v0 10 ∧ Ct l yX10_lostBy cX10_lostBy 4 (some .int) 6 133 [va_rf v0, .int v1] σ (.ok (some (.int r))) σ 0 0 := by
  unfold fX10_lostBy at h
  replace h := bnP_s h
  obtain ⟨u, hk, h⟩ := h
  replace hk := isK_s hk
  refine ⟨hk, ?_⟩
  refine ct_start mi_X10_lostBy.1 rfl (al_le (al_1 (rf_cat _) (al_1 rfl al_n)) (Nat.le_of_ble_eq_true rfl)) (ag_1 (rf_cat _) (ag_1 rfl ag_n)) (fun Δ Γ B hE hnm => ?_)
  refine g_iconst (v := 0) B dX10_lostBy_0 (by decide) ?_
  refine g_istore_n B dX10_lostBy_1 rfl (Nat.le_of_ble_eq_true rfl) (s1_c (f1_k rfl (f1_1 rfl rfl f1_n))) ?_
  refine g_aload_n B 1 dX10_lostBy_2 rfl rfl ?_
  refine g_iload_n B 2 dX10_lostBy_3 rfl rfl ?_
  replace h := bnP_s h
  obtain ⟨x1, h2, h⟩ := h
  refine g_callVs0 (st := []) B (cX10_firstOnc h2) (Nat.le_of_ble_eq_true rfl) rfl rfl mi_X10_firstOn lk_RX10_446 ⟨Nat.le_of_ble_eq_true rfl, Nat.le_of_ble_eq_true rfl⟩ rfl rfl (Nat.le_of_ble_eq_true rfl) dX10_lostBy_4 (Nat.zero_le _) (Nat.zero_le _) ?_
  refine g_istore_n B dX10_lostBy_7 rfl (Nat.le_of_ble_eq_true rfl) (s1_c (f1_1 rfl rfl (f1_k rfl (f1_k rfl f1_n)))) ?_
  replace h := bnP_s h
  obtain ⟨r4, h5, h⟩ := h
  have kE6 : GW Δ Γ (0) (0) 51 [(2, .int r4)] [] σ := by
    refine g_iload_n B 0 dX10_lostBy_51 rfl rfl ?_
    replace h := Option.some.inj h
    subst h
    exact g_iret B hE (Nat.zero_le _) (Nat.zero_le _) dX10_lostBy_52
  clear h
  refine g_sub [2, 3, 1, 0] rfl ?_
  refine lpP_w (I := fun q3 => GW Δ Γ (0) (0) 8 [(0, va_rf v0), (1, .int v1), (2, .int q3.1), (3, .int q3.2)] [] σ) (r := r4) ?_ FUEL (0, x1) h5
  intro q3 x10 h hI8 hR9
  unfold fX10_lostBy_l1 at h
  refine g_iload_n B 3 dX10_lostBy_8 rfl rfl ?_
  refine g_aload_n B 0 dX10_lostBy_9 rfl rfl ?_
  refine g_iload_n B 1 dX10_lostBy_10 rfl rfl ?_
  replace h := bnP_s h
  obtain ⟨x12, h13, h⟩ := h
  refine g_callVs0 (st := [.int q3.2]) B (cX10_lastOnc h13) (Nat.le_of_ble_eq_true rfl) rfl rfl mi_X10_lastOn lk_RX10_443 ⟨Nat.le_of_ble_eq_true rfl, Nat.le_of_ble_eq_true rfl⟩ rfl rfl (Nat.le_of_ble_eq_true rfl) dX10_lostBy_11 (Nat.zero_le _) (Nat.zero_le _) ?_
  refine g_icmp_gt B 51 dX10_lostBy_14 (by decide) (fun hc => ?_) (fun hc => ?_)
  · replace h := ifp hc h
    replace h := Option.some.inj h
    subst h
    have e8 := hR9 _ rfl
    subst e8
    exact g_sub [2] rfl kE6
  · replace h := ifn hc h
    refine g_iload_n B 2 dX10_lostBy_17 rfl rfl ?_
    refine g_aload_n B 0 dX10_lostBy_18 rfl rfl ?_
    refine g_iload_n B 1 dX10_lostBy_19 rfl rfl ?_
    replace h := bnP_s h
    obtain ⟨x14, h15, h⟩ := h
    refine g_callVs0 (st := [.int q3.1]) B (cX10_statusOfc h15) (Nat.le_of_ble_eq_true rfl) rfl rfl mi_X10_statusOf lk_RX10_237 ⟨Nat.le_of_ble_eq_true rfl, Nat.le_of_ble_eq_true rfl⟩ rfl rfl (Nat.le_of_ble_eq_true rfl) dX10_lostBy_20 (Nat.zero_le _) (Nat.zero_le _) ?_
    refine g_iconst (v := 2) B dX10_lostBy_23 (by decide) ?_
    replace h := bnP_s h
    obtain ⟨j16, h17, h⟩ := h
    have k19 : GW Δ Γ (0) (0) 40 [(0, va_rf v0), (1, .int v1), (3, .int q3.2)] [.int j16.2, .int j16.1] σ := by
      replace h := bnP_s h
      obtain ⟨x23, h24, h⟩ := h
      refine g_callSs0 (st := [.int j16.1]) B (cX10_onec h24) mi_X10_one lk_RX10_333 ⟨Nat.le_of_ble_eq_true rfl, Nat.le_of_ble_eq_true rfl⟩ rfl rfl (Nat.le_of_ble_eq_true rfl) dX10_lostBy_40 (Nat.zero_le _) (Nat.zero_le _) ?_
      refine g_iadd B dX10_lostBy_43 ?_
      refine g_istore_n B dX10_lostBy_44 rfl (Nat.le_of_ble_eq_true rfl) (s1_c (f1_k rfl (f1_1 rfl rfl (f1_k rfl f1_n)))) ?_
      refine g_iinc (v := (q3.2 + 1)) B 3 dX10_lostBy_45 rfl (by first | rfl | (congr 1; decide)) (Nat.le_of_ble_eq_true rfl) (s1_c (f1_1 rfl rfl (f1_k rfl (f1_k rfl (f1_x f1_n))))) ?_
      refine g_goto B 8 dX10_lostBy_48 (by decide) ?_
      replace h := Option.some.inj h
      subst h
      exact g_sub [2, 3, 1, 0] rfl (hI8 _ rfl)
    clear h
    have h := h17
    clear h17
    refine g_icmp_eq B 39 dX10_lostBy_24 (by decide) (fun hc => ?_) (fun hc => ?_)
    · replace h := ifp hc h
      refine g_iconst (v := 0) B dX10_lostBy_39 (by decide) ?_
      replace h := Option.some.inj h
      subst h
      exact g_sub [0, 1, 3] rfl k19
    · replace h := ifn hc h
      refine g_aload_n B 0 dX10_lostBy_27 rfl rfl ?_
      refine g_iload_n B 3 dX10_lostBy_28 rfl rfl ?_
      replace h := bnP_s h
      obtain ⟨x21, h22, h⟩ := h
      refine g_callVs0 (st := [.int q3.1]) B (cX10_copiesWithc h22) (Nat.le_of_ble_eq_true rfl) rfl rfl mi_X10_copiesWith lk_RX10_371 ⟨Nat.le_of_ble_eq_true rfl, Nat.le_of_ble_eq_true rfl⟩ rfl rfl (Nat.le_of_ble_eq_true rfl) dX10_lostBy_29 (Nat.zero_le _) (Nat.zero_le _) ?_
      refine g_if_ne B 39 dX10_lostBy_32 (by decide) (fun hc => ?_) (fun hc => ?_)
      · replace h := ifn hc h
        refine g_iconst (v := 0) B dX10_lostBy_39 (by decide) ?_
        replace h := Option.some.inj h
        subst h
        exact g_sub [0, 1, 3] rfl k19
      · replace h := ifp hc h
        refine g_iconst (v := 1) B dX10_lostBy_35 (by decide) ?_
        refine g_goto B 40 dX10_lostBy_36 (by decide) ?_
        replace h := Option.some.inj h
        subst h
        exact g_sub [0, 1, 3] rfl k19
set_option maxRecDepth 100000 in
set_option maxHeartbeats 4000000 in
theorem cX10_unknownIfc {l : Launch} {v0 : Option Nat} {v1 : Int32} {σ : HpT} {r : Int32} {σ' : HpT} (h : fX10_unknownIf v0 v1 σ = some (r, σ')) : IsK σ v0 10 ∧ Ct l yX10_unknownIf cX10_unknownIf 2 (some .int) 7 156 [va_rf v0, .int v1] σ (.ok (some (.int r))) σ' 0 0 := by
  unfold fX10_unknownIf at h
  replace h := bnP_s h
  obtain ⟨u, hk, h⟩ := h
  replace hk := isK_s hk
  refine ⟨hk, ?_⟩
  refine ct_start mi_X10_unknownIf.1 rfl (al_le (al_1 (rf_cat _) (al_1 rfl al_n)) (Nat.le_of_ble_eq_true rfl)) (ag_1 (rf_cat _) (ag_1 rfl ag_n)) (fun Δ Γ B hE hnm => ?_)
  refine g_aload_n B 0 dX10_unknownIf_0 rfl rfl ?_
  refine g_iload_n B 1 dX10_unknownIf_1 rfl rfl ?_
  replace h := bnS_s h
  obtain ⟨x1, s3, h2, h⟩ := h
  refine g_callVs0 (st := []) B (cX10_mayLeafc h2) (Nat.le_of_ble_eq_true rfl) rfl rfl mi_X10_mayLeaf lk_RX10_474 ⟨Nat.le_of_ble_eq_true rfl, Nat.le_of_ble_eq_true rfl⟩ rfl rfl (Nat.le_of_ble_eq_true rfl) dX10_unknownIf_2 (Nat.zero_le _) (Nat.zero_le _) ?_
  refine g_if_eq B 16 dX10_unknownIf_5 (by decide) (fun hc => ?_) (fun hc => ?_)
  · replace h := ifn (bI0 hc) h
    refine g_iconst (v := 0) B dX10_unknownIf_16 (by decide) ?_
    obtain ⟨w1, w2⟩ := inS h
    clear h
    subst w1
    subst w2
    exact g_iret B hE (Nat.zero_le _) (Nat.zero_le _) dX10_unknownIf_17
  · replace h := ifp (bI1 hc) h
    refine g_aload_n B 0 dX10_unknownIf_8 rfl rfl ?_
    refine g_iload_n B 1 dX10_unknownIf_9 rfl rfl ?_
    replace h := bnP_s h
    obtain ⟨x4, h5, h⟩ := h
    refine g_callVs0 (st := []) B (cX10_lostByc h5) (Nat.le_of_ble_eq_true rfl) rfl rfl mi_X10_lostBy lk_RX10_477 ⟨Nat.le_of_ble_eq_true rfl, Nat.le_of_ble_eq_true rfl⟩ rfl rfl (Nat.le_of_ble_eq_true rfl) dX10_unknownIf_10 (Nat.zero_le _) (Nat.zero_le _) ?_
    refine g_goto B 17 dX10_unknownIf_13 (by decide) ?_
    obtain ⟨w1, w2⟩ := inS h
    clear h
    subst w1
    subst w2
    exact g_iret B hE (Nat.zero_le _) (Nat.zero_le _) dX10_unknownIf_17
set_option maxRecDepth 100000 in
set_option maxHeartbeats 4000000 in
theorem cX10_worstLeafc {l : Launch} {v0 : Option Nat} {σ : HpT} {r : Int32} {σ' : HpT} (h : fX10_worstLeaf v0 σ = some (r, σ')) : IsK σ v0 10 ∧ Ct l yX10_worstLeaf cX10_worstLeaf 5 (some .int) 7 156 [va_rf v0] σ (.ok (some (.int r))) σ' 0 0 := by
  unfold fX10_worstLeaf at h
  replace h := bnP_s h
  obtain ⟨u, hk, h⟩ := h
  replace hk := isK_s hk
  refine ⟨hk, ?_⟩
  refine ct_start mi_X10_worstLeaf.1 rfl (al_le (al_1 (rf_cat _) al_n) (Nat.le_of_ble_eq_true rfl)) (ag_1 (rf_cat _) ag_n) (fun Δ Γ B hE hnm => ?_)
  refine g_aload_n B 0 dX10_worstLeaf_0 rfl rfl ?_
  replace h := bnS_s h
  obtain ⟨x1, s3, h2, h⟩ := h
  refine g_callVs0 (st := []) B (cX10_mayLookc h2) (Nat.le_of_ble_eq_true rfl) rfl rfl mi_X10_mayLook lk_RX10_461 ⟨Nat.le_of_ble_eq_true rfl, Nat.le_of_ble_eq_true rfl⟩ rfl rfl (Nat.le_of_ble_eq_true rfl) dX10_worstLeaf_1 (Nat.zero_le _) (Nat.zero_le _) ?_
  refine g_if_ne B 9 dX10_worstLeaf_4 (by decide) (fun hc => ?_) (fun hc => ?_)
  · replace h := ifp (bI1 hc) h
    refine g_iconst (v := (-1)) B dX10_worstLeaf_9 (by decide) ?_
    refine g_istore_n B dX10_worstLeaf_10 rfl (Nat.le_of_ble_eq_true rfl) (s1_c (f1_1 rfl (rf_cat _) f1_n)) ?_
    refine g_iconst (v := (-1)) B dX10_worstLeaf_11 (by decide) ?_
    refine g_istore_n B dX10_worstLeaf_12 rfl (Nat.le_of_ble_eq_true rfl) (s1_c (f1_1 rfl rfl (f1_k rfl f1_n))) ?_
    refine g_iconst (v := 0) B dX10_worstLeaf_13 (by decide) ?_
    refine g_istore_n B dX10_worstLeaf_14 rfl (Nat.le_of_ble_eq_true rfl) (s1_c (f1_1 rfl rfl (f1_k rfl (f1_k rfl f1_n)))) ?_
    replace h := bnP_s h
    obtain ⟨r5, h6, h⟩ := h
    have kE7 : GW Δ Γ (0) (0) 50 [(1, .int r5)] [] s3 := by
      refine g_iload_n B 0 dX10_worstLeaf_50 rfl rfl ?_
      obtain ⟨w1, w2⟩ := inS h
      clear h
      subst w1
      subst w2
      exact g_iret B hE (Nat.zero_le _) (Nat.zero_le _) dX10_worstLeaf_51
    clear h
    refine g_sub [3, 2, 1, 0] rfl ?_
    refine lpP_w (I := fun q4 => GW Δ Γ (0) (0) 15 [(0, va_rf v0), (1, .int q4.1), (2, .int q4.2.1), (3, .int q4.2.2)] [] s3) (r := r5) ?_ FUEL ((-1), (-1), 0) h6
    intro q4 x11 h hI9 hR10
    unfold fX10_worstLeaf_l1 at h
    obtain ⟨qv13, qv14, qv15⟩ := q4
    show GW Δ Γ (0) (0) 15 [(0, va_rf v0), (1, .int qv13), (2, .int qv14), (3, .int qv15)] [] s3
    dsimp only at h
    refine g_iload_n B 3 dX10_worstLeaf_15 rfl rfl ?_
    refine g_aload_n B 0 dX10_worstLeaf_16 rfl rfl ?_
    replace h := bnP_s h
    obtain ⟨x16, h17, h⟩ := h
    refine g_callVs0 (st := [.int qv15]) B (cX10_leavesc h17) (Nat.le_of_ble_eq_true rfl) rfl rfl mi_X10_leaves lk_RX10_231 ⟨Nat.le_of_ble_eq_true rfl, Nat.le_of_ble_eq_true rfl⟩ rfl rfl (Nat.le_of_ble_eq_true rfl) dX10_worstLeaf_17 (Nat.zero_le _) (Nat.zero_le _) ?_
    refine g_icmp_ge B 50 dX10_worstLeaf_20 (by decide) (fun hc => ?_) (fun hc => ?_)
    · replace h := ifp hc h
      replace h := Option.some.inj h
      subst h
      have e8 := hR10 _ rfl
      subst e8
      exact g_sub [1] rfl kE7
    · replace h := ifn hc h
      refine g_aload_n B 0 dX10_worstLeaf_23 rfl rfl ?_
      refine g_iload_n B 3 dX10_worstLeaf_24 rfl rfl ?_
      replace h := bnP_s h
      obtain ⟨x18, h19, h⟩ := h
      refine g_callVs0 (st := []) B (cX10_lostByc h19) (Nat.le_of_ble_eq_true rfl) rfl rfl mi_X10_lostBy lk_RX10_477 ⟨Nat.le_of_ble_eq_true rfl, Nat.le_of_ble_eq_true rfl⟩ rfl rfl (Nat.le_of_ble_eq_true rfl) dX10_worstLeaf_25 (Nat.zero_le _) (Nat.zero_le _) ?_
      refine g_istore B dX10_worstLeaf_28 (Nat.le_of_ble_eq_true rfl) (s1_c (f1_k rfl (f1_k rfl (f1_k rfl (f1_1 rfl rfl f1_n))))) ?_
      refine g_iload B 0 dX10_worstLeaf_30 rfl ?_
      refine g_iload_n B 3 dX10_worstLeaf_32 rfl rfl ?_
      refine g_icmp_gt B 39 dX10_worstLeaf_33 (by decide) (fun hc => ?_) (fun hc => ?_)
      · replace h := ifp hc h
        refine g_iload B 0 dX10_worstLeaf_39 rfl ?_
        refine g_istore_n B dX10_worstLeaf_41 rfl (Nat.le_of_ble_eq_true rfl) (s1_c (f1_k rfl (f1_k rfl (f1_1 rfl rfl (f1_x (f1_k rfl f1_n)))))) ?_
        refine g_iload_n B 4 dX10_worstLeaf_42 rfl rfl ?_
        refine g_istore_n B dX10_worstLeaf_43 rfl (Nat.le_of_ble_eq_true rfl) (s1_c (f1_k rfl (f1_k rfl (f1_1 rfl (rf_cat _) (f1_x (f1_k rfl f1_n)))))) ?_
        refine g_iinc (v := (qv15 + 1)) B 4 dX10_worstLeaf_44 rfl (by first | rfl | (congr 1; decide)) (Nat.le_of_ble_eq_true rfl) (s1_c (f1_k rfl (f1_1 rfl rfl (f1_k rfl (f1_k rfl (f1_x f1_n)))))) ?_
        refine g_goto B 15 dX10_worstLeaf_47 (by decide) ?_
        replace h := Option.some.inj h
        subst h
        exact g_sub [4, 1, 2, 0] rfl (hI9 (qv15, x18, (qv15 + 1)) rfl)
      · replace h := ifn hc h
        refine g_goto B 44 dX10_worstLeaf_36 (by decide) ?_
        refine g_iinc (v := (qv15 + 1)) B 4 dX10_worstLeaf_44 rfl (by first | rfl | (congr 1; decide)) (Nat.le_of_ble_eq_true rfl) (s1_c (f1_k rfl (f1_k rfl (f1_k rfl (f1_1 rfl rfl (f1_x f1_n)))))) ?_
        refine g_goto B 15 dX10_worstLeaf_47 (by decide) ?_
        replace h := Option.some.inj h
        subst h
        exact g_sub [2, 3, 4, 0] rfl (hI9 (qv13, qv14, (qv15 + 1)) rfl)
  · replace h := ifn (bI0 hc) h
    refine g_iconst (v := 0) B dX10_worstLeaf_7 (by decide) ?_
    obtain ⟨w1, w2⟩ := inS h
    clear h
    subst w1
    subst w2
    exact g_iret B hE (Nat.zero_le _) (Nat.zero_le _) dX10_worstLeaf_8
set_option maxRecDepth 100000 in
set_option maxHeartbeats 4000000 in
theorem cX10_shakenOutc {l : Launch} {v0 : Option Nat} {σ : HpT} {r : Int32} {σ' : HpT} (h : fX10_shakenOut v0 σ = some (r, σ')) : IsK σ v0 10 ∧ Ct l yX10_shakenOut cX10_shakenOut 2 (some .int) 4 86 [va_rf v0] σ (.ok (some (.int r))) σ' 0 0 := by
  unfold fX10_shakenOut at h
  replace h := bnP_s h
  obtain ⟨u, hk, h⟩ := h
  replace hk := isK_s hk
  refine ⟨hk, ?_⟩
  refine ct_start mi_X10_shakenOut.1 rfl (al_le (al_1 (rf_cat _) al_n) (Nat.le_of_ble_eq_true rfl)) (ag_1 (rf_cat _) ag_n) (fun Δ Γ B hE hnm => ?_)
  refine g_aload_n B 0 dX10_shakenOut_0 rfl rfl ?_
  replace h := bnS_s h
  obtain ⟨x1, s3, h2, h⟩ := h
  refine g_callVs0 (st := []) B (cX10_mayLookc h2) (Nat.le_of_ble_eq_true rfl) rfl rfl mi_X10_mayLook lk_RX10_461 ⟨Nat.le_of_ble_eq_true rfl, Nat.le_of_ble_eq_true rfl⟩ rfl rfl (Nat.le_of_ble_eq_true rfl) dX10_shakenOut_1 (Nat.zero_le _) (Nat.zero_le _) ?_
  refine g_if_ne B 9 dX10_shakenOut_4 (by decide) (fun hc => ?_) (fun hc => ?_)
  · replace h := ifp (bI1 hc) h
    refine g_iconst (v := 0) B dX10_shakenOut_9 (by decide) ?_
    refine g_istore_n B dX10_shakenOut_10 rfl (Nat.le_of_ble_eq_true rfl) (s1_c (f1_1 rfl (rf_cat _) f1_n)) ?_
    refine g_aload_n B 1 dX10_shakenOut_11 rfl rfl ?_
    replace h := bnP_s h
    obtain ⟨s6, h5, h⟩ := h
    refine g_callVv0 (st := []) B (cX10_thinksc h5) (Nat.le_of_ble_eq_true rfl) rfl rfl mi_X10_thinks lk_RX10_315 ⟨Nat.le_of_ble_eq_true rfl, Nat.le_of_ble_eq_true rfl⟩ rfl rfl (Nat.le_of_ble_eq_true rfl) dX10_shakenOut_12 (Nat.zero_le _) (Nat.zero_le _) ?_
    replace h := bnS_s h
    obtain ⟨r8, s20, h9, h⟩ := h
    have kE10 : GW Δ Γ (0) (0) 28 [(0, va_rf v0), (1, .int r8)] [] s20 := by
      refine g_aload_n B 0 dX10_shakenOut_28 rfl rfl ?_
      refine g_iload_n B 1 dX10_shakenOut_29 rfl rfl ?_
      replace h := bnS_s h
      obtain ⟨x21, s23, h22, h⟩ := h
      refine g_callVs0 (st := []) B (cX10_backc h22) (Nat.le_of_ble_eq_true rfl) rfl rfl mi_X10_back lk_RX10_321 ⟨Nat.le_of_ble_eq_true rfl, Nat.le_of_ble_eq_true rfl⟩ rfl rfl (Nat.le_of_ble_eq_true rfl) dX10_shakenOut_30 (Nat.zero_le _) (Nat.zero_le _) ?_
      obtain ⟨w1, w2⟩ := inS h
      clear h
      subst w1
      subst w2
      exact g_iret B hE (Nat.zero_le _) (Nat.zero_le _) dX10_shakenOut_33
    clear h
    refine g_sub [1, 0] rfl ?_
    refine lpS_w (I := fun q7 s16 => GW Δ Γ (0) (0) 15 [(0, va_rf v0), (1, .int q7)] [] s16) (r := r8) (σr := s20) ?_ FUEL 0 s6 h9
    intro q7 s16 x14 s9 h hI12 hR13
    unfold fX10_shakenOut_l1 at h
    refine g_aload_n B 0 dX10_shakenOut_15 rfl rfl ?_
    replace h := bnS_s h
    obtain ⟨x17, s19, h18, h⟩ := h
    refine g_callVs0 (st := []) B (cX10_shakesc h18) (Nat.le_of_ble_eq_true rfl) rfl rfl mi_X10_shakes lk_RX10_246 ⟨Nat.le_of_ble_eq_true rfl, Nat.le_of_ble_eq_true rfl⟩ rfl rfl (Nat.le_of_ble_eq_true rfl) dX10_shakenOut_16 (Nat.zero_le _) (Nat.zero_le _) ?_
    refine g_if_le B 28 dX10_shakenOut_19 (by decide) (fun hc => ?_) (fun hc => ?_)
    · replace h := ifp hc h
      obtain ⟨w1, w2⟩ := inS h
      clear h
      subst w1
      subst w2
      obtain ⟨e8, e7⟩ := hR13 _ rfl
      subst e8
      subst e7
      exact g_sub [0, 1] rfl kE10
    · replace h := ifn hc h
      refine g_iinc (v := (q7 + 1)) B 1 dX10_shakenOut_22 rfl (by first | rfl | (congr 1; decide)) (Nat.le_of_ble_eq_true rfl) (s1_c (f1_1 rfl (rf_cat _) (f1_x f1_n))) ?_
      refine g_goto B 15 dX10_shakenOut_25 (by decide) ?_
      obtain ⟨w1, w2⟩ := inS h
      clear h
      subst w1
      subst w2
      exact g_sub [1, 0] rfl (hI12 _ rfl)
  · replace h := ifn (bI0 hc) h
    refine g_iconst (v := 0) B dX10_shakenOut_7 (by decide) ?_
    obtain ⟨w1, w2⟩ := inS h
    clear h
    subst w1
    subst w2
    exact g_iret B hE (Nat.zero_le _) (Nat.zero_le _) dX10_shakenOut_8
set_option maxRecDepth 100000 in
set_option maxHeartbeats 4000000 in
theorem cX10_leavesForc {l : Launch} {v0 : Option Nat} {v1 : Int32} {σ : HpT} {r : Int32} {σ' : HpT} (h : fX10_leavesFor v0 v1 σ = some (r, σ')) : IsK σ v0 10 ∧ Ct l yX10_leavesFor cX10_leavesFor 3 (some .int) 2 45 [va_rf v0, .int v1] σ (.ok (some (.int r))) σ' 0 0 := by
  unfold fX10_leavesFor at h
  replace h := bnP_s h
  obtain ⟨u, hk, h⟩ := h
  replace hk := isK_s hk
  refine ⟨hk, ?_⟩
  refine ct_start mi_X10_leavesFor.1 rfl (al_le (al_1 (rf_cat _) (al_1 rfl al_n)) (Nat.le_of_ble_eq_true rfl)) (ag_1 (rf_cat _) (ag_1 rfl ag_n)) (fun Δ Γ B hE hnm => ?_)
  refine g_aload_n B 0 dX10_leavesFor_0 rfl rfl ?_
  refine g_aload_n B 0 dX10_leavesFor_1 rfl rfl ?_
  replace h := bnP_s h
  obtain ⟨x1, h2, h⟩ := h
  refine g_getI B fl_RX10_48 (by decide) dX10_leavesFor_2 h2 ?_
  refine g_iload_n B 1 dX10_leavesFor_5 rfl rfl ?_
  refine g_iconst (v := 0) B dX10_leavesFor_6 (by decide) ?_
  refine g_sipush (v := 240) B dX10_leavesFor_7 (by decide) ?_
  replace h := bnP_s h
  obtain ⟨x3, h4, h⟩ := h
  refine g_callSs0 (st := [.int x1, va_rf v0]) B (cX10_inc h4) mi_X10_in lk_RX10_69 ⟨Nat.le_of_ble_eq_true rfl, Nat.le_of_ble_eq_true rfl⟩ rfl rfl (Nat.le_of_ble_eq_true rfl) dX10_leavesFor_10 (Nat.zero_le _) (Nat.zero_le _) ?_
  replace h := bnS_s h
  obtain ⟨x5, s7, h6, h⟩ := h
  refine g_callVs0 (st := []) B (cX10_mayTwoc h6) (Nat.le_of_ble_eq_true rfl) rfl rfl mi_X10_mayTwo lk_RX10_380 ⟨Nat.le_of_ble_eq_true rfl, Nat.le_of_ble_eq_true rfl⟩ rfl rfl (Nat.le_of_ble_eq_true rfl) dX10_leavesFor_13 (Nat.zero_le _) (Nat.zero_le _) ?_
  refine g_if_ne B 21 dX10_leavesFor_16 (by decide) (fun hc => ?_) (fun hc => ?_)
  · replace h := ifp (bI1 hc) h
    refine g_aload_n B 0 dX10_leavesFor_21 rfl rfl ?_
    replace h := bnP_s h
    obtain ⟨x8, h9, h⟩ := h
    refine g_getR B fl_RX10_9 (by decide) dX10_leavesFor_22 h9 ?_
    refine g_iconst (v := 4) B dX10_leavesFor_25 (by decide) ?_
    replace h := bnP_s h
    obtain ⟨x10, h11, h⟩ := h
    refine g_iald B dX10_leavesFor_26 h11 ?_
    refine g_iload_n B 1 dX10_leavesFor_27 rfl rfl ?_
    refine g_iadd B dX10_leavesFor_28 ?_
    refine g_aload_n B 0 dX10_leavesFor_29 rfl rfl ?_
    replace h := bnP_s h
    obtain ⟨x12, h13, h⟩ := h
    refine g_getR B fl_RX10_9 (by decide) dX10_leavesFor_30 h13 ?_
    refine g_iconst (v := 0) B dX10_leavesFor_33 (by decide) ?_
    replace h := bnP_s h
    obtain ⟨x14, h15, h⟩ := h
    refine g_iald B dX10_leavesFor_34 h15 ?_
    refine g_iadd B dX10_leavesFor_35 ?_
    refine g_iconst (v := 1) B dX10_leavesFor_36 (by decide) ?_
    refine g_isub B dX10_leavesFor_37 ?_
    refine g_aload_n B 0 dX10_leavesFor_38 rfl rfl ?_
    replace h := bnP_s h
    obtain ⟨x16, h17, h⟩ := h
    refine g_getR B fl_RX10_9 (by decide) dX10_leavesFor_39 h17 ?_
    refine g_iconst (v := 0) B dX10_leavesFor_42 (by decide) ?_
    replace h := bnP_s h
    obtain ⟨x18, h19, h⟩ := h
    refine g_iald B dX10_leavesFor_43 h19 ?_
    replace h := bnP_s h
    obtain ⟨u20, h21, h⟩ := h
    refine g_idiv B dX10_leavesFor_44 (nz_s h21) ?_
    refine g_istore_n B dX10_leavesFor_45 rfl (Nat.le_of_ble_eq_true rfl) (s1_c (f1_k rfl (f1_1 rfl rfl f1_n))) ?_
    refine g_iload_n B 0 dX10_leavesFor_46 rfl rfl ?_
    refine g_bipush (v := 12) B dX10_leavesFor_47 (by decide) ?_
    refine g_icmp_le B 56 dX10_leavesFor_49 (by decide) (fun hc => ?_) (fun hc => ?_)
    · replace h := ifp hc h
      refine g_iload_n B 0 dX10_leavesFor_56 rfl rfl ?_
      refine g_aload_n B 1 dX10_leavesFor_57 rfl rfl ?_
      replace h := bnP_s h
      obtain ⟨x22, h23, h⟩ := h
      refine g_callVs0 (st := [.int ((((x10 + v1) + x14) - 1) / x18)]) B (cX10_leavesc h23) (Nat.le_of_ble_eq_true rfl) rfl rfl mi_X10_leaves lk_RX10_231 ⟨Nat.le_of_ble_eq_true rfl, Nat.le_of_ble_eq_true rfl⟩ rfl rfl (Nat.le_of_ble_eq_true rfl) dX10_leavesFor_58 (Nat.zero_le _) (Nat.zero_le _) ?_
      refine g_isub B dX10_leavesFor_61 ?_
      obtain ⟨w1, w2⟩ := inS h
      clear h
      subst w1
      subst w2
      exact g_iret B hE (Nat.zero_le _) (Nat.zero_le _) dX10_leavesFor_62
    · replace h := ifn hc h
      refine g_iconst (v := (-1)) B dX10_leavesFor_52 (by decide) ?_
      refine g_goto B 62 dX10_leavesFor_53 (by decide) ?_
      obtain ⟨w1, w2⟩ := inS h
      clear h
      subst w1
      subst w2
      exact g_iret B hE (Nat.zero_le _) (Nat.zero_le _) dX10_leavesFor_62
  · replace h := ifn (bI0 hc) h
    refine g_iconst (v := 0) B dX10_leavesFor_19 (by decide) ?_
    obtain ⟨w1, w2⟩ := inS h
    clear h
    subst w1
    subst w2
    exact g_iret B hE (Nat.zero_le _) (Nat.zero_le _) dX10_leavesFor_20
set_option maxRecDepth 100000 in
set_option maxHeartbeats 4000000 in
theorem cX10_copyWordsc {l : Launch} {v0 : Option Nat} {v1 : Int32} {v2 : Int32} {σ : HpT} {r : Int32} {σ' : HpT} (h : fX10_copyWords v0 v1 v2 σ = some (r, σ')) : IsK σ v0 10 ∧ Ct l yX10_copyWords cX10_copyWords 3 (some .int) 5 112 [va_rf v0, .int v1, .int v2] σ (.ok (some (.int r))) σ' 0 0 := by
  unfold fX10_copyWords at h
  replace h := bnP_s h
  obtain ⟨u, hk, h⟩ := h
  replace hk := isK_s hk
  refine ⟨hk, ?_⟩
  refine ct_start mi_X10_copyWords.1 rfl (al_le (al_1 (rf_cat _) (al_1 rfl (al_1 rfl al_n))) (Nat.le_of_ble_eq_true rfl)) (ag_1 (rf_cat _) (ag_1 rfl (ag_1 rfl ag_n))) (fun Δ Γ B hE hnm => ?_)
  refine g_aload_n B 0 dX10_copyWords_0 rfl rfl ?_
  refine g_aload_n B 0 dX10_copyWords_1 rfl rfl ?_
  replace h := bnP_s h
  obtain ⟨x1, h2, h⟩ := h
  refine g_getI B fl_RX10_48 (by decide) dX10_copyWords_2 h2 ?_
  refine g_aload_n B 0 dX10_copyWords_5 rfl rfl ?_
  refine g_iload_n B 1 dX10_copyWords_6 rfl rfl ?_
  replace h := bnP_s h
  obtain ⟨x3, h4, h⟩ := h
  refine g_callVs0 (st := [.int x1, va_rf v0]) B (cX10_isActc h4) (Nat.le_of_ble_eq_true rfl) rfl rfl mi_X10_isAct lk_RX10_399 ⟨Nat.le_of_ble_eq_true rfl, Nat.le_of_ble_eq_true rfl⟩ rfl rfl (Nat.le_of_ble_eq_true rfl) dX10_copyWords_7 (Nat.zero_le _) (Nat.zero_le _) ?_
  refine g_iload_n B 2 dX10_copyWords_10 rfl rfl ?_
  replace h := bnP_s h
  obtain ⟨x5, h6, h⟩ := h
  refine g_callSs0 (st := [.int (bI x3), .int x1, va_rf v0]) B (cX10_isGradec h6) mi_X10_isGrade lk_RX10_471 ⟨Nat.le_of_ble_eq_true rfl, Nat.le_of_ble_eq_true rfl⟩ rfl rfl (Nat.le_of_ble_eq_true rfl) dX10_copyWords_11 (Nat.zero_le _) (Nat.zero_le _) ?_
  replace h := bnS_s h
  obtain ⟨x7, s9, h8, h⟩ := h
  refine g_callVs0 (st := []) B (cX10_mayc h8) (Nat.le_of_ble_eq_true rfl) rfl rfl mi_X10_may lk_RX10_44 ⟨Nat.le_of_ble_eq_true rfl, Nat.le_of_ble_eq_true rfl⟩ rfl rfl (Nat.le_of_ble_eq_true rfl) dX10_copyWords_14 (Nat.zero_le _) (Nat.zero_le _) ?_
  refine g_if_eq B 31 dX10_copyWords_17 (by decide) (fun hc => ?_) (fun hc => ?_)
  · replace h := ifn (bI0 hc) h
    refine g_iconst (v := 0) B dX10_copyWords_31 (by decide) ?_
    obtain ⟨w1, w2⟩ := inS h
    clear h
    subst w1
    subst w2
    exact g_iret B hE (Nat.zero_le _) (Nat.zero_le _) dX10_copyWords_32
  · replace h := ifp (bI1 hc) h
    refine g_aload_n B 0 dX10_copyWords_20 rfl rfl ?_
    refine g_iload_n B 1 dX10_copyWords_21 rfl rfl ?_
    refine g_iconst (v := 1) B dX10_copyWords_22 (by decide) ?_
    refine g_isub B dX10_copyWords_23 ?_
    refine g_iload_n B 2 dX10_copyWords_24 rfl rfl ?_
    replace h := bnP_s h
    obtain ⟨x10, h11, h⟩ := h
    refine g_callVs0 (st := []) B (cX10_wordsByc h11) (Nat.le_of_ble_eq_true rfl) rfl rfl mi_X10_wordsBy lk_RX10_449 ⟨Nat.le_of_ble_eq_true rfl, Nat.le_of_ble_eq_true rfl⟩ rfl rfl (Nat.le_of_ble_eq_true rfl) dX10_copyWords_25 (Nat.zero_le _) (Nat.zero_le _) ?_
    refine g_goto B 32 dX10_copyWords_28 (by decide) ?_
    obtain ⟨w1, w2⟩ := inS h
    clear h
    subst w1
    subst w2
    exact g_iret B hE (Nat.zero_le _) (Nat.zero_le _) dX10_copyWords_32
set_option maxRecDepth 100000 in
set_option maxHeartbeats 4000000 in
theorem cX10_knownWithc {l : Launch} {v0 : Option Nat} {v1 : Int32} {v2 : Int32} {σ : HpT} {r : Int32} (h : fX10_knownWith v0 v1 v2 σ = some r) : IsK σ v0 10 ∧ Ct l yX10_knownWith cX10_knownWith 5 (some .int) 6 133 [va_rf v0, .int v1, .int v2] σ (.ok (some (.int r))) σ 0 0 := by
  unfold fX10_knownWith at h
  replace h := bnP_s h
  obtain ⟨u, hk, h⟩ := h
  replace hk := isK_s hk
  refine ⟨hk, ?_⟩
  refine ct_start mi_X10_knownWith.1 rfl (al_le (al_1 (rf_cat _) (al_1 rfl (al_1 rfl al_n))) (Nat.le_of_ble_eq_true rfl)) (ag_1 (rf_cat _) (ag_1 rfl (ag_1 rfl ag_n))) (fun Δ Γ B hE hnm => ?_)
  refine g_iconst (v := 0) B dX10_knownWith_0 (by decide) ?_
  refine g_istore_n B dX10_knownWith_1 rfl (Nat.le_of_ble_eq_true rfl) (s1_c (f1_k rfl (f1_k rfl (f1_1 rfl rfl f1_n)))) ?_
  refine g_aload_n B 1 dX10_knownWith_2 rfl rfl ?_
  refine g_iload_n B 2 dX10_knownWith_3 rfl rfl ?_
  refine g_iconst (v := 5) B dX10_knownWith_4 (by decide) ?_
  replace h := bnP_s h
  obtain ⟨x1, h2, h⟩ := h
  refine g_callVs0 (st := []) B (cX10_ofActc h2) (Nat.le_of_ble_eq_true rfl) rfl rfl mi_X10_ofAct lk_RX10_138 ⟨Nat.le_of_ble_eq_true rfl, Nat.le_of_ble_eq_true rfl⟩ rfl rfl (Nat.le_of_ble_eq_true rfl) dX10_knownWith_5 (Nat.zero_le _) (Nat.zero_le _) ?_
  refine g_istore B dX10_knownWith_8 (Nat.le_of_ble_eq_true rfl) (s1_c (f1_1 rfl rfl (f1_k rfl (f1_k rfl (f1_k rfl f1_n))))) ?_
  replace h := bnP_s h
  obtain ⟨r4, h5, h⟩ := h
  have kE6 : GW Δ Γ (0) (0) 57 [(3, .int r4)] [] σ := by
    refine g_iload_n B 0 dX10_knownWith_57 rfl rfl ?_
    replace h := Option.some.inj h
    subst h
    exact g_iret B hE (Nat.zero_le _) (Nat.zero_le _) dX10_knownWith_58
  clear h
  refine g_sub [2, 3, 4, 1, 0] rfl ?_
  refine lpP_w (I := fun q3 => GW Δ Γ (0) (0) 10 [(0, va_rf v0), (1, .int v1), (2, .int v2), (3, .int q3.1), (4, .int q3.2)] [] σ) (r := r4) ?_ FUEL (0, x1) h5
  intro q3 x10 h hI8 hR9
  unfold fX10_knownWith_l1 at h
  refine g_iload B 4 dX10_knownWith_10 rfl ?_
  refine g_aload_n B 0 dX10_knownWith_12 rfl rfl ?_
  refine g_iload_n B 1 dX10_knownWith_13 rfl rfl ?_
  replace h := bnP_s h
  obtain ⟨x12, h13, h⟩ := h
  refine g_callVs0 (st := [.int q3.2]) B (cX10_lastOfc h13) (Nat.le_of_ble_eq_true rfl) rfl rfl mi_X10_lastOf lk_RX10_327 ⟨Nat.le_of_ble_eq_true rfl, Nat.le_of_ble_eq_true rfl⟩ rfl rfl (Nat.le_of_ble_eq_true rfl) dX10_knownWith_14 (Nat.zero_le _) (Nat.zero_le _) ?_
  refine g_icmp_gt B 57 dX10_knownWith_17 (by decide) (fun hc => ?_) (fun hc => ?_)
  · replace h := ifp hc h
    replace h := Option.some.inj h
    subst h
    have e8 := hR9 _ rfl
    subst e8
    exact g_sub [3] rfl kE6
  · replace h := ifn hc h
    refine g_iload_n B 3 dX10_knownWith_20 rfl rfl ?_
    refine g_aload_n B 0 dX10_knownWith_21 rfl rfl ?_
    refine g_iload_n B 1 dX10_knownWith_22 rfl rfl ?_
    refine g_iload_n B 2 dX10_knownWith_23 rfl rfl ?_
    refine g_iload B 4 dX10_knownWith_24 rfl ?_
    replace h := bnP_s h
    obtain ⟨x14, h15, h⟩ := h
    refine g_callVs0 (st := [.int q3.1]) B (cX10_hasByc h15) (Nat.le_of_ble_eq_true rfl) rfl rfl mi_X10_hasBy lk_RX10_361 ⟨Nat.le_of_ble_eq_true rfl, Nat.le_of_ble_eq_true rfl⟩ rfl rfl (Nat.le_of_ble_eq_true rfl) dX10_knownWith_26 (Nat.zero_le _) (Nat.zero_le _) ?_
    replace h := bnP_s h
    obtain ⟨j16, h17, h⟩ := h
    have k19 : GW Δ Γ (0) (0) 46 [(0, va_rf v0), (1, .int v1), (2, .int v2), (4, .int q3.2)] [.int j16.2, .int j16.1] σ := by
      replace h := bnP_s h
      obtain ⟨x23, h24, h⟩ := h
      refine g_callSs0 (st := [.int j16.1]) B (cX10_onec h24) mi_X10_one lk_RX10_333 ⟨Nat.le_of_ble_eq_true rfl, Nat.le_of_ble_eq_true rfl⟩ rfl rfl (Nat.le_of_ble_eq_true rfl) dX10_knownWith_46 (Nat.zero_le _) (Nat.zero_le _) ?_
      refine g_iadd B dX10_knownWith_49 ?_
      refine g_istore_n B dX10_knownWith_50 rfl (Nat.le_of_ble_eq_true rfl) (s1_c (f1_k rfl (f1_k rfl (f1_1 rfl rfl (f1_k rfl f1_n))))) ?_
      refine g_iinc (v := (q3.2 + 1)) B 4 dX10_knownWith_51 rfl (by first | rfl | (congr 1; decide)) (Nat.le_of_ble_eq_true rfl) (s1_c (f1_1 rfl rfl (f1_k rfl (f1_k rfl (f1_k rfl (f1_x f1_n)))))) ?_
      refine g_goto B 10 dX10_knownWith_54 (by decide) ?_
      replace h := Option.some.inj h
      subst h
      exact g_sub [2, 3, 4, 1, 0] rfl (hI8 _ rfl)
    clear h
    have h := h17
    clear h17
    refine g_if_ne B 41 dX10_knownWith_29 (by decide) (fun hc => ?_) (fun hc => ?_)
    · replace h := ifp (bI1 hc) h
      refine g_iconst (v := 1) B dX10_knownWith_41 (by decide) ?_
      refine g_goto B 46 dX10_knownWith_42 (by decide) ?_
      replace h := Option.some.inj h
      subst h
      exact g_sub [0, 1, 2, 4] rfl k19
    · replace h := ifn (bI0 hc) h
      refine g_aload_n B 0 dX10_knownWith_32 rfl rfl ?_
      refine g_iload B 4 dX10_knownWith_33 rfl ?_
      replace h := bnP_s h
      obtain ⟨x21, h22, h⟩ := h
      refine g_callVs0 (st := [.int q3.1]) B (cX10_copiesWithc h22) (Nat.le_of_ble_eq_true rfl) rfl rfl mi_X10_copiesWith lk_RX10_371 ⟨Nat.le_of_ble_eq_true rfl, Nat.le_of_ble_eq_true rfl⟩ rfl rfl (Nat.le_of_ble_eq_true rfl) dX10_knownWith_35 (Nat.zero_le _) (Nat.zero_le _) ?_
      refine g_if_le B 45 dX10_knownWith_38 (by decide) (fun hc => ?_) (fun hc => ?_)
      · replace h := ifp hc h
        refine g_iconst (v := 0) B dX10_knownWith_45 (by decide) ?_
        replace h := Option.some.inj h
        subst h
        exact g_sub [0, 1, 2, 4] rfl k19
      · replace h := ifn hc h
        refine g_iconst (v := 1) B dX10_knownWith_41 (by decide) ?_
        refine g_goto B 46 dX10_knownWith_42 (by decide) ?_
        replace h := Option.some.inj h
        subst h
        exact g_sub [0, 1, 2, 4] rfl k19
set_option maxRecDepth 100000 in
set_option maxHeartbeats 4000000 in
theorem cX10_bestCopyc {l : Launch} {v0 : Option Nat} {v1 : Int32} {σ : HpT} {r : Int32} {σ' : HpT} (h : fX10_bestCopy v0 v1 σ = some (r, σ')) : IsK σ v0 10 ∧ Ct l yX10_bestCopy cX10_bestCopy 5 (some .int) 8 177 [va_rf v0, .int v1] σ (.ok (some (.int r))) σ' 0 0 := by
  unfold fX10_bestCopy at h
  replace h := bnP_s h
  obtain ⟨u, hk, h⟩ := h
  replace hk := isK_s hk
  refine ⟨hk, ?_⟩
  refine ct_start mi_X10_bestCopy.1 rfl (al_le (al_1 (rf_cat _) (al_1 rfl al_n)) (Nat.le_of_ble_eq_true rfl)) (ag_1 (rf_cat _) (ag_1 rfl ag_n)) (fun Δ Γ B hE hnm => ?_)
  refine g_aload_n B 0 dX10_bestCopy_0 rfl rfl ?_
  refine g_iload_n B 1 dX10_bestCopy_1 rfl rfl ?_
  replace h := bnS_s h
  obtain ⟨x1, s3, h2, h⟩ := h
  refine g_callVs0 (st := []) B (cX10_mayActc h2) (Nat.le_of_ble_eq_true rfl) rfl rfl mi_X10_mayAct lk_RX10_455 ⟨Nat.le_of_ble_eq_true rfl, Nat.le_of_ble_eq_true rfl⟩ rfl rfl (Nat.le_of_ble_eq_true rfl) dX10_bestCopy_2 (Nat.zero_le _) (Nat.zero_le _) ?_
  refine g_if_ne B 10 dX10_bestCopy_5 (by decide) (fun hc => ?_) (fun hc => ?_)
  · replace h := ifp (bI1 hc) h
    refine g_iconst (v := (-1)) B dX10_bestCopy_10 (by decide) ?_
    refine g_istore_n B dX10_bestCopy_11 rfl (Nat.le_of_ble_eq_true rfl) (s1_c (f1_k rfl (f1_1 rfl rfl f1_n))) ?_
    refine g_iconst (v := (-1)) B dX10_bestCopy_12 (by decide) ?_
    refine g_istore_n B dX10_bestCopy_13 rfl (Nat.le_of_ble_eq_true rfl) (s1_c (f1_1 rfl rfl (f1_k rfl (f1_k rfl f1_n)))) ?_
    refine g_iconst (v := 2) B dX10_bestCopy_14 (by decide) ?_
    refine g_istore B dX10_bestCopy_15 (Nat.le_of_ble_eq_true rfl) (s1_c (f1_1 rfl rfl (f1_k rfl (f1_k rfl (f1_k rfl f1_n))))) ?_
    replace h := bnP_s h
    obtain ⟨r5, h6, h⟩ := h
    have kE7 : GW Δ Γ (0) (0) 69 [(2, .int r5)] [] s3 := by
      refine g_iload_n B 0 dX10_bestCopy_69 rfl rfl ?_
      obtain ⟨w1, w2⟩ := inS h
      clear h
      subst w1
      subst w2
      exact g_iret B hE (Nat.zero_le _) (Nat.zero_le _) dX10_bestCopy_70
    clear h
    refine g_sub [3, 4, 2, 1, 0] rfl ?_
    refine lpP_w (I := fun q4 => GW Δ Γ (0) (0) 17 [(0, va_rf v0), (1, .int v1), (2, .int q4.1), (3, .int q4.2.1), (4, .int q4.2.2)] [] s3) (r := r5) ?_ FUEL ((-1), (-1), 2) h6
    intro q4 x11 h hI9 hR10
    unfold fX10_bestCopy_l1 at h
    obtain ⟨qv13, qv14, qv15⟩ := q4
    show GW Δ Γ (0) (0) 17 [(0, va_rf v0), (1, .int v1), (2, .int qv13), (3, .int qv14), (4, .int qv15)] [] s3
    dsimp only at h
    refine g_iload B 4 dX10_bestCopy_17 rfl ?_
    refine g_if_lt B 69 dX10_bestCopy_19 (by decide) (fun hc => ?_) (fun hc => ?_)
    · replace h := ifp hc h
      replace h := Option.some.inj h
      subst h
      have e8 := hR10 _ rfl
      subst e8
      exact g_sub [2] rfl kE7
    · replace h := ifn hc h
      refine g_aload_n B 0 dX10_bestCopy_22 rfl rfl ?_
      refine g_iload_n B 1 dX10_bestCopy_23 rfl rfl ?_
      refine g_iconst (v := 1) B dX10_bestCopy_24 (by decide) ?_
      refine g_isub B dX10_bestCopy_25 ?_
      refine g_iload B 4 dX10_bestCopy_26 rfl ?_
      replace h := bnP_s h
      obtain ⟨x16, h17, h⟩ := h
      refine g_callVs0 (st := []) B (cX10_whyCopyc h17) (Nat.le_of_ble_eq_true rfl) rfl rfl mi_X10_whyCopy lk_RX10_224 ⟨Nat.le_of_ble_eq_true rfl, Nat.le_of_ble_eq_true rfl⟩ rfl rfl (Nat.le_of_ble_eq_true rfl) dX10_bestCopy_28 (Nat.zero_le _) (Nat.zero_le _) ?_
      refine g_if_ne B 63 dX10_bestCopy_31 (by decide) (fun hc => ?_) (fun hc => ?_)
      · replace h := ifn hc h
        refine g_iinc (v := (qv15 + (-1))) B 4 dX10_bestCopy_63 rfl (by first | rfl | (congr 1; decide)) (Nat.le_of_ble_eq_true rfl) (s1_c (f1_k rfl (f1_k rfl (f1_k rfl (f1_1 rfl rfl (f1_x f1_n)))))) ?_
        refine g_goto B 17 dX10_bestCopy_66 (by decide) ?_
        replace h := Option.some.inj h
        subst h
        exact g_sub [1, 2, 3, 4, 0] rfl (hI9 (qv13, qv14, (qv15 + (-1))) rfl)
      · replace h := ifp hc h
        refine g_aload_n B 0 dX10_bestCopy_34 rfl rfl ?_
        refine g_iload_n B 1 dX10_bestCopy_35 rfl rfl ?_
        refine g_iconst (v := 1) B dX10_bestCopy_36 (by decide) ?_
        refine g_isub B dX10_bestCopy_37 ?_
        refine g_iload B 4 dX10_bestCopy_38 rfl ?_
        replace h := bnP_s h
        obtain ⟨x18, h19, h⟩ := h
        refine g_callVs0 (st := []) B (cX10_knownWithc h19) (Nat.le_of_ble_eq_true rfl) rfl rfl mi_X10_knownWith lk_RX10_480 ⟨Nat.le_of_ble_eq_true rfl, Nat.le_of_ble_eq_true rfl⟩ rfl rfl (Nat.le_of_ble_eq_true rfl) dX10_bestCopy_40 (Nat.zero_le _) (Nat.zero_le _) ?_
        refine g_iload_n B 3 dX10_bestCopy_43 rfl rfl ?_
        refine g_icmp_gt B 50 dX10_bestCopy_44 (by decide) (fun hc => ?_) (fun hc => ?_)
        · replace h := ifp hc h
          refine g_aload_n B 0 dX10_bestCopy_50 rfl rfl ?_
          refine g_iload_n B 1 dX10_bestCopy_51 rfl rfl ?_
          refine g_iconst (v := 1) B dX10_bestCopy_52 (by decide) ?_
          refine g_isub B dX10_bestCopy_53 ?_
          refine g_iload B 4 dX10_bestCopy_54 rfl ?_
          replace h := bnP_s h
          obtain ⟨x20, h21, h⟩ := h
          refine g_callVs0 (st := []) B (cX10_knownWithc h21) (Nat.le_of_ble_eq_true rfl) rfl rfl mi_X10_knownWith lk_RX10_480 ⟨Nat.le_of_ble_eq_true rfl, Nat.le_of_ble_eq_true rfl⟩ rfl rfl (Nat.le_of_ble_eq_true rfl) dX10_bestCopy_56 (Nat.zero_le _) (Nat.zero_le _) ?_
          refine g_istore_n B dX10_bestCopy_59 rfl (Nat.le_of_ble_eq_true rfl) (s1_c (f1_k rfl (f1_k rfl (f1_1 rfl rfl (f1_x (f1_k rfl f1_n)))))) ?_
          refine g_iload B 4 dX10_bestCopy_60 rfl ?_
          refine g_istore_n B dX10_bestCopy_62 rfl (Nat.le_of_ble_eq_true rfl) (s1_c (f1_k rfl (f1_k rfl (f1_1 rfl rfl (f1_x (f1_k rfl f1_n)))))) ?_
          refine g_iinc (v := (qv15 + (-1))) B 4 dX10_bestCopy_63 rfl (by first | rfl | (congr 1; decide)) (Nat.le_of_ble_eq_true rfl) (s1_c (f1_k rfl (f1_1 rfl rfl (f1_k rfl (f1_k rfl (f1_x f1_n)))))) ?_
          refine g_goto B 17 dX10_bestCopy_66 (by decide) ?_
          replace h := Option.some.inj h
          subst h
          exact g_sub [3, 4, 1, 2, 0] rfl (hI9 (qv15, x20, (qv15 + (-1))) rfl)
        · replace h := ifn hc h
          refine g_goto B 63 dX10_bestCopy_47 (by decide) ?_
          refine g_iinc (v := (qv15 + (-1))) B 4 dX10_bestCopy_63 rfl (by first | rfl | (congr 1; decide)) (Nat.le_of_ble_eq_true rfl) (s1_c (f1_k rfl (f1_k rfl (f1_k rfl (f1_1 rfl rfl (f1_x f1_n)))))) ?_
          refine g_goto B 17 dX10_bestCopy_66 (by decide) ?_
          replace h := Option.some.inj h
          subst h
          exact g_sub [1, 2, 3, 4, 0] rfl (hI9 (qv13, qv14, (qv15 + (-1))) rfl)
  · replace h := ifn (bI0 hc) h
    refine g_iconst (v := 0) B dX10_bestCopy_8 (by decide) ?_
    obtain ⟨w1, w2⟩ := inS h
    clear h
    subst w1
    subst w2
    exact g_iret B hE (Nat.zero_le _) (Nat.zero_le _) dX10_bestCopy_9
set_option maxRecDepth 100000 in
set_option maxHeartbeats 4000000 in
theorem cX10_standingWithoutc {l : Launch} {v0 : Option Nat} {v1 : Int32} {v2 : Int32} {σ : HpT} {r : Int32} (h : fX10_standingWithout v0 v1 v2 σ = some r) : IsK σ v0 10 ∧ Ct l yX10_standingWithout cX10_standingWithout 5 (some .int) 3 67 [va_rf v0, .int v1, .int v2] σ (.ok (some (.int r))) σ 0 0 := by
  unfold fX10_standingWithout at h
  replace h := bnP_s h
  obtain ⟨u, hk, h⟩ := h
  replace hk := isK_s hk
  refine ⟨hk, ?_⟩
  refine ct_start mi_X10_standingWithout.1 rfl (al_le (al_1 (rf_cat _) (al_1 rfl (al_1 rfl al_n))) (Nat.le_of_ble_eq_true rfl)) (ag_1 (rf_cat _) (ag_1 rfl (ag_1 rfl ag_n))) (fun Δ Γ B hE hnm => ?_)
  refine g_aload_n B 0 dX10_standingWithout_0 rfl rfl ?_
  refine g_iload_n B 1 dX10_standingWithout_1 rfl rfl ?_
  replace h := bnP_s h
  obtain ⟨x1, h2, h⟩ := h
  refine g_callVs0 (st := []) B (cX10_openWordc h2) (Nat.le_of_ble_eq_true rfl) rfl rfl mi_X10_openWord lk_RX10_200 ⟨Nat.le_of_ble_eq_true rfl, Nat.le_of_ble_eq_true rfl⟩ rfl rfl (Nat.le_of_ble_eq_true rfl) dX10_standingWithout_2 (Nat.zero_le _) (Nat.zero_le _) ?_
  refine g_istore_n B dX10_standingWithout_5 rfl (Nat.le_of_ble_eq_true rfl) (s1_c (f1_k rfl (f1_k rfl (f1_1 rfl rfl f1_n)))) ?_
  refine g_aload_n B 1 dX10_standingWithout_6 rfl rfl ?_
  refine g_aload_n B 1 dX10_standingWithout_7 rfl rfl ?_
  replace h := bnP_s h
  obtain ⟨x3, h4, h⟩ := h
  refine g_callVs0 (st := [va_rf v0]) B (cX10_openActc h4) (Nat.le_of_ble_eq_true rfl) rfl rfl mi_X10_openAct lk_RX10_179 ⟨Nat.le_of_ble_eq_true rfl, Nat.le_of_ble_eq_true rfl⟩ rfl rfl (Nat.le_of_ble_eq_true rfl) dX10_standingWithout_8 (Nat.zero_le _) (Nat.zero_le _) ?_
  replace h := bnP_s h
  obtain ⟨x5, h6, h⟩ := h
  refine g_callVs0 (st := []) B (cX10_standingc h6) (Nat.le_of_ble_eq_true rfl) rfl rfl mi_X10_standing lk_RX10_343 ⟨Nat.le_of_ble_eq_true rfl, Nat.le_of_ble_eq_true rfl⟩ rfl rfl (Nat.le_of_ble_eq_true rfl) dX10_standingWithout_11 (Nat.zero_le _) (Nat.zero_le _) ?_
  refine g_istore B dX10_standingWithout_14 (Nat.le_of_ble_eq_true rfl) (s1_c (f1_1 rfl rfl (f1_k rfl (f1_k rfl (f1_k rfl f1_n))))) ?_
  refine g_iload_n B 4 dX10_standingWithout_16 rfl rfl ?_
  refine g_if_ne B 32 dX10_standingWithout_17 (by decide) (fun hc => ?_) (fun hc => ?_)
  · replace h := ifn hc h
    refine g_iload B 0 dX10_standingWithout_32 rfl ?_
    refine g_aload_n B 2 dX10_standingWithout_34 rfl rfl ?_
    refine g_aload_n B 2 dX10_standingWithout_35 rfl rfl ?_
    refine g_aload_n B 2 dX10_standingWithout_36 rfl rfl ?_
    refine g_iload_n B 1 dX10_standingWithout_37 rfl rfl ?_
    replace h := bnP_s h
    obtain ⟨x7, h8, h⟩ := h
    refine g_callVs0 (st := [va_rf v0, va_rf v0, .int x5]) B (cX10_clauseOfc h8) (Nat.le_of_ble_eq_true rfl) rfl rfl mi_X10_clauseOf lk_RX10_203 ⟨Nat.le_of_ble_eq_true rfl, Nat.le_of_ble_eq_true rfl⟩ rfl rfl (Nat.le_of_ble_eq_true rfl) dX10_standingWithout_38 (Nat.zero_le _) (Nat.zero_le _) ?_
    refine g_iconst (v := 0) B dX10_standingWithout_41 (by decide) ?_
    replace h := bnP_s h
    obtain ⟨x9, h10, h⟩ := h
    refine g_callVs0 (st := [va_rf v0, .int x5]) B (cX10_ofClausec h10) (Nat.le_of_ble_eq_true rfl) rfl rfl mi_X10_ofClause lk_RX10_145 ⟨Nat.le_of_ble_eq_true rfl, Nat.le_of_ble_eq_true rfl⟩ rfl rfl (Nat.le_of_ble_eq_true rfl) dX10_standingWithout_42 (Nat.zero_le _) (Nat.zero_le _) ?_
    refine g_aload_n B 2 dX10_standingWithout_45 rfl rfl ?_
    refine g_aload_n B 2 dX10_standingWithout_46 rfl rfl ?_
    refine g_iload_n B 1 dX10_standingWithout_47 rfl rfl ?_
    replace h := bnP_s h
    obtain ⟨x11, h12, h⟩ := h
    refine g_callVs0 (st := [va_rf v0, .int x9, va_rf v0, .int x5]) B (cX10_clauseOfc h12) (Nat.le_of_ble_eq_true rfl) rfl rfl mi_X10_clauseOf lk_RX10_203 ⟨Nat.le_of_ble_eq_true rfl, Nat.le_of_ble_eq_true rfl⟩ rfl rfl (Nat.le_of_ble_eq_true rfl) dX10_standingWithout_48 (Nat.zero_le _) (Nat.zero_le _) ?_
    refine g_iconst (v := 1) B dX10_standingWithout_51 (by decide) ?_
    replace h := bnP_s h
    obtain ⟨x13, h14, h⟩ := h
    refine g_callVs0 (st := [.int x9, va_rf v0, .int x5]) B (cX10_ofClausec h14) (Nat.le_of_ble_eq_true rfl) rfl rfl mi_X10_ofClause lk_RX10_145 ⟨Nat.le_of_ble_eq_true rfl, Nat.le_of_ble_eq_true rfl⟩ rfl rfl (Nat.le_of_ble_eq_true rfl) dX10_standingWithout_52 (Nat.zero_le _) (Nat.zero_le _) ?_
    replace h := bnP_s h
    obtain ⟨x15, h16, h⟩ := h
    refine g_callVs0 (st := [.int x5]) B (cX10_standingWrittenc h16) (Nat.le_of_ble_eq_true rfl) rfl rfl mi_X10_standingWritten lk_RX10_434 ⟨Nat.le_of_ble_eq_true rfl, Nat.le_of_ble_eq_true rfl⟩ rfl rfl (Nat.le_of_ble_eq_true rfl) dX10_standingWithout_55 (Nat.zero_le _) (Nat.zero_le _) ?_
    refine g_isub B dX10_standingWithout_58 ?_
    replace h := Option.some.inj h
    subst h
    exact g_iret B hE (Nat.zero_le _) (Nat.zero_le _) dX10_standingWithout_59
  · replace h := ifp hc h
    refine g_iload B 0 dX10_standingWithout_20 rfl ?_
    refine g_aload_n B 2 dX10_standingWithout_22 rfl rfl ?_
    refine g_iload_n B 1 dX10_standingWithout_23 rfl rfl ?_
    replace h := bnP_s h
    obtain ⟨x17, h18, h⟩ := h
    refine g_callVs0 (st := [.int x5]) B (cX10_standsc h18) (Nat.le_of_ble_eq_true rfl) rfl rfl mi_X10_stands lk_RX10_330 ⟨Nat.le_of_ble_eq_true rfl, Nat.le_of_ble_eq_true rfl⟩ rfl rfl (Nat.le_of_ble_eq_true rfl) dX10_standingWithout_24 (Nat.zero_le _) (Nat.zero_le _) ?_
    replace h := bnP_s h
    obtain ⟨x19, h20, h⟩ := h
    refine g_callSs0 (st := [.int x5]) B (cX10_onec h20) mi_X10_one lk_RX10_333 ⟨Nat.le_of_ble_eq_true rfl, Nat.le_of_ble_eq_true rfl⟩ rfl rfl (Nat.le_of_ble_eq_true rfl) dX10_standingWithout_27 (Nat.zero_le _) (Nat.zero_le _) ?_
    refine g_isub B dX10_standingWithout_30 ?_
    replace h := Option.some.inj h
    subst h
    exact g_iret B hE (Nat.zero_le _) (Nat.zero_le _) dX10_standingWithout_31
set_option maxRecDepth 100000 in
set_option maxHeartbeats 4000000 in
theorem cX10_isAskedc {l : Launch} {v0 : Option Nat} {v1 : Int32} {v2 : Int32} {σ : HpT} {r : Bool} (h : fX10_isAsked v0 v1 v2 σ = some r) : IsK σ v0 10 ∧ Ct l yX10_isAsked cX10_isAsked 3 (some .boolean) 4 85 [va_rf v0, .int v1, .int v2] σ (.ok (some (.int (bI r)))) σ 0 0 := by
  unfold fX10_isAsked at h
  replace h := bnP_s h
  obtain ⟨u, hk, h⟩ := h
  replace hk := isK_s hk
  refine ⟨hk, ?_⟩
  refine ct_start mi_X10_isAsked.1 rfl (al_le (al_1 (rf_cat _) (al_1 rfl (al_1 rfl al_n))) (Nat.le_of_ble_eq_true rfl)) (ag_1 (rf_cat _) (ag_1 rfl (ag_1 rfl ag_n))) (fun Δ Γ B hE hnm => ?_)
  refine g_aload_n B 0 dX10_isAsked_0 rfl rfl ?_
  refine g_iload_n B 1 dX10_isAsked_1 rfl rfl ?_
  replace h := bnP_s h
  obtain ⟨x1, h2, h⟩ := h
  refine g_callVs0 (st := []) B (cX10_whyStrikec h2) (Nat.le_of_ble_eq_true rfl) rfl rfl mi_X10_whyStrike lk_RX10_194 ⟨Nat.le_of_ble_eq_true rfl, Nat.le_of_ble_eq_true rfl⟩ rfl rfl (Nat.le_of_ble_eq_true rfl) dX10_isAsked_2 (Nat.zero_le _) (Nat.zero_le _) ?_
  refine g_iconst (v := 3) B dX10_isAsked_5 (by decide) ?_
  refine g_irem B dX10_isAsked_6 (by decide) ?_
  refine g_iconst (v := 0) B dX10_isAsked_7 (by decide) ?_
  refine g_iconst (v := 0) B dX10_isAsked_8 (by decide) ?_
  replace h := bnP_s h
  obtain ⟨x3, h4, h⟩ := h
  refine g_callSs0 (st := []) B (cX10_inc h4) mi_X10_in lk_RX10_69 ⟨Nat.le_of_ble_eq_true rfl, Nat.le_of_ble_eq_true rfl⟩ rfl rfl (Nat.le_of_ble_eq_true rfl) dX10_isAsked_9 (Nat.zero_le _) (Nat.zero_le _) ?_
  refine g_if_eq B 36 dX10_isAsked_12 (by decide) (fun hc => ?_) (fun hc => ?_)
  · replace h := ifn (bI0 hc) h
    refine g_iconst (v := 0) B dX10_isAsked_36 (by decide) ?_
    replace h := Option.some.inj h
    subst h
    exact g_zret B hE rfl (Nat.zero_le _) (Nat.zero_le _) dX10_isAsked_37
  · replace h := ifp (bI1 hc) h
    refine g_iload_n B 2 dX10_isAsked_15 rfl rfl ?_
    refine g_if_eq B 32 dX10_isAsked_16 (by decide) (fun hc => ?_) (fun hc => ?_)
    · replace h := ifp hc h
      refine g_iconst (v := 1) B dX10_isAsked_32 (by decide) ?_
      refine g_goto B 37 dX10_isAsked_33 (by decide) ?_
      replace h := Option.some.inj h
      subst h
      exact g_zret B hE rfl (Nat.zero_le _) (Nat.zero_le _) dX10_isAsked_37
    · replace h := ifn hc h
      refine g_aload_n B 0 dX10_isAsked_19 rfl rfl ?_
      refine g_aload_n B 0 dX10_isAsked_20 rfl rfl ?_
      refine g_iload_n B 1 dX10_isAsked_21 rfl rfl ?_
      replace h := bnP_s h
      obtain ⟨x5, h6, h⟩ := h
      refine g_callVs0 (st := [va_rf v0]) B (cX10_openWordc h6) (Nat.le_of_ble_eq_true rfl) rfl rfl mi_X10_openWord lk_RX10_200 ⟨Nat.le_of_ble_eq_true rfl, Nat.le_of_ble_eq_true rfl⟩ rfl rfl (Nat.le_of_ble_eq_true rfl) dX10_isAsked_22 (Nat.zero_le _) (Nat.zero_le _) ?_
      replace h := bnP_s h
      obtain ⟨x7, h8, h⟩ := h
      refine g_callVs0 (st := []) B (cX10_clauseOfc h8) (Nat.le_of_ble_eq_true rfl) rfl rfl mi_X10_clauseOf lk_RX10_203 ⟨Nat.le_of_ble_eq_true rfl, Nat.le_of_ble_eq_true rfl⟩ rfl rfl (Nat.le_of_ble_eq_true rfl) dX10_isAsked_25 (Nat.zero_le _) (Nat.zero_le _) ?_
      refine g_iconst (v := (-1)) B dX10_isAsked_28 (by decide) ?_
      refine g_icmp_eq B 36 dX10_isAsked_29 (by decide) (fun hc => ?_) (fun hc => ?_)
      · replace h := ifp hc h
        refine g_iconst (v := 0) B dX10_isAsked_36 (by decide) ?_
        replace h := Option.some.inj h
        subst h
        exact g_zret B hE rfl (Nat.zero_le _) (Nat.zero_le _) dX10_isAsked_37
      · replace h := ifn hc h
        refine g_iconst (v := 1) B dX10_isAsked_32 (by decide) ?_
        refine g_goto B 37 dX10_isAsked_33 (by decide) ?_
        replace h := Option.some.inj h
        subst h
        exact g_zret B hE rfl (Nat.zero_le _) (Nat.zero_le _) dX10_isAsked_37
set_option maxRecDepth 100000 in
set_option maxHeartbeats 4000000 in
theorem cX10_standingIfc {l : Launch} {v0 : Option Nat} {v1 : Int32} {v2 : Int32} {σ : HpT} {r : Int32} {σ' : HpT} (h : fX10_standingIf v0 v1 v2 σ = some (r, σ')) : IsK σ v0 10 ∧ Ct l yX10_standingIf cX10_standingIf 3 (some .int) 5 107 [va_rf v0, .int v1, .int v2] σ (.ok (some (.int r))) σ' 0 0 := by
  unfold fX10_standingIf at h
  replace h := bnP_s h
  obtain ⟨u, hk, h⟩ := h
  replace hk := isK_s hk
  refine ⟨hk, ?_⟩
  refine ct_start mi_X10_standingIf.1 rfl (al_le (al_1 (rf_cat _) (al_1 rfl (al_1 rfl al_n))) (Nat.le_of_ble_eq_true rfl)) (ag_1 (rf_cat _) (ag_1 rfl (ag_1 rfl ag_n))) (fun Δ Γ B hE hnm => ?_)
  refine g_aload_n B 0 dX10_standingIf_0 rfl rfl ?_
  refine g_aload_n B 0 dX10_standingIf_1 rfl rfl ?_
  replace h := bnP_s h
  obtain ⟨x1, h2, h⟩ := h
  refine g_getI B fl_RX10_48 (by decide) dX10_standingIf_2 h2 ?_
  refine g_aload_n B 0 dX10_standingIf_5 rfl rfl ?_
  replace h := bnP_s h
  obtain ⟨x3, h4, h⟩ := h
  refine g_getI B fl_RX10_48 (by decide) dX10_standingIf_6 h4 ?_
  replace h := bnP_s h
  obtain ⟨j5, h6, h⟩ := h
  have k8 : GW Δ Γ (0) (0) 26 [(0, va_rf v0), (1, .int v1), (2, .int v2)] [.int j5.2.2, .int j5.2.1, va_rf j5.1] σ := by
    replace h := bnS_s h
    obtain ⟨x12, s14, h13, h⟩ := h
    refine g_callVs0 (st := []) B (cX10_mayTwoc h13) (Nat.le_of_ble_eq_true rfl) rfl rfl mi_X10_mayTwo lk_RX10_380 ⟨Nat.le_of_ble_eq_true rfl, Nat.le_of_ble_eq_true rfl⟩ rfl rfl (Nat.le_of_ble_eq_true rfl) dX10_standingIf_26 (Nat.zero_le _) (Nat.zero_le _) ?_
    refine g_if_eq B 41 dX10_standingIf_29 (by decide) (fun hc => ?_) (fun hc => ?_)
    · replace h := ifn (bI0 hc) h
      refine g_iconst (v := 0) B dX10_standingIf_41 (by decide) ?_
      obtain ⟨w1, w2⟩ := inS h
      clear h
      subst w1
      subst w2
      exact g_iret B hE (Nat.zero_le _) (Nat.zero_le _) dX10_standingIf_42
    · replace h := ifp (bI1 hc) h
      refine g_aload_n B 0 dX10_standingIf_32 rfl rfl ?_
      refine g_iload_n B 1 dX10_standingIf_33 rfl rfl ?_
      refine g_iload_n B 2 dX10_standingIf_34 rfl rfl ?_
      replace h := bnP_s h
      obtain ⟨x15, h16, h⟩ := h
      refine g_callVs0 (st := []) B (cX10_standingWithoutc h16) (Nat.le_of_ble_eq_true rfl) rfl rfl mi_X10_standingWithout lk_RX10_487 ⟨Nat.le_of_ble_eq_true rfl, Nat.le_of_ble_eq_true rfl⟩ rfl rfl (Nat.le_of_ble_eq_true rfl) dX10_standingIf_35 (Nat.zero_le _) (Nat.zero_le _) ?_
      refine g_goto B 42 dX10_standingIf_38 (by decide) ?_
      obtain ⟨w1, w2⟩ := inS h
      clear h
      subst w1
      subst w2
      exact g_iret B hE (Nat.zero_le _) (Nat.zero_le _) dX10_standingIf_42
  clear h
  have h := h6
  clear h6
  refine g_if_eq B 25 dX10_standingIf_9 (by decide) (fun hc => ?_) (fun hc => ?_)
  · replace h := ifp hc h
    refine g_iconst (v := 0) B dX10_standingIf_25 (by decide) ?_
    replace h := Option.some.inj h
    subst h
    exact g_sub [0, 1, 2] rfl k8
  · replace h := ifn hc h
    refine g_aload_n B 0 dX10_standingIf_12 rfl rfl ?_
    refine g_iload_n B 1 dX10_standingIf_13 rfl rfl ?_
    refine g_iload_n B 2 dX10_standingIf_14 rfl rfl ?_
    replace h := bnP_s h
    obtain ⟨x10, h11, h⟩ := h
    refine g_callVs0 (st := [.int x1, va_rf v0]) B (cX10_isAskedc h11) (Nat.le_of_ble_eq_true rfl) rfl rfl mi_X10_isAsked lk_RX10_483 ⟨Nat.le_of_ble_eq_true rfl, Nat.le_of_ble_eq_true rfl⟩ rfl rfl (Nat.le_of_ble_eq_true rfl) dX10_standingIf_15 (Nat.zero_le _) (Nat.zero_le _) ?_
    refine g_if_eq B 25 dX10_standingIf_18 (by decide) (fun hc => ?_) (fun hc => ?_)
    · replace h := ifn (bI0 hc) h
      refine g_iconst (v := 0) B dX10_standingIf_25 (by decide) ?_
      replace h := Option.some.inj h
      subst h
      exact g_sub [0, 1, 2] rfl k8
    · replace h := ifp (bI1 hc) h
      refine g_iconst (v := 1) B dX10_standingIf_21 (by decide) ?_
      refine g_goto B 26 dX10_standingIf_22 (by decide) ?_
      replace h := Option.some.inj h
      subst h
      exact g_sub [0, 1, 2] rfl k8
