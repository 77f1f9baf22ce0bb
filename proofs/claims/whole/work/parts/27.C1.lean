theorem mi_X1_actsOn : MI yX1_actsOn cX1_actsOn 4 (some .int) 1 := ⟨by decide +kernel, (mw (i := 1238) (by decide +kernel) rfl), (mw (i := 163) (by decide +kernel) rfl), by decide +kernel, by decide +kernel⟩
theorem mi_X1_burnCopy : MI yX1_burnCopy cX1_burnCopy 3 none 1 := ⟨by decide +kernel, (mw (i := 1929) (by decide +kernel) rfl), (mw (i := 163) (by decide +kernel) rfl), by decide +kernel, by decide +kernel⟩
theorem mi_X1_copiedWith : MI yX1_copiedWith cX1_copiedWith 5 (some .int) 2 := ⟨by decide +kernel, (mw (i := 1402) (by decide +kernel) rfl), (mw (i := 163) (by decide +kernel) rfl), by decide +kernel, by decide +kernel⟩
theorem mi_X1_copiesOf : MI yX1_copiesOf cX1_copiesOf 4 (some .int) 1 := ⟨by decide +kernel, (mw (i := 1167) (by decide +kernel) rfl), (mw (i := 163) (by decide +kernel) rfl), by decide +kernel, by decide +kernel⟩
theorem mi_X1_copiesWith : MI yX1_copiesWith cX1_copiesWith 4 (some .int) 1 := ⟨by decide +kernel, (mw (i := 1028) (by decide +kernel) rfl), (mw (i := 163) (by decide +kernel) rfl), by decide +kernel, by decide +kernel⟩
theorem mi_X1_copyReason : MI yX1_copyReason cX1_copyReason 4 (some .int) 2 := ⟨by decide +kernel, (mw (i := 1007) (by decide +kernel) rfl), (mw (i := 163) (by decide +kernel) rfl), by decide +kernel, by decide +kernel⟩
theorem mi_X1_firstActOn : MI yX1_firstActOn cX1_firstActOn 3 (some .int) 1 := ⟨by decide +kernel, (mw (i := 1248) (by decide +kernel) rfl), (mw (i := 163) (by decide +kernel) rfl), by decide +kernel, by decide +kernel⟩
theorem mi_X1_isKnown : MI yX1_isKnown cX1_isKnown 2 (some .boolean) 1 := ⟨by decide +kernel, (mw (i := 1020) (by decide +kernel) rfl), (mw (i := 163) (by decide +kernel) rfl), by decide +kernel, by decide +kernel⟩
theorem mi_X1_isOn : MI yX1_isOn cX1_isOn 3 (some .boolean) 2 := ⟨by decide +kernel, (mw (i := 1242) (by decide +kernel) rfl), (mw (i := 163) (by decide +kernel) rfl), by decide +kernel, by decide +kernel⟩
theorem mi_X1_knownByAlone : MI yX1_knownByAlone cX1_knownByAlone 4 (some .int) 1 := ⟨by decide +kernel, (mw (i := 1265) (by decide +kernel) rfl), (mw (i := 163) (by decide +kernel) rfl), by decide +kernel, by decide +kernel⟩
theorem mi_X1_leafOf : MI yX1_leafOf cX1_leafOf 2 (some .int) 1 := ⟨by decide +kernel, (mw (i := 1024) (by decide +kernel) rfl), (mw (i := 163) (by decide +kernel) rfl), by decide +kernel, by decide +kernel⟩
theorem mi_X1_leavesOf : MI yX1_leavesOf cX1_leavesOf 2 (some .int) 1 := ⟨by decide +kernel, (mw (i := 877) (by decide +kernel) rfl), (mw (i := 163) (by decide +kernel) rfl), by decide +kernel, by decide +kernel⟩
theorem mi_X1_makeCopy : MI yX1_makeCopy cX1_makeCopy 3 none 2 := ⟨by decide +kernel, (mw (i := 1032) (by decide +kernel) rfl), (mw (i := 163) (by decide +kernel) rfl), by decide +kernel, by decide +kernel⟩
theorem mi_X1_mostWords : MI yX1_mostWords cX1_mostWords 1 (some .int) 0 := ⟨by decide +kernel, (mw (i := 836) (by decide +kernel) rfl), (mw (i := 163) (by decide +kernel) rfl), by decide +kernel, by decide +kernel⟩
theorem mi_X1_seekClauseAround : MI yX1_seekClauseAround cX1_seekClauseAround 3 (some .boolean) 1 := ⟨by decide +kernel, (mw (i := 925) (by decide +kernel) rfl), (mw (i := 163) (by decide +kernel) rfl), by decide +kernel, by decide +kernel⟩
theorem mi_X1_unknownFrom : MI yX1_unknownFrom cX1_unknownFrom 5 (some .int) 2 := ⟨by decide +kernel, (mw (i := 1141) (by decide +kernel) rfl), (mw (i := 163) (by decide +kernel) rfl), by decide +kernel, by decide +kernel⟩
theorem mi_X1_wordsOn : MI yX1_wordsOn cX1_wordsOn 2 (some .int) 1 := ⟨by decide +kernel, (mw (i := 862) (by decide +kernel) rfl), (mw (i := 163) (by decide +kernel) rfl), by decide +kernel, by decide +kernel⟩
theorem mi_X1_wouldBeUnknown : MI yX1_wouldBeUnknown cX1_wouldBeUnknown 6 (some .int) 1 := ⟨by decide +kernel, (mw (i := 1353) (by decide +kernel) rfl), (mw (i := 163) (by decide +kernel) rfl), by decide +kernel, by decide +kernel⟩
theorem mi_X2_followFrom : MI yX2_followFrom cX2_followFrom 6 none 3 := ⟨by decide +kernel, (mw (i := 941) (by decide +kernel) rfl), (mw (i := 166) (by decide +kernel) rfl), by decide +kernel, by decide +kernel⟩
theorem mi_X2_seek : MI yX2_seek cX2_seek 7 (some .boolean) 3 := ⟨by decide +kernel, (mw (i := 937) (by decide +kernel) rfl), (mw (i := 166) (by decide +kernel) rfl), by decide +kernel, by decide +kernel⟩
theorem mi_X3_draw : MI yX3_draw cX3_draw 5 none 3 := ⟨by decide +kernel, (mw (i := 1011) (by decide +kernel) rfl), (mw (i := 167) (by decide +kernel) rfl), by decide +kernel, by decide +kernel⟩
theorem mi_X3_fee : MI yX3_fee cX3_fee 1 (some .int) 0 := ⟨by decide +kernel, (mw (i := 1036) (by decide +kernel) rfl), (mw (i := 167) (by decide +kernel) rfl), by decide +kernel, by decide +kernel⟩
theorem mi_X3_holds : MI yX3_holds cX3_holds 3 (some .boolean) 2 := ⟨by decide +kernel, (mw (i := 1015) (by decide +kernel) rfl), (mw (i := 167) (by decide +kernel) rfl), by decide +kernel, by decide +kernel⟩
theorem mi_X4_fasten : MI yX4_fasten cX4_fasten 2 none 1 := ⟨by decide +kernel, (mw (i := 869) (by decide +kernel) rfl), (mw (i := 165) (by decide +kernel) rfl), by decide +kernel, by decide +kernel⟩
theorem mi_X4_gatheringOf : MI yX4_gatheringOf cX4_gatheringOf 2 (some .int) 1 := ⟨by decide +kernel, (mw (i := 889) (by decide +kernel) rfl), (mw (i := 165) (by decide +kernel) rfl), by decide +kernel, by decide +kernel⟩
theorem mi_X4_isLost : MI yX4_isLost cX4_isLost 2 (some .boolean) 1 := ⟨by decide +kernel, (mw (i := 854) (by decide +kernel) rfl), (mw (i := 165) (by decide +kernel) rfl), by decide +kernel, by decide +kernel⟩
theorem mi_X4_isThere : MI yX4_isThere cX4_isThere 2 (some .boolean) 1 := ⟨by decide +kernel, (mw (i := 858) (by decide +kernel) rfl), (mw (i := 165) (by decide +kernel) rfl), by decide +kernel, by decide +kernel⟩
theorem fl_RX1_149 : Fl RX1 149 3 0 .int false := ⟨RX3, TX3, 5, tyX3, rfl, by decide, rfl, lay_3, (mw (i := 312) (by decide +kernel) rfl), tyX3_ok, nmX3, tyX3_ok 0 (by decide), rfl, by decide, by decide⟩
theorem fl_RX1_152 : Fl RX1 152 3 2 .int false := ⟨RX3, TX3, 5, tyX3, rfl, by decide, rfl, lay_3, (mw (i := 316) (by decide +kernel) rfl), tyX3_ok, nmX3, tyX3_ok 2 (by decide), rfl, by decide, by decide⟩
theorem fl_RX1_153 : Fl RX1 153 3 3 .int false := ⟨RX3, TX3, 5, tyX3, rfl, by decide, rfl, lay_3, (mw (i := 318) (by decide +kernel) rfl), tyX3_ok, nmX3, tyX3_ok 3 (by decide), rfl, by decide, by decide⟩
theorem fl_RX2_7 : Fl RX2 7 0 5 .int false := ⟨RX0, TX0, 8, tyX0, rfl, by decide, rfl, lay_0, (mw (i := 351) (by decide +kernel) rfl), tyX0_ok, nmX0, tyX0_ok 5 (by decide), rfl, by decide, by decide⟩
theorem fl_RX2_13 : Fl RX2 13 0 6 .int false := ⟨RX0, TX0, 8, tyX0, rfl, by decide, rfl, lay_0, (mw (i := 357) (by decide +kernel) rfl), tyX0_ok, nmX0, tyX0_ok 6 (by decide), rfl, by decide, by decide⟩
theorem fl_RX2_16 : Fg RX2 16 8 2 := ⟨RX8, TX8, 7, rfl, by decide, rfl, lay_8, (mw (i := 223) (by decide +kernel) rfl)⟩
theorem fl_RX2_22 : Fl RX2 22 2 0 .int false := ⟨RX2, TX2, 4, tyX2, rfl, by decide, rfl, lay_2, (mw (i := 286) (by decide +kernel) rfl), tyX2_ok, nmX2, tyX2_ok 0 (by decide), rfl, by decide, by decide⟩
theorem fl_RX2_25 : Fl RX2 25 2 2 .int false := ⟨RX2, TX2, 4, tyX2, rfl, by decide, rfl, lay_2, (mw (i := 292) (by decide +kernel) rfl), tyX2_ok, nmX2, tyX2_ok 2 (by decide), rfl, by decide, by decide⟩
theorem fl_RX2_32 : Fg RX2 32 8 3 := ⟨RX8, TX8, 7, rfl, by decide, rfl, lay_8, (mw (i := 226) (by decide +kernel) rfl)⟩
theorem fl_RX2_35 : Fl RX2 35 2 3 .int false := ⟨RX2, TX2, 4, tyX2, rfl, by decide, rfl, lay_2, (mw (i := 294) (by decide +kernel) rfl), tyX2_ok, nmX2, tyX2_ok 3 (by decide), rfl, by decide, by decide⟩
theorem fl_RX2_38 : Fl RX2 38 2 1 .int false := ⟨RX2, TX2, 4, tyX2, rfl, by decide, rfl, lay_2, (mw (i := 289) (by decide +kernel) rfl), tyX2_ok, nmX2, tyX2_ok 1 (by decide), rfl, by decide, by decide⟩
theorem fl_RX3_27 : Fl RX3 27 0 0 .int false := ⟨RX0, TX0, 8, tyX0, rfl, by decide, rfl, lay_0, (mw (i := 338) (by decide +kernel) rfl), tyX0_ok, nmX0, tyX0_ok 0 (by decide), rfl, by decide, by decide⟩
theorem fl_RX3_32 : Fl RX3 32 0 5 .int false := ⟨RX0, TX0, 8, tyX0, rfl, by decide, rfl, lay_0, (mw (i := 353) (by decide +kernel) rfl), tyX0_ok, nmX0, tyX0_ok 5 (by decide), rfl, by decide, by decide⟩
theorem fl_RX3_33 : Fl RX3 33 0 6 .int false := ⟨RX0, TX0, 8, tyX0, rfl, by decide, rfl, lay_0, (mw (i := 359) (by decide +kernel) rfl), tyX0_ok, nmX0, tyX0_ok 6 (by decide), rfl, by decide, by decide⟩
theorem fl_RX3_34 : Fg RX3 34 8 4 := ⟨RX8, TX8, 7, rfl, by decide, rfl, lay_8, (mw (i := 229) (by decide +kernel) rfl)⟩
theorem fl_RX3_44 : Fg RX3 44 8 5 := ⟨RX8, TX8, 7, rfl, by decide, rfl, lay_8, (mw (i := 233) (by decide +kernel) rfl)⟩
theorem lk_RX1_109 : LV RX1 109 yX8_innermostOf := ⟨(mw (i := 926) (by decide +kernel) rfl), (mw (i := 927) (by decide +kernel) rfl), (mw (i := 928) (by decide +kernel) rfl)⟩
theorem lk_RX1_112 : LV RX1 112 yX2_seek := ⟨(mw (i := 934) (by decide +kernel) rfl), (mw (i := 935) (by decide +kernel) rfl), (mw (i := 936) (by decide +kernel) rfl)⟩
theorem lk_RX1_124 : LV RX1 124 yX1_leafOf := ⟨(mw (i := 1021) (by decide +kernel) rfl), (mw (i := 1022) (by decide +kernel) rfl), (mw (i := 1023) (by decide +kernel) rfl)⟩
theorem lk_RX1_128 : LV RX1 128 yX1_isOn := ⟨(mw (i := 1239) (by decide +kernel) rfl), (mw (i := 1241) (by decide +kernel) rfl), (mw (i := 28) (by decide +kernel) rfl)⟩
theorem lk_RX1_132 : LV RX1 132 yX3_holds := ⟨(mw (i := 1016) (by decide +kernel) rfl), (mw (i := 1013) (by decide +kernel) rfl), (mw (i := 1014) (by decide +kernel) rfl)⟩
theorem lk_RX1_136 : LV RX1 136 yX4_isLost := ⟨(mw (i := 851) (by decide +kernel) rfl), (mw (i := 852) (by decide +kernel) rfl), (mw (i := 853) (by decide +kernel) rfl)⟩
theorem lk_RX1_140 : LV RX1 140 yX1_copiesWith := ⟨(mw (i := 1025) (by decide +kernel) rfl), (mw (i := 1026) (by decide +kernel) rfl), (mw (i := 1027) (by decide +kernel) rfl)⟩
theorem lk_RX1_143 : LV RX1 143 yX1_isKnown := ⟨(mw (i := 1017) (by decide +kernel) rfl), (mw (i := 1018) (by decide +kernel) rfl), (mw (i := 1019) (by decide +kernel) rfl)⟩
theorem lk_RX1_146 : LV RX1 146 yX1_wordsOn := ⟨(mw (i := 859) (by decide +kernel) rfl), (mw (i := 860) (by decide +kernel) rfl), (mw (i := 861) (by decide +kernel) rfl)⟩
theorem lk_RX1_156 : LV RX1 156 yX3_draw := ⟨(mw (i := 1008) (by decide +kernel) rfl), (mw (i := 1009) (by decide +kernel) rfl), (mw (i := 1010) (by decide +kernel) rfl)⟩
theorem lk_RX1_160 : LV RX1 160 yX3_fee := ⟨(mw (i := 1033) (by decide +kernel) rfl), (mw (i := 1034) (by decide +kernel) rfl), (mw (i := 1035) (by decide +kernel) rfl)⟩
theorem lk_RX2_28 : LV RX2 28 yX2_followFrom := ⟨(mw (i := 938) (by decide +kernel) rfl), (mw (i := 940) (by decide +kernel) rfl), (mw (i := 17) (by decide +kernel) rfl)⟩
theorem lk_RX3_40 : LV RX3 40 yX3_holds := ⟨(mw (i := 1012) (by decide +kernel) rfl), (mw (i := 1013) (by decide +kernel) rfl), (mw (i := 1014) (by decide +kernel) rfl)⟩
theorem lk_RX4_32 : LV RX4 32 yX4_isThere := ⟨(mw (i := 855) (by decide +kernel) rfl), (mw (i := 856) (by decide +kernel) rfl), (mw (i := 857) (by decide +kernel) rfl)⟩
theorem mt_RX1_116 : MTW RX1 116 Lib.Math.min.name Lib.Math.min.code 2 := ⟨(mw (i := 837) (by decide +kernel) rfl), (mw (i := 706) (by decide +kernel) rfl), (mw (i := 181) (by decide +kernel) rfl), (mw (i := 707) (by decide +kernel) rfl)⟩
theorem mt_RX1_121 : MTW RX1 121 Lib.Math.max.name Lib.Math.max.code 2 := ⟨(mw (i := 863) (by decide +kernel) rfl), (mw (i := 864) (by decide +kernel) rfl), (mw (i := 181) (by decide +kernel) rfl), (mw (i := 865) (by decide +kernel) rfl)⟩
theorem dX2_followFrom_0 : decode cX2_followFrom 0 = .ok (.aload_n 0, 1) := by decide +kernel
theorem dX2_followFrom_1 : decode cX2_followFrom 1 = .ok (.iload_n 3, 1) := by decide +kernel
theorem dX2_followFrom_2 : decode cX2_followFrom 2 = .ok (.aload_n 0, 1) := by decide +kernel
theorem dX2_followFrom_3 : decode cX2_followFrom 3 = .ok (.getfield 25, 3) := by decide +kernel
theorem dX2_followFrom_6 : decode cX2_followFrom 6 = .ok (.if_icmp .le 7, 3) := by decide +kernel
theorem dX2_followFrom_9 : decode cX2_followFrom 9 = .ok (.iconst 1, 1) := by decide +kernel
theorem dX2_followFrom_10 : decode cX2_followFrom 10 = .ok (.goto 4, 3) := by decide +kernel
theorem dX2_followFrom_13 : decode cX2_followFrom 13 = .ok (.iconst 0, 1) := by decide +kernel
theorem dX2_followFrom_14 : decode cX2_followFrom 14 = .ok (.putfield 35, 3) := by decide +kernel
theorem dX2_followFrom_17 : decode cX2_followFrom 17 = .ok (.iload_n 3, 1) := by decide +kernel
theorem dX2_followFrom_18 : decode cX2_followFrom 18 = .ok (.aload_n 1, 1) := by decide +kernel
theorem dX2_followFrom_19 : decode cX2_followFrom 19 = .ok (.getfield 32, 3) := by decide +kernel
theorem dX2_followFrom_22 : decode cX2_followFrom 22 = .ok (.aload_n 0, 1) := by decide +kernel
theorem dX2_followFrom_23 : decode cX2_followFrom 23 = .ok (.getfield 22, 3) := by decide +kernel
theorem dX2_followFrom_26 : decode cX2_followFrom 26 = .ok (.iaload, 1) := by decide +kernel
theorem dX2_followFrom_27 : decode cX2_followFrom 27 = .ok (.isub, 1) := by decide +kernel
theorem dX2_followFrom_28 : decode cX2_followFrom 28 = .ok (.istore 4, 2) := by decide +kernel
theorem dX2_followFrom_30 : decode cX2_followFrom 30 = .ok (.aload_n 0, 1) := by decide +kernel
theorem dX2_followFrom_31 : decode cX2_followFrom 31 = .ok (.getfield 22, 3) := by decide +kernel
theorem dX2_followFrom_34 : decode cX2_followFrom 34 = .ok (.istore 5, 2) := by decide +kernel
theorem dX2_followFrom_36 : decode cX2_followFrom 36 = .ok (.iload 4, 2) := by decide +kernel
theorem dX2_followFrom_38 : decode cX2_followFrom 38 = .ok (.aload_n 0, 1) := by decide +kernel
theorem dX2_followFrom_39 : decode cX2_followFrom 39 = .ok (.getfield 25, 3) := by decide +kernel
theorem dX2_followFrom_42 : decode cX2_followFrom 42 = .ok (.if_icmp .lt 74, 3) := by decide +kernel
theorem dX2_followFrom_45 : decode cX2_followFrom 45 = .ok (.iload 5, 2) := by decide +kernel
theorem dX2_followFrom_47 : decode cX2_followFrom 47 = .ok (.iconst 1, 1) := by decide +kernel
theorem dX2_followFrom_48 : decode cX2_followFrom 48 = .ok (.iadd, 1) := by decide +kernel
theorem dX2_followFrom_49 : decode cX2_followFrom 49 = .ok (.aload_n 2, 1) := by decide +kernel
theorem dX2_followFrom_50 : decode cX2_followFrom 50 = .ok (.getfield 7, 3) := by decide +kernel
theorem dX2_followFrom_53 : decode cX2_followFrom 53 = .ok (.aload_n 2, 1) := by decide +kernel
theorem dX2_followFrom_54 : decode cX2_followFrom 54 = .ok (.getfield 13, 3) := by decide +kernel
theorem dX2_followFrom_57 : decode cX2_followFrom 57 = .ok (.iadd, 1) := by decide +kernel
theorem dX2_followFrom_58 : decode cX2_followFrom 58 = .ok (.if_icmp .ge 58, 3) := by decide +kernel
theorem dX2_followFrom_61 : decode cX2_followFrom 61 = .ok (.iinc 5 1, 3) := by decide +kernel
theorem dX2_followFrom_64 : decode cX2_followFrom 64 = .ok (.iload 4, 2) := by decide +kernel
theorem dX2_followFrom_66 : decode cX2_followFrom 66 = .ok (.aload_n 0, 1) := by decide +kernel
theorem dX2_followFrom_67 : decode cX2_followFrom 67 = .ok (.getfield 25, 3) := by decide +kernel
theorem dX2_followFrom_70 : decode cX2_followFrom 70 = .ok (.if_icmp .ne 23, 3) := by decide +kernel
theorem dX2_followFrom_73 : decode cX2_followFrom 73 = .ok (.aload_n 1, 1) := by decide +kernel
theorem dX2_followFrom_74 : decode cX2_followFrom 74 = .ok (.getfield 16, 3) := by decide +kernel
theorem dX2_followFrom_77 : decode cX2_followFrom 77 = .ok (.iload 5, 2) := by decide +kernel
theorem dX2_followFrom_79 : decode cX2_followFrom 79 = .ok (.iaload, 1) := by decide +kernel
theorem dX2_followFrom_80 : decode cX2_followFrom 80 = .ok (.ifCond .le 13, 3) := by decide +kernel
theorem dX2_followFrom_83 : decode cX2_followFrom 83 = .ok (.aload_n 0, 1) := by decide +kernel
theorem dX2_followFrom_84 : decode cX2_followFrom 84 = .ok (.dup, 1) := by decide +kernel
theorem dX2_followFrom_85 : decode cX2_followFrom 85 = .ok (.getfield 35, 3) := by decide +kernel
theorem dX2_followFrom_88 : decode cX2_followFrom 88 = .ok (.iconst 1, 1) := by decide +kernel
theorem dX2_followFrom_89 : decode cX2_followFrom 89 = .ok (.iadd, 1) := by decide +kernel
theorem dX2_followFrom_90 : decode cX2_followFrom 90 = .ok (.putfield 35, 3) := by decide +kernel
theorem dX2_followFrom_93 : decode cX2_followFrom 93 = .ok (.iload 4, 2) := by decide +kernel
theorem dX2_followFrom_95 : decode cX2_followFrom 95 = .ok (.aload_n 1, 1) := by decide +kernel
theorem dX2_followFrom_96 : decode cX2_followFrom 96 = .ok (.getfield 16, 3) := by decide +kernel
theorem dX2_followFrom_99 : decode cX2_followFrom 99 = .ok (.iload 5, 2) := by decide +kernel
theorem dX2_followFrom_101 : decode cX2_followFrom 101 = .ok (.iaload, 1) := by decide +kernel
theorem dX2_followFrom_102 : decode cX2_followFrom 102 = .ok (.aload_n 1, 1) := by decide +kernel
theorem dX2_followFrom_103 : decode cX2_followFrom 103 = .ok (.getfield 32, 3) := by decide +kernel
theorem dX2_followFrom_106 : decode cX2_followFrom 106 = .ok (.iload 5, 2) := by decide +kernel
theorem dX2_followFrom_108 : decode cX2_followFrom 108 = .ok (.iaload, 1) := by decide +kernel
theorem dX2_followFrom_109 : decode cX2_followFrom 109 = .ok (.isub, 1) := by decide +kernel
theorem dX2_followFrom_110 : decode cX2_followFrom 110 = .ok (.iadd, 1) := by decide +kernel
theorem dX2_followFrom_111 : decode cX2_followFrom 111 = .ok (.istore 4, 2) := by decide +kernel
theorem dX2_followFrom_113 : decode cX2_followFrom 113 = .ok (.goto (-77), 3) := by decide +kernel
theorem dX2_followFrom_116 : decode cX2_followFrom 116 = .ok (.aload_n 0, 1) := by decide +kernel
theorem dX2_followFrom_117 : decode cX2_followFrom 117 = .ok (.iload 5, 2) := by decide +kernel
theorem dX2_followFrom_119 : decode cX2_followFrom 119 = .ok (.aload_n 0, 1) := by decide +kernel
theorem dX2_followFrom_120 : decode cX2_followFrom 120 = .ok (.getfield 22, 3) := by decide +kernel
theorem dX2_followFrom_123 : decode cX2_followFrom 123 = .ok (.isub, 1) := by decide +kernel
theorem dX2_followFrom_124 : decode cX2_followFrom 124 = .ok (.iconst 1, 1) := by decide +kernel
theorem dX2_followFrom_125 : decode cX2_followFrom 125 = .ok (.iadd, 1) := by decide +kernel
theorem dX2_followFrom_126 : decode cX2_followFrom 126 = .ok (.putfield 38, 3) := by decide +kernel
theorem dX2_followFrom_129 : decode cX2_followFrom 129 = .ok (.return_, 1) := by decide +kernel
theorem dX2_seek_0 : decode cX2_seek 0 = .ok (.iconst 0, 1) := by decide +kernel
theorem dX2_seek_1 : decode cX2_seek 1 = .ok (.istore 4, 2) := by decide +kernel
theorem dX2_seek_3 : decode cX2_seek 3 = .ok (.iconst 0, 1) := by decide +kernel
theorem dX2_seek_4 : decode cX2_seek 4 = .ok (.istore 5, 2) := by decide +kernel
theorem dX2_seek_6 : decode cX2_seek 6 = .ok (.aload_n 2, 1) := by decide +kernel
theorem dX2_seek_7 : decode cX2_seek 7 = .ok (.getfield 7, 3) := by decide +kernel
theorem dX2_seek_10 : decode cX2_seek 10 = .ok (.istore 6, 2) := by decide +kernel
theorem dX2_seek_12 : decode cX2_seek 12 = .ok (.iload 6, 2) := by decide +kernel
theorem dX2_seek_14 : decode cX2_seek 14 = .ok (.aload_n 2, 1) := by decide +kernel
theorem dX2_seek_15 : decode cX2_seek 15 = .ok (.getfield 7, 3) := by decide +kernel
theorem dX2_seek_18 : decode cX2_seek 18 = .ok (.aload_n 2, 1) := by decide +kernel
theorem dX2_seek_19 : decode cX2_seek 19 = .ok (.getfield 13, 3) := by decide +kernel
theorem dX2_seek_22 : decode cX2_seek 22 = .ok (.iadd, 1) := by decide +kernel
theorem dX2_seek_23 : decode cX2_seek 23 = .ok (.if_icmp .ge 98, 3) := by decide +kernel
theorem dX2_seek_26 : decode cX2_seek 26 = .ok (.iload_n 3, 1) := by decide +kernel
theorem dX2_seek_27 : decode cX2_seek 27 = .ok (.iload 4, 2) := by decide +kernel
theorem dX2_seek_29 : decode cX2_seek 29 = .ok (.if_icmp .lt 54, 3) := by decide +kernel
theorem dX2_seek_32 : decode cX2_seek 32 = .ok (.iload_n 3, 1) := by decide +kernel
theorem dX2_seek_33 : decode cX2_seek 33 = .ok (.iload 4, 2) := by decide +kernel
theorem dX2_seek_35 : decode cX2_seek 35 = .ok (.aload_n 1, 1) := by decide +kernel
theorem dX2_seek_36 : decode cX2_seek 36 = .ok (.getfield 16, 3) := by decide +kernel
theorem dX2_seek_39 : decode cX2_seek 39 = .ok (.iload 6, 2) := by decide +kernel
theorem dX2_seek_41 : decode cX2_seek 41 = .ok (.iaload, 1) := by decide +kernel
theorem dX2_seek_42 : decode cX2_seek 42 = .ok (.iadd, 1) := by decide +kernel
theorem dX2_seek_43 : decode cX2_seek 43 = .ok (.if_icmp .ge 40, 3) := by decide +kernel
theorem dX2_seek_46 : decode cX2_seek 46 = .ok (.aload_n 0, 1) := by decide +kernel
theorem dX2_seek_47 : decode cX2_seek 47 = .ok (.iload 6, 2) := by decide +kernel
theorem dX2_seek_49 : decode cX2_seek 49 = .ok (.putfield 22, 3) := by decide +kernel
theorem dX2_seek_52 : decode cX2_seek 52 = .ok (.aload_n 0, 1) := by decide +kernel
theorem dX2_seek_53 : decode cX2_seek 53 = .ok (.iload 5, 2) := by decide +kernel
theorem dX2_seek_55 : decode cX2_seek 55 = .ok (.iload_n 3, 1) := by decide +kernel
theorem dX2_seek_56 : decode cX2_seek 56 = .ok (.iadd, 1) := by decide +kernel
theorem dX2_seek_57 : decode cX2_seek 57 = .ok (.iload 4, 2) := by decide +kernel
theorem dX2_seek_59 : decode cX2_seek 59 = .ok (.isub, 1) := by decide +kernel
theorem dX2_seek_60 : decode cX2_seek 60 = .ok (.iconst 1, 1) := by decide +kernel
theorem dX2_seek_61 : decode cX2_seek 61 = .ok (.iadd, 1) := by decide +kernel
theorem dX2_seek_62 : decode cX2_seek 62 = .ok (.putfield 25, 3) := by decide +kernel
theorem dX2_seek_65 : decode cX2_seek 65 = .ok (.aload_n 0, 1) := by decide +kernel
theorem dX2_seek_66 : decode cX2_seek 66 = .ok (.aload_n 1, 1) := by decide +kernel
theorem dX2_seek_67 : decode cX2_seek 67 = .ok (.aload_n 2, 1) := by decide +kernel
theorem dX2_seek_68 : decode cX2_seek 68 = .ok (.iload 5, 2) := by decide +kernel
theorem dX2_seek_70 : decode cX2_seek 70 = .ok (.aload_n 1, 1) := by decide +kernel
theorem dX2_seek_71 : decode cX2_seek 71 = .ok (.getfield 16, 3) := by decide +kernel
theorem dX2_seek_74 : decode cX2_seek 74 = .ok (.iload 6, 2) := by decide +kernel
theorem dX2_seek_76 : decode cX2_seek 76 = .ok (.iaload, 1) := by decide +kernel
theorem dX2_seek_77 : decode cX2_seek 77 = .ok (.iadd, 1) := by decide +kernel
theorem dX2_seek_78 : decode cX2_seek 78 = .ok (.invokevirtual 28, 3) := by decide +kernel
theorem dX2_seek_81 : decode cX2_seek 81 = .ok (.iconst 1, 1) := by decide +kernel
theorem dX2_seek_82 : decode cX2_seek 82 = .ok (.ireturn, 1) := by decide +kernel
theorem dX2_seek_83 : decode cX2_seek 83 = .ok (.iload 4, 2) := by decide +kernel
theorem dX2_seek_85 : decode cX2_seek 85 = .ok (.aload_n 1, 1) := by decide +kernel
theorem dX2_seek_86 : decode cX2_seek 86 = .ok (.getfield 16, 3) := by decide +kernel
theorem dX2_seek_89 : decode cX2_seek 89 = .ok (.iload 6, 2) := by decide +kernel
theorem dX2_seek_91 : decode cX2_seek 91 = .ok (.iaload, 1) := by decide +kernel
theorem dX2_seek_92 : decode cX2_seek 92 = .ok (.iadd, 1) := by decide +kernel
theorem dX2_seek_93 : decode cX2_seek 93 = .ok (.istore 4, 2) := by decide +kernel
theorem dX2_seek_95 : decode cX2_seek 95 = .ok (.iload 5, 2) := by decide +kernel
theorem dX2_seek_97 : decode cX2_seek 97 = .ok (.aload_n 1, 1) := by decide +kernel
theorem dX2_seek_98 : decode cX2_seek 98 = .ok (.getfield 16, 3) := by decide +kernel
theorem dX2_seek_101 : decode cX2_seek 101 = .ok (.iload 6, 2) := by decide +kernel
theorem dX2_seek_103 : decode cX2_seek 103 = .ok (.iaload, 1) := by decide +kernel
theorem dX2_seek_104 : decode cX2_seek 104 = .ok (.aload_n 1, 1) := by decide +kernel
theorem dX2_seek_105 : decode cX2_seek 105 = .ok (.getfield 32, 3) := by decide +kernel
theorem dX2_seek_108 : decode cX2_seek 108 = .ok (.iload 6, 2) := by decide +kernel
theorem dX2_seek_110 : decode cX2_seek 110 = .ok (.iaload, 1) := by decide +kernel
theorem dX2_seek_111 : decode cX2_seek 111 = .ok (.isub, 1) := by decide +kernel
theorem dX2_seek_112 : decode cX2_seek 112 = .ok (.iadd, 1) := by decide +kernel
theorem dX2_seek_113 : decode cX2_seek 113 = .ok (.istore 5, 2) := by decide +kernel
theorem dX2_seek_115 : decode cX2_seek 115 = .ok (.iinc 6 1, 3) := by decide +kernel
theorem dX2_seek_118 : decode cX2_seek 118 = .ok (.goto (-106), 3) := by decide +kernel
theorem dX2_seek_121 : decode cX2_seek 121 = .ok (.iconst 0, 1) := by decide +kernel
theorem dX2_seek_122 : decode cX2_seek 122 = .ok (.ireturn, 1) := by decide +kernel
theorem dX1_seekClauseAround_0 : decode cX1_seekClauseAround 0 = .ok (.aload_n 0, 1) := by decide +kernel
theorem dX1_seekClauseAround_1 : decode cX1_seekClauseAround 1 = .ok (.invokevirtual 87, 3) := by decide +kernel
theorem dX1_seekClauseAround_4 : decode cX1_seekClauseAround 4 = .ok (.astore_n 2, 1) := by decide +kernel
theorem dX1_seekClauseAround_5 : decode cX1_seekClauseAround 5 = .ok (.aload_n 2, 1) := by decide +kernel
theorem dX1_seekClauseAround_6 : decode cX1_seekClauseAround 6 = .ok (.ifnull 15, 3) := by decide +kernel
theorem dX1_seekClauseAround_9 : decode cX1_seekClauseAround 9 = .ok (.iload_n 1, 1) := by decide +kernel
theorem dX1_seekClauseAround_10 : decode cX1_seekClauseAround 10 = .ok (.ifCond .lt 11, 3) := by decide +kernel
theorem dX1_seekClauseAround_13 : decode cX1_seekClauseAround 13 = .ok (.iload_n 1, 1) := by decide +kernel
theorem dX1_seekClauseAround_14 : decode cX1_seekClauseAround 14 = .ok (.aload_n 2, 1) := by decide +kernel
theorem dX1_seekClauseAround_15 : decode cX1_seekClauseAround 15 = .ok (.getfield 91, 3) := by decide +kernel
theorem dX1_seekClauseAround_18 : decode cX1_seekClauseAround 18 = .ok (.if_icmp .lt 5, 3) := by decide +kernel
theorem dX1_seekClauseAround_21 : decode cX1_seekClauseAround 21 = .ok (.iconst 0, 1) := by decide +kernel
theorem dX1_seekClauseAround_22 : decode cX1_seekClauseAround 22 = .ok (.ireturn, 1) := by decide +kernel
theorem dX1_seekClauseAround_23 : decode cX1_seekClauseAround 23 = .ok (.aload_n 0, 1) := by decide +kernel
theorem dX1_seekClauseAround_24 : decode cX1_seekClauseAround 24 = .ok (.getfield 38, 3) := by decide +kernel
theorem dX1_seekClauseAround_27 : decode cX1_seekClauseAround 27 = .ok (.aload_n 0, 1) := by decide +kernel
theorem dX1_seekClauseAround_28 : decode cX1_seekClauseAround 28 = .ok (.getfield 24, 3) := by decide +kernel
theorem dX1_seekClauseAround_31 : decode cX1_seekClauseAround 31 = .ok (.aload_n 2, 1) := by decide +kernel
theorem dX1_seekClauseAround_32 : decode cX1_seekClauseAround 32 = .ok (.aload_n 0, 1) := by decide +kernel
theorem dX1_seekClauseAround_33 : decode cX1_seekClauseAround 33 = .ok (.getfield 24, 3) := by decide +kernel
theorem dX1_seekClauseAround_36 : decode cX1_seekClauseAround 36 = .ok (.aload_n 2, 1) := by decide +kernel
theorem dX1_seekClauseAround_37 : decode cX1_seekClauseAround 37 = .ok (.getfield 92, 3) := by decide +kernel
theorem dX1_seekClauseAround_40 : decode cX1_seekClauseAround 40 = .ok (.aload_n 2, 1) := by decide +kernel
theorem dX1_seekClauseAround_41 : decode cX1_seekClauseAround 41 = .ok (.getfield 92, 3) := by decide +kernel
theorem dX1_seekClauseAround_44 : decode cX1_seekClauseAround 44 = .ok (.iload_n 1, 1) := by decide +kernel
theorem dX1_seekClauseAround_45 : decode cX1_seekClauseAround 45 = .ok (.iadd, 1) := by decide +kernel
theorem dX1_seekClauseAround_46 : decode cX1_seekClauseAround 46 = .ok (.invokevirtual 109, 3) := by decide +kernel
theorem dX1_seekClauseAround_49 : decode cX1_seekClauseAround 49 = .ok (.invokevirtual 112, 3) := by decide +kernel
theorem dX1_seekClauseAround_52 : decode cX1_seekClauseAround 52 = .ok (.ireturn, 1) := by decide +kernel
theorem dX1_leavesOf_0 : decode cX1_leavesOf 0 = .ok (.aload_n 0, 1) := by decide +kernel
theorem dX1_leavesOf_1 : decode cX1_leavesOf 1 = .ok (.getfield 48, 3) := by decide +kernel
theorem dX1_leavesOf_4 : decode cX1_leavesOf 4 = .ok (.ifCond .le 19, 3) := by decide +kernel
theorem dX1_leavesOf_7 : decode cX1_leavesOf 7 = .ok (.iload_n 1, 1) := by decide +kernel
theorem dX1_leavesOf_8 : decode cX1_leavesOf 8 = .ok (.aload_n 0, 1) := by decide +kernel
theorem dX1_leavesOf_9 : decode cX1_leavesOf 9 = .ok (.getfield 48, 3) := by decide +kernel
theorem dX1_leavesOf_12 : decode cX1_leavesOf 12 = .ok (.iadd, 1) := by decide +kernel
theorem dX1_leavesOf_13 : decode cX1_leavesOf 13 = .ok (.iconst 1, 1) := by decide +kernel
theorem dX1_leavesOf_14 : decode cX1_leavesOf 14 = .ok (.isub, 1) := by decide +kernel
theorem dX1_leavesOf_15 : decode cX1_leavesOf 15 = .ok (.aload_n 0, 1) := by decide +kernel
theorem dX1_leavesOf_16 : decode cX1_leavesOf 16 = .ok (.getfield 48, 3) := by decide +kernel
theorem dX1_leavesOf_19 : decode cX1_leavesOf 19 = .ok (.idiv, 1) := by decide +kernel
theorem dX1_leavesOf_20 : decode cX1_leavesOf 20 = .ok (.goto 4, 3) := by decide +kernel
theorem dX1_leavesOf_23 : decode cX1_leavesOf 23 = .ok (.iconst 0, 1) := by decide +kernel
theorem dX1_leavesOf_24 : decode cX1_leavesOf 24 = .ok (.ireturn, 1) := by decide +kernel
theorem dX1_leafOf_0 : decode cX1_leafOf 0 = .ok (.aload_n 0, 1) := by decide +kernel
theorem dX1_leafOf_1 : decode cX1_leafOf 1 = .ok (.getfield 48, 3) := by decide +kernel
theorem dX1_leafOf_4 : decode cX1_leafOf 4 = .ok (.ifCond .le 12, 3) := by decide +kernel
theorem dX1_leafOf_7 : decode cX1_leafOf 7 = .ok (.iload_n 1, 1) := by decide +kernel
theorem dX1_leafOf_8 : decode cX1_leafOf 8 = .ok (.aload_n 0, 1) := by decide +kernel
theorem dX1_leafOf_9 : decode cX1_leafOf 9 = .ok (.getfield 48, 3) := by decide +kernel
theorem dX1_leafOf_12 : decode cX1_leafOf 12 = .ok (.idiv, 1) := by decide +kernel
theorem dX1_leafOf_13 : decode cX1_leafOf 13 = .ok (.goto 4, 3) := by decide +kernel
theorem dX1_leafOf_16 : decode cX1_leafOf 16 = .ok (.iconst 0, 1) := by decide +kernel
theorem dX1_leafOf_17 : decode cX1_leafOf 17 = .ok (.ireturn, 1) := by decide +kernel
theorem dX1_mostWords_0 : decode cX1_mostWords 0 = .ok (.bipush 12, 2) := by decide +kernel
theorem dX1_mostWords_2 : decode cX1_mostWords 2 = .ok (.aload_n 0, 1) := by decide +kernel
theorem dX1_mostWords_3 : decode cX1_mostWords 3 = .ok (.getfield 48, 3) := by decide +kernel
theorem dX1_mostWords_6 : decode cX1_mostWords 6 = .ok (.imul, 1) := by decide +kernel
theorem dX1_mostWords_7 : decode cX1_mostWords 7 = .ok (.sipush 240, 3) := by decide +kernel
theorem dX1_mostWords_10 : decode cX1_mostWords 10 = .ok (.invokestatic 116, 3) := by decide +kernel
theorem dX1_mostWords_13 : decode cX1_mostWords 13 = .ok (.ireturn, 1) := by decide +kernel
theorem dX1_wordsOn_0 : decode cX1_wordsOn 0 = .ok (.iconst 0, 1) := by decide +kernel
theorem dX1_wordsOn_1 : decode cX1_wordsOn 1 = .ok (.aload_n 0, 1) := by decide +kernel
theorem dX1_wordsOn_2 : decode cX1_wordsOn 2 = .ok (.getfield 48, 3) := by decide +kernel
theorem dX1_wordsOn_5 : decode cX1_wordsOn 5 = .ok (.aload_n 0, 1) := by decide +kernel
theorem dX1_wordsOn_6 : decode cX1_wordsOn 6 = .ok (.getfield 24, 3) := by decide +kernel
theorem dX1_wordsOn_9 : decode cX1_wordsOn 9 = .ok (.getfield 80, 3) := by decide +kernel
theorem dX1_wordsOn_12 : decode cX1_wordsOn 12 = .ok (.iload_n 1, 1) := by decide +kernel
theorem dX1_wordsOn_13 : decode cX1_wordsOn 13 = .ok (.aload_n 0, 1) := by decide +kernel
theorem dX1_wordsOn_14 : decode cX1_wordsOn 14 = .ok (.getfield 48, 3) := by decide +kernel
theorem dX1_wordsOn_17 : decode cX1_wordsOn 17 = .ok (.imul, 1) := by decide +kernel
theorem dX1_wordsOn_18 : decode cX1_wordsOn 18 = .ok (.isub, 1) := by decide +kernel
theorem dX1_wordsOn_19 : decode cX1_wordsOn 19 = .ok (.invokestatic 116, 3) := by decide +kernel
theorem dX1_wordsOn_22 : decode cX1_wordsOn 22 = .ok (.invokestatic 121, 3) := by decide +kernel
theorem dX1_wordsOn_25 : decode cX1_wordsOn 25 = .ok (.ireturn, 1) := by decide +kernel
theorem dX1_isOn_0 : decode cX1_isOn 0 = .ok (.aload_n 0, 1) := by decide +kernel
theorem dX1_isOn_1 : decode cX1_isOn 1 = .ok (.aload_n 1, 1) := by decide +kernel
theorem dX1_isOn_2 : decode cX1_isOn 2 = .ok (.getfield 92, 3) := by decide +kernel
theorem dX1_isOn_5 : decode cX1_isOn 5 = .ok (.invokevirtual 124, 3) := by decide +kernel
theorem dX1_isOn_8 : decode cX1_isOn 8 = .ok (.iload_n 2, 1) := by decide +kernel
theorem dX1_isOn_9 : decode cX1_isOn 9 = .ok (.if_icmp .gt 26, 3) := by decide +kernel
theorem dX1_isOn_12 : decode cX1_isOn 12 = .ok (.aload_n 0, 1) := by decide +kernel
theorem dX1_isOn_13 : decode cX1_isOn 13 = .ok (.aload_n 1, 1) := by decide +kernel
theorem dX1_isOn_14 : decode cX1_isOn 14 = .ok (.getfield 92, 3) := by decide +kernel
theorem dX1_isOn_17 : decode cX1_isOn 17 = .ok (.aload_n 1, 1) := by decide +kernel
theorem dX1_isOn_18 : decode cX1_isOn 18 = .ok (.getfield 91, 3) := by decide +kernel
theorem dX1_isOn_21 : decode cX1_isOn 21 = .ok (.iadd, 1) := by decide +kernel
theorem dX1_isOn_22 : decode cX1_isOn 22 = .ok (.iconst 1, 1) := by decide +kernel
theorem dX1_isOn_23 : decode cX1_isOn 23 = .ok (.isub, 1) := by decide +kernel
theorem dX1_isOn_24 : decode cX1_isOn 24 = .ok (.invokevirtual 124, 3) := by decide +kernel
theorem dX1_isOn_27 : decode cX1_isOn 27 = .ok (.iload_n 2, 1) := by decide +kernel
theorem dX1_isOn_28 : decode cX1_isOn 28 = .ok (.if_icmp .lt 7, 3) := by decide +kernel
theorem dX1_isOn_31 : decode cX1_isOn 31 = .ok (.iconst 1, 1) := by decide +kernel
theorem dX1_isOn_32 : decode cX1_isOn 32 = .ok (.goto 4, 3) := by decide +kernel
theorem dX1_isOn_35 : decode cX1_isOn 35 = .ok (.iconst 0, 1) := by decide +kernel
theorem dX1_isOn_36 : decode cX1_isOn 36 = .ok (.ireturn, 1) := by decide +kernel
theorem dX1_actsOn_0 : decode cX1_actsOn 0 = .ok (.iconst 0, 1) := by decide +kernel
theorem dX1_actsOn_1 : decode cX1_actsOn 1 = .ok (.istore_n 2, 1) := by decide +kernel
theorem dX1_actsOn_2 : decode cX1_actsOn 2 = .ok (.iconst 0, 1) := by decide +kernel
theorem dX1_actsOn_3 : decode cX1_actsOn 3 = .ok (.istore_n 3, 1) := by decide +kernel
theorem dX1_actsOn_4 : decode cX1_actsOn 4 = .ok (.iload_n 3, 1) := by decide +kernel
theorem dX1_actsOn_5 : decode cX1_actsOn 5 = .ok (.aload_n 0, 1) := by decide +kernel
theorem dX1_actsOn_6 : decode cX1_actsOn 6 = .ok (.getfield 55, 3) := by decide +kernel
theorem dX1_actsOn_9 : decode cX1_actsOn 9 = .ok (.if_icmp .ge 26, 3) := by decide +kernel
theorem dX1_actsOn_12 : decode cX1_actsOn 12 = .ok (.aload_n 0, 1) := by decide +kernel
theorem dX1_actsOn_13 : decode cX1_actsOn 13 = .ok (.aload_n 0, 1) := by decide +kernel
theorem dX1_actsOn_14 : decode cX1_actsOn 14 = .ok (.getfield 11, 3) := by decide +kernel
theorem dX1_actsOn_17 : decode cX1_actsOn 17 = .ok (.iload_n 3, 1) := by decide +kernel
theorem dX1_actsOn_18 : decode cX1_actsOn 18 = .ok (.aaload, 1) := by decide +kernel
theorem dX1_actsOn_19 : decode cX1_actsOn 19 = .ok (.iload_n 1, 1) := by decide +kernel
theorem dX1_actsOn_20 : decode cX1_actsOn 20 = .ok (.invokevirtual 128, 3) := by decide +kernel
theorem dX1_actsOn_23 : decode cX1_actsOn 23 = .ok (.ifCond .eq 6, 3) := by decide +kernel
theorem dX1_actsOn_26 : decode cX1_actsOn 26 = .ok (.iinc 2 1, 3) := by decide +kernel
theorem dX1_actsOn_29 : decode cX1_actsOn 29 = .ok (.iinc 3 1, 3) := by decide +kernel
theorem dX1_actsOn_32 : decode cX1_actsOn 32 = .ok (.goto (-28), 3) := by decide +kernel
theorem dX1_actsOn_35 : decode cX1_actsOn 35 = .ok (.iload_n 2, 1) := by decide +kernel
theorem dX1_actsOn_36 : decode cX1_actsOn 36 = .ok (.ireturn, 1) := by decide +kernel
theorem dX1_firstActOn_0 : decode cX1_firstActOn 0 = .ok (.iconst 0, 1) := by decide +kernel
theorem dX1_firstActOn_1 : decode cX1_firstActOn 1 = .ok (.istore_n 2, 1) := by decide +kernel
theorem dX1_firstActOn_2 : decode cX1_firstActOn 2 = .ok (.iload_n 2, 1) := by decide +kernel
theorem dX1_firstActOn_3 : decode cX1_firstActOn 3 = .ok (.aload_n 0, 1) := by decide +kernel
theorem dX1_firstActOn_4 : decode cX1_firstActOn 4 = .ok (.getfield 55, 3) := by decide +kernel
theorem dX1_firstActOn_7 : decode cX1_firstActOn 7 = .ok (.if_icmp .ge 27, 3) := by decide +kernel
theorem dX1_firstActOn_10 : decode cX1_firstActOn 10 = .ok (.aload_n 0, 1) := by decide +kernel
theorem dX1_firstActOn_11 : decode cX1_firstActOn 11 = .ok (.aload_n 0, 1) := by decide +kernel
theorem dX1_firstActOn_12 : decode cX1_firstActOn 12 = .ok (.getfield 11, 3) := by decide +kernel
theorem dX1_firstActOn_15 : decode cX1_firstActOn 15 = .ok (.iload_n 2, 1) := by decide +kernel
theorem dX1_firstActOn_16 : decode cX1_firstActOn 16 = .ok (.aaload, 1) := by decide +kernel
theorem dX1_firstActOn_17 : decode cX1_firstActOn 17 = .ok (.iload_n 1, 1) := by decide +kernel
theorem dX1_firstActOn_18 : decode cX1_firstActOn 18 = .ok (.invokevirtual 128, 3) := by decide +kernel
theorem dX1_firstActOn_21 : decode cX1_firstActOn 21 = .ok (.ifCond .eq 7, 3) := by decide +kernel
theorem dX1_firstActOn_24 : decode cX1_firstActOn 24 = .ok (.iload_n 2, 1) := by decide +kernel
theorem dX1_firstActOn_25 : decode cX1_firstActOn 25 = .ok (.iconst 1, 1) := by decide +kernel
theorem dX1_firstActOn_26 : decode cX1_firstActOn 26 = .ok (.iadd, 1) := by decide +kernel
theorem dX1_firstActOn_27 : decode cX1_firstActOn 27 = .ok (.ireturn, 1) := by decide +kernel
theorem dX1_firstActOn_28 : decode cX1_firstActOn 28 = .ok (.iinc 2 1, 3) := by decide +kernel
theorem dX1_firstActOn_31 : decode cX1_firstActOn 31 = .ok (.goto (-29), 3) := by decide +kernel
theorem dX1_firstActOn_34 : decode cX1_firstActOn 34 = .ok (.iconst 0, 1) := by decide +kernel
theorem dX1_firstActOn_35 : decode cX1_firstActOn 35 = .ok (.ireturn, 1) := by decide +kernel
theorem dX3_holds_0 : decode cX3_holds 0 = .ok (.iload_n 2, 1) := by decide +kernel
theorem dX3_holds_1 : decode cX3_holds 1 = .ok (.aload_n 0, 1) := by decide +kernel
theorem dX3_holds_2 : decode cX3_holds 2 = .ok (.getfield 18, 3) := by decide +kernel
theorem dX3_holds_5 : decode cX3_holds 5 = .ok (.if_icmp .lt 20, 3) := by decide +kernel
theorem dX3_holds_8 : decode cX3_holds 8 = .ok (.iload_n 2, 1) := by decide +kernel
theorem dX3_holds_9 : decode cX3_holds 9 = .ok (.aload_n 0, 1) := by decide +kernel
theorem dX3_holds_10 : decode cX3_holds 10 = .ok (.getfield 21, 3) := by decide +kernel
theorem dX3_holds_13 : decode cX3_holds 13 = .ok (.if_icmp .gt 12, 3) := by decide +kernel
theorem dX3_holds_16 : decode cX3_holds 16 = .ok (.aload_n 1, 1) := by decide +kernel
theorem dX3_holds_17 : decode cX3_holds 17 = .ok (.getfield 34, 3) := by decide +kernel
theorem dX3_holds_20 : decode cX3_holds 20 = .ok (.iload_n 2, 1) := by decide +kernel
theorem dX3_holds_21 : decode cX3_holds 21 = .ok (.baload, 1) := by decide +kernel
theorem dX3_holds_22 : decode cX3_holds 22 = .ok (.ifCond .eq 5, 3) := by decide +kernel
theorem dX3_holds_25 : decode cX3_holds 25 = .ok (.iconst 0, 1) := by decide +kernel
theorem dX3_holds_26 : decode cX3_holds 26 = .ok (.ireturn, 1) := by decide +kernel
theorem dX3_holds_27 : decode cX3_holds 27 = .ok (.aload_n 0, 1) := by decide +kernel
theorem dX3_holds_28 : decode cX3_holds 28 = .ok (.getfield 15, 3) := by decide +kernel
theorem dX3_holds_31 : decode cX3_holds 31 = .ok (.iconst 2, 1) := by decide +kernel
theorem dX3_holds_32 : decode cX3_holds 32 = .ok (.if_icmp .ne 19, 3) := by decide +kernel
theorem dX3_holds_35 : decode cX3_holds 35 = .ok (.iload_n 2, 1) := by decide +kernel
theorem dX3_holds_36 : decode cX3_holds 36 = .ok (.aload_n 0, 1) := by decide +kernel
theorem dX3_holds_37 : decode cX3_holds 37 = .ok (.getfield 18, 3) := by decide +kernel
theorem dX3_holds_40 : decode cX3_holds 40 = .ok (.if_icmp .eq 11, 3) := by decide +kernel
theorem dX3_holds_43 : decode cX3_holds 43 = .ok (.iload_n 2, 1) := by decide +kernel
theorem dX3_holds_44 : decode cX3_holds 44 = .ok (.aload_n 0, 1) := by decide +kernel
theorem dX3_holds_45 : decode cX3_holds 45 = .ok (.getfield 21, 3) := by decide +kernel
theorem dX3_holds_48 : decode cX3_holds 48 = .ok (.if_icmp .ne 7, 3) := by decide +kernel
theorem dX3_holds_51 : decode cX3_holds 51 = .ok (.iconst 1, 1) := by decide +kernel
theorem dX3_holds_52 : decode cX3_holds 52 = .ok (.goto 4, 3) := by decide +kernel
theorem dX3_holds_55 : decode cX3_holds 55 = .ok (.iconst 0, 1) := by decide +kernel
theorem dX3_holds_56 : decode cX3_holds 56 = .ok (.ireturn, 1) := by decide +kernel
theorem dX1_copiesWith_0 : decode cX1_copiesWith 0 = .ok (.iconst 0, 1) := by decide +kernel
theorem dX1_copiesWith_1 : decode cX1_copiesWith 1 = .ok (.istore_n 2, 1) := by decide +kernel
theorem dX1_copiesWith_2 : decode cX1_copiesWith 2 = .ok (.iconst 0, 1) := by decide +kernel
theorem dX1_copiesWith_3 : decode cX1_copiesWith 3 = .ok (.istore_n 3, 1) := by decide +kernel
theorem dX1_copiesWith_4 : decode cX1_copiesWith 4 = .ok (.iload_n 3, 1) := by decide +kernel
theorem dX1_copiesWith_5 : decode cX1_copiesWith 5 = .ok (.aload_n 0, 1) := by decide +kernel
theorem dX1_copiesWith_6 : decode cX1_copiesWith 6 = .ok (.getfield 58, 3) := by decide +kernel
theorem dX1_copiesWith_9 : decode cX1_copiesWith 9 = .ok (.if_icmp .ge 29, 3) := by decide +kernel
theorem dX1_copiesWith_12 : decode cX1_copiesWith 12 = .ok (.aload_n 0, 1) := by decide +kernel
theorem dX1_copiesWith_13 : decode cX1_copiesWith 13 = .ok (.getfield 17, 3) := by decide +kernel
theorem dX1_copiesWith_16 : decode cX1_copiesWith 16 = .ok (.iload_n 3, 1) := by decide +kernel
theorem dX1_copiesWith_17 : decode cX1_copiesWith 17 = .ok (.aaload, 1) := by decide +kernel
theorem dX1_copiesWith_18 : decode cX1_copiesWith 18 = .ok (.aload_n 0, 1) := by decide +kernel
theorem dX1_copiesWith_19 : decode cX1_copiesWith 19 = .ok (.getfield 24, 3) := by decide +kernel
theorem dX1_copiesWith_22 : decode cX1_copiesWith 22 = .ok (.iload_n 1, 1) := by decide +kernel
theorem dX1_copiesWith_23 : decode cX1_copiesWith 23 = .ok (.invokevirtual 132, 3) := by decide +kernel
theorem dX1_copiesWith_26 : decode cX1_copiesWith 26 = .ok (.ifCond .eq 6, 3) := by decide +kernel
theorem dX1_copiesWith_29 : decode cX1_copiesWith 29 = .ok (.iinc 2 1, 3) := by decide +kernel
theorem dX1_copiesWith_32 : decode cX1_copiesWith 32 = .ok (.iinc 3 1, 3) := by decide +kernel
theorem dX1_copiesWith_35 : decode cX1_copiesWith 35 = .ok (.goto (-31), 3) := by decide +kernel
theorem dX1_copiesWith_38 : decode cX1_copiesWith 38 = .ok (.iload_n 2, 1) := by decide +kernel
theorem dX1_copiesWith_39 : decode cX1_copiesWith 39 = .ok (.ireturn, 1) := by decide +kernel
theorem dX4_isThere_0 : decode cX4_isThere 0 = .ok (.iload_n 1, 1) := by decide +kernel
theorem dX4_isThere_1 : decode cX4_isThere 1 = .ok (.ifCond .lt 15, 3) := by decide +kernel
theorem dX4_isThere_4 : decode cX4_isThere 4 = .ok (.iload_n 1, 1) := by decide +kernel
theorem dX4_isThere_5 : decode cX4_isThere 5 = .ok (.aload_n 0, 1) := by decide +kernel
theorem dX4_isThere_6 : decode cX4_isThere 6 = .ok (.getfield 23, 3) := by decide +kernel
theorem dX4_isThere_9 : decode cX4_isThere 9 = .ok (.if_icmp .ge 7, 3) := by decide +kernel
theorem dX4_isThere_12 : decode cX4_isThere 12 = .ok (.iconst 1, 1) := by decide +kernel
theorem dX4_isThere_13 : decode cX4_isThere 13 = .ok (.goto 4, 3) := by decide +kernel
theorem dX4_isThere_16 : decode cX4_isThere 16 = .ok (.iconst 0, 1) := by decide +kernel
theorem dX4_isThere_17 : decode cX4_isThere 17 = .ok (.ireturn, 1) := by decide +kernel
theorem dX4_isLost_0 : decode cX4_isLost 0 = .ok (.aload_n 0, 1) := by decide +kernel
theorem dX4_isLost_1 : decode cX4_isLost 1 = .ok (.iload_n 1, 1) := by decide +kernel
theorem dX4_isLost_2 : decode cX4_isLost 2 = .ok (.invokevirtual 32, 3) := by decide +kernel
theorem dX4_isLost_5 : decode cX4_isLost 5 = .ok (.ifCond .eq 17, 3) := by decide +kernel
theorem dX4_isLost_8 : decode cX4_isLost 8 = .ok (.aload_n 0, 1) := by decide +kernel
theorem dX4_isLost_9 : decode cX4_isLost 9 = .ok (.getfield 11, 3) := by decide +kernel
theorem dX4_isLost_12 : decode cX4_isLost 12 = .ok (.iload_n 1, 1) := by decide +kernel
theorem dX4_isLost_13 : decode cX4_isLost 13 = .ok (.iaload, 1) := by decide +kernel
theorem dX4_isLost_14 : decode cX4_isLost 14 = .ok (.iconst 2, 1) := by decide +kernel
theorem dX4_isLost_15 : decode cX4_isLost 15 = .ok (.if_icmp .ne 7, 3) := by decide +kernel
theorem dX4_isLost_18 : decode cX4_isLost 18 = .ok (.iconst 1, 1) := by decide +kernel
theorem dX4_isLost_19 : decode cX4_isLost 19 = .ok (.goto 4, 3) := by decide +kernel
theorem dX4_isLost_22 : decode cX4_isLost 22 = .ok (.iconst 0, 1) := by decide +kernel
theorem dX4_isLost_23 : decode cX4_isLost 23 = .ok (.ireturn, 1) := by decide +kernel
theorem dX1_isKnown_0 : decode cX1_isKnown 0 = .ok (.aload_n 0, 1) := by decide +kernel
theorem dX1_isKnown_1 : decode cX1_isKnown 1 = .ok (.getfield 31, 3) := by decide +kernel
theorem dX1_isKnown_4 : decode cX1_isKnown 4 = .ok (.aload_n 0, 1) := by decide +kernel
theorem dX1_isKnown_5 : decode cX1_isKnown 5 = .ok (.iload_n 1, 1) := by decide +kernel
theorem dX1_isKnown_6 : decode cX1_isKnown 6 = .ok (.invokevirtual 124, 3) := by decide +kernel
theorem dX1_isKnown_9 : decode cX1_isKnown 9 = .ok (.invokevirtual 136, 3) := by decide +kernel
theorem dX1_isKnown_12 : decode cX1_isKnown 12 = .ok (.ifCond .eq 11, 3) := by decide +kernel
theorem dX1_isKnown_15 : decode cX1_isKnown 15 = .ok (.aload_n 0, 1) := by decide +kernel
theorem dX1_isKnown_16 : decode cX1_isKnown 16 = .ok (.iload_n 1, 1) := by decide +kernel
theorem dX1_isKnown_17 : decode cX1_isKnown 17 = .ok (.invokevirtual 140, 3) := by decide +kernel
theorem dX1_isKnown_20 : decode cX1_isKnown 20 = .ok (.ifCond .le 7, 3) := by decide +kernel
theorem dX1_isKnown_23 : decode cX1_isKnown 23 = .ok (.iconst 1, 1) := by decide +kernel
theorem dX1_isKnown_24 : decode cX1_isKnown 24 = .ok (.goto 4, 3) := by decide +kernel
theorem dX1_isKnown_27 : decode cX1_isKnown 27 = .ok (.iconst 0, 1) := by decide +kernel
theorem dX1_isKnown_28 : decode cX1_isKnown 28 = .ok (.ireturn, 1) := by decide +kernel
theorem dX1_unknownFrom_0 : decode cX1_unknownFrom 0 = .ok (.iconst 0, 1) := by decide +kernel
theorem dX1_unknownFrom_1 : decode cX1_unknownFrom 1 = .ok (.istore_n 3, 1) := by decide +kernel
theorem dX1_unknownFrom_2 : decode cX1_unknownFrom 2 = .ok (.iload_n 1, 1) := by decide +kernel
theorem dX1_unknownFrom_3 : decode cX1_unknownFrom 3 = .ok (.istore 4, 2) := by decide +kernel
theorem dX1_unknownFrom_5 : decode cX1_unknownFrom 5 = .ok (.iload 4, 2) := by decide +kernel
theorem dX1_unknownFrom_7 : decode cX1_unknownFrom 7 = .ok (.iload_n 1, 1) := by decide +kernel
theorem dX1_unknownFrom_8 : decode cX1_unknownFrom 8 = .ok (.iload_n 2, 1) := by decide +kernel
theorem dX1_unknownFrom_9 : decode cX1_unknownFrom 9 = .ok (.iadd, 1) := by decide +kernel
theorem dX1_unknownFrom_10 : decode cX1_unknownFrom 10 = .ok (.if_icmp .ge 21, 3) := by decide +kernel
theorem dX1_unknownFrom_13 : decode cX1_unknownFrom 13 = .ok (.aload_n 0, 1) := by decide +kernel
theorem dX1_unknownFrom_14 : decode cX1_unknownFrom 14 = .ok (.iload 4, 2) := by decide +kernel
theorem dX1_unknownFrom_16 : decode cX1_unknownFrom 16 = .ok (.invokevirtual 143, 3) := by decide +kernel
theorem dX1_unknownFrom_19 : decode cX1_unknownFrom 19 = .ok (.ifCond .ne 6, 3) := by decide +kernel
theorem dX1_unknownFrom_22 : decode cX1_unknownFrom 22 = .ok (.iinc 3 1, 3) := by decide +kernel
theorem dX1_unknownFrom_25 : decode cX1_unknownFrom 25 = .ok (.iinc 4 1, 3) := by decide +kernel
theorem dX1_unknownFrom_28 : decode cX1_unknownFrom 28 = .ok (.goto (-23), 3) := by decide +kernel
theorem dX1_unknownFrom_31 : decode cX1_unknownFrom 31 = .ok (.iload_n 3, 1) := by decide +kernel
theorem dX1_unknownFrom_32 : decode cX1_unknownFrom 32 = .ok (.ireturn, 1) := by decide +kernel
theorem dX1_wouldBeUnknown_0 : decode cX1_wouldBeUnknown 0 = .ok (.aload_n 0, 1) := by decide +kernel
theorem dX1_wouldBeUnknown_1 : decode cX1_wouldBeUnknown 1 = .ok (.getfield 31, 3) := by decide +kernel
theorem dX1_wouldBeUnknown_4 : decode cX1_wouldBeUnknown 4 = .ok (.iload_n 1, 1) := by decide +kernel
theorem dX1_wouldBeUnknown_5 : decode cX1_wouldBeUnknown 5 = .ok (.invokevirtual 136, 3) := by decide +kernel
theorem dX1_wouldBeUnknown_8 : decode cX1_wouldBeUnknown 8 = .ok (.ifCond .eq 5, 3) := by decide +kernel
theorem dX1_wouldBeUnknown_11 : decode cX1_wouldBeUnknown 11 = .ok (.iconst 0, 1) := by decide +kernel
theorem dX1_wouldBeUnknown_12 : decode cX1_wouldBeUnknown 12 = .ok (.ireturn, 1) := by decide +kernel
theorem dX1_wouldBeUnknown_13 : decode cX1_wouldBeUnknown 13 = .ok (.iconst 0, 1) := by decide +kernel
theorem dX1_wouldBeUnknown_14 : decode cX1_wouldBeUnknown 14 = .ok (.istore_n 2, 1) := by decide +kernel
theorem dX1_wouldBeUnknown_15 : decode cX1_wouldBeUnknown 15 = .ok (.iload_n 1, 1) := by decide +kernel
theorem dX1_wouldBeUnknown_16 : decode cX1_wouldBeUnknown 16 = .ok (.aload_n 0, 1) := by decide +kernel
theorem dX1_wouldBeUnknown_17 : decode cX1_wouldBeUnknown 17 = .ok (.getfield 48, 3) := by decide +kernel
theorem dX1_wouldBeUnknown_20 : decode cX1_wouldBeUnknown 20 = .ok (.imul, 1) := by decide +kernel
theorem dX1_wouldBeUnknown_21 : decode cX1_wouldBeUnknown 21 = .ok (.istore_n 3, 1) := by decide +kernel
theorem dX1_wouldBeUnknown_22 : decode cX1_wouldBeUnknown 22 = .ok (.iload_n 3, 1) := by decide +kernel
theorem dX1_wouldBeUnknown_23 : decode cX1_wouldBeUnknown 23 = .ok (.aload_n 0, 1) := by decide +kernel
theorem dX1_wouldBeUnknown_24 : decode cX1_wouldBeUnknown 24 = .ok (.iload_n 1, 1) := by decide +kernel
theorem dX1_wouldBeUnknown_25 : decode cX1_wouldBeUnknown 25 = .ok (.invokevirtual 146, 3) := by decide +kernel
theorem dX1_wouldBeUnknown_28 : decode cX1_wouldBeUnknown 28 = .ok (.iadd, 1) := by decide +kernel
theorem dX1_wouldBeUnknown_29 : decode cX1_wouldBeUnknown 29 = .ok (.istore 4, 2) := by decide +kernel
theorem dX1_wouldBeUnknown_31 : decode cX1_wouldBeUnknown 31 = .ok (.iload_n 3, 1) := by decide +kernel
theorem dX1_wouldBeUnknown_32 : decode cX1_wouldBeUnknown 32 = .ok (.istore 5, 2) := by decide +kernel
theorem dX1_wouldBeUnknown_34 : decode cX1_wouldBeUnknown 34 = .ok (.iload 5, 2) := by decide +kernel
theorem dX1_wouldBeUnknown_36 : decode cX1_wouldBeUnknown 36 = .ok (.iload 4, 2) := by decide +kernel
theorem dX1_wouldBeUnknown_38 : decode cX1_wouldBeUnknown 38 = .ok (.if_icmp .ge 21, 3) := by decide +kernel
theorem dX1_wouldBeUnknown_41 : decode cX1_wouldBeUnknown 41 = .ok (.aload_n 0, 1) := by decide +kernel
theorem dX1_wouldBeUnknown_42 : decode cX1_wouldBeUnknown 42 = .ok (.iload 5, 2) := by decide +kernel
theorem dX1_wouldBeUnknown_44 : decode cX1_wouldBeUnknown 44 = .ok (.invokevirtual 140, 3) := by decide +kernel
theorem dX1_wouldBeUnknown_47 : decode cX1_wouldBeUnknown 47 = .ok (.ifCond .ne 6, 3) := by decide +kernel
theorem dX1_wouldBeUnknown_50 : decode cX1_wouldBeUnknown 50 = .ok (.iinc 2 1, 3) := by decide +kernel
theorem dX1_wouldBeUnknown_53 : decode cX1_wouldBeUnknown 53 = .ok (.iinc 5 1, 3) := by decide +kernel
theorem dX1_wouldBeUnknown_56 : decode cX1_wouldBeUnknown 56 = .ok (.goto (-22), 3) := by decide +kernel
theorem dX1_wouldBeUnknown_59 : decode cX1_wouldBeUnknown 59 = .ok (.iload_n 2, 1) := by decide +kernel
theorem dX1_wouldBeUnknown_60 : decode cX1_wouldBeUnknown 60 = .ok (.ireturn, 1) := by decide +kernel
theorem dX1_copiesOf_0 : decode cX1_copiesOf 0 = .ok (.iconst 0, 1) := by decide +kernel
theorem dX1_copiesOf_1 : decode cX1_copiesOf 1 = .ok (.istore_n 2, 1) := by decide +kernel
theorem dX1_copiesOf_2 : decode cX1_copiesOf 2 = .ok (.iconst 0, 1) := by decide +kernel
theorem dX1_copiesOf_3 : decode cX1_copiesOf 3 = .ok (.istore_n 3, 1) := by decide +kernel
theorem dX1_copiesOf_4 : decode cX1_copiesOf 4 = .ok (.iload_n 3, 1) := by decide +kernel
theorem dX1_copiesOf_5 : decode cX1_copiesOf 5 = .ok (.aload_n 0, 1) := by decide +kernel
theorem dX1_copiesOf_6 : decode cX1_copiesOf 6 = .ok (.getfield 58, 3) := by decide +kernel
theorem dX1_copiesOf_9 : decode cX1_copiesOf 9 = .ok (.if_icmp .ge 25, 3) := by decide +kernel
theorem dX1_copiesOf_12 : decode cX1_copiesOf 12 = .ok (.aload_n 0, 1) := by decide +kernel
theorem dX1_copiesOf_13 : decode cX1_copiesOf 13 = .ok (.getfield 17, 3) := by decide +kernel
theorem dX1_copiesOf_16 : decode cX1_copiesOf 16 = .ok (.iload_n 3, 1) := by decide +kernel
theorem dX1_copiesOf_17 : decode cX1_copiesOf 17 = .ok (.aaload, 1) := by decide +kernel
theorem dX1_copiesOf_18 : decode cX1_copiesOf 18 = .ok (.getfield 149, 3) := by decide +kernel
theorem dX1_copiesOf_21 : decode cX1_copiesOf 21 = .ok (.iload_n 1, 1) := by decide +kernel
theorem dX1_copiesOf_22 : decode cX1_copiesOf 22 = .ok (.if_icmp .ne 6, 3) := by decide +kernel
theorem dX1_copiesOf_25 : decode cX1_copiesOf 25 = .ok (.iinc 2 1, 3) := by decide +kernel
theorem dX1_copiesOf_28 : decode cX1_copiesOf 28 = .ok (.iinc 3 1, 3) := by decide +kernel
theorem dX1_copiesOf_31 : decode cX1_copiesOf 31 = .ok (.goto (-27), 3) := by decide +kernel
theorem dX1_copiesOf_34 : decode cX1_copiesOf 34 = .ok (.iload_n 2, 1) := by decide +kernel
theorem dX1_copiesOf_35 : decode cX1_copiesOf 35 = .ok (.ireturn, 1) := by decide +kernel
theorem dX1_knownByAlone_0 : decode cX1_knownByAlone 0 = .ok (.iconst 0, 1) := by decide +kernel
theorem dX1_knownByAlone_1 : decode cX1_knownByAlone 1 = .ok (.istore_n 2, 1) := by decide +kernel
theorem dX1_knownByAlone_2 : decode cX1_knownByAlone 2 = .ok (.aload_n 1, 1) := by decide +kernel
theorem dX1_knownByAlone_3 : decode cX1_knownByAlone 3 = .ok (.getfield 152, 3) := by decide +kernel
theorem dX1_knownByAlone_6 : decode cX1_knownByAlone 6 = .ok (.istore_n 3, 1) := by decide +kernel
theorem dX1_knownByAlone_7 : decode cX1_knownByAlone 7 = .ok (.iload_n 3, 1) := by decide +kernel
theorem dX1_knownByAlone_8 : decode cX1_knownByAlone 8 = .ok (.aload_n 1, 1) := by decide +kernel
theorem dX1_knownByAlone_9 : decode cX1_knownByAlone 9 = .ok (.getfield 153, 3) := by decide +kernel
theorem dX1_knownByAlone_12 : decode cX1_knownByAlone 12 = .ok (.if_icmp .gt 48, 3) := by decide +kernel
theorem dX1_knownByAlone_15 : decode cX1_knownByAlone 15 = .ok (.aload_n 1, 1) := by decide +kernel
theorem dX1_knownByAlone_16 : decode cX1_knownByAlone 16 = .ok (.aload_n 0, 1) := by decide +kernel
theorem dX1_knownByAlone_17 : decode cX1_knownByAlone 17 = .ok (.getfield 24, 3) := by decide +kernel
theorem dX1_knownByAlone_20 : decode cX1_knownByAlone 20 = .ok (.iload_n 3, 1) := by decide +kernel
theorem dX1_knownByAlone_21 : decode cX1_knownByAlone 21 = .ok (.invokevirtual 132, 3) := by decide +kernel
theorem dX1_knownByAlone_24 : decode cX1_knownByAlone 24 = .ok (.ifCond .eq 30, 3) := by decide +kernel
theorem dX1_knownByAlone_27 : decode cX1_knownByAlone 27 = .ok (.aload_n 0, 1) := by decide +kernel
theorem dX1_knownByAlone_28 : decode cX1_knownByAlone 28 = .ok (.getfield 31, 3) := by decide +kernel
theorem dX1_knownByAlone_31 : decode cX1_knownByAlone 31 = .ok (.aload_n 0, 1) := by decide +kernel
theorem dX1_knownByAlone_32 : decode cX1_knownByAlone 32 = .ok (.iload_n 3, 1) := by decide +kernel
theorem dX1_knownByAlone_33 : decode cX1_knownByAlone 33 = .ok (.invokevirtual 124, 3) := by decide +kernel
theorem dX1_knownByAlone_36 : decode cX1_knownByAlone 36 = .ok (.invokevirtual 136, 3) := by decide +kernel
theorem dX1_knownByAlone_39 : decode cX1_knownByAlone 39 = .ok (.ifCond .eq 15, 3) := by decide +kernel
theorem dX1_knownByAlone_42 : decode cX1_knownByAlone 42 = .ok (.aload_n 0, 1) := by decide +kernel
theorem dX1_knownByAlone_43 : decode cX1_knownByAlone 43 = .ok (.iload_n 3, 1) := by decide +kernel
theorem dX1_knownByAlone_44 : decode cX1_knownByAlone 44 = .ok (.invokevirtual 140, 3) := by decide +kernel
theorem dX1_knownByAlone_47 : decode cX1_knownByAlone 47 = .ok (.iconst 1, 1) := by decide +kernel
theorem dX1_knownByAlone_48 : decode cX1_knownByAlone 48 = .ok (.if_icmp .ne 6, 3) := by decide +kernel
theorem dX1_knownByAlone_51 : decode cX1_knownByAlone 51 = .ok (.iinc 2 1, 3) := by decide +kernel
theorem dX1_knownByAlone_54 : decode cX1_knownByAlone 54 = .ok (.iinc 3 1, 3) := by decide +kernel
theorem dX1_knownByAlone_57 : decode cX1_knownByAlone 57 = .ok (.goto (-50), 3) := by decide +kernel
theorem dX1_knownByAlone_60 : decode cX1_knownByAlone 60 = .ok (.iload_n 2, 1) := by decide +kernel
theorem dX1_knownByAlone_61 : decode cX1_knownByAlone 61 = .ok (.ireturn, 1) := by decide +kernel
theorem dX3_draw_0 : decode cX3_draw 0 = .ok (.aload_n 0, 1) := by decide +kernel
theorem dX3_draw_1 : decode cX3_draw 1 = .ok (.aload_n 2, 1) := by decide +kernel
theorem dX3_draw_2 : decode cX3_draw 2 = .ok (.getfield 27, 3) := by decide +kernel
theorem dX3_draw_5 : decode cX3_draw 5 = .ok (.putfield 9, 3) := by decide +kernel
theorem dX3_draw_8 : decode cX3_draw 8 = .ok (.aload_n 0, 1) := by decide +kernel
theorem dX3_draw_9 : decode cX3_draw 9 = .ok (.iload_n 3, 1) := by decide +kernel
theorem dX3_draw_10 : decode cX3_draw 10 = .ok (.putfield 15, 3) := by decide +kernel
theorem dX3_draw_13 : decode cX3_draw 13 = .ok (.aload_n 0, 1) := by decide +kernel
theorem dX3_draw_14 : decode cX3_draw 14 = .ok (.iconst 0, 1) := by decide +kernel
theorem dX3_draw_15 : decode cX3_draw 15 = .ok (.putfield 18, 3) := by decide +kernel
theorem dX3_draw_18 : decode cX3_draw 18 = .ok (.aload_n 0, 1) := by decide +kernel
theorem dX3_draw_19 : decode cX3_draw 19 = .ok (.iconst (-1), 1) := by decide +kernel
theorem dX3_draw_20 : decode cX3_draw 20 = .ok (.putfield 21, 3) := by decide +kernel
theorem dX3_draw_23 : decode cX3_draw 23 = .ok (.aload_n 0, 1) := by decide +kernel
theorem dX3_draw_24 : decode cX3_draw 24 = .ok (.iconst 0, 1) := by decide +kernel
theorem dX3_draw_25 : decode cX3_draw 25 = .ok (.putfield 24, 3) := by decide +kernel
theorem dX3_draw_28 : decode cX3_draw 28 = .ok (.aload_n 2, 1) := by decide +kernel
theorem dX3_draw_29 : decode cX3_draw 29 = .ok (.getfield 32, 3) := by decide +kernel
theorem dX3_draw_32 : decode cX3_draw 32 = .ok (.istore 4, 2) := by decide +kernel
theorem dX3_draw_34 : decode cX3_draw 34 = .ok (.iload 4, 2) := by decide +kernel
theorem dX3_draw_36 : decode cX3_draw 36 = .ok (.aload_n 2, 1) := by decide +kernel
theorem dX3_draw_37 : decode cX3_draw 37 = .ok (.getfield 32, 3) := by decide +kernel
theorem dX3_draw_40 : decode cX3_draw 40 = .ok (.aload_n 2, 1) := by decide +kernel
theorem dX3_draw_41 : decode cX3_draw 41 = .ok (.getfield 33, 3) := by decide +kernel
theorem dX3_draw_44 : decode cX3_draw 44 = .ok (.iadd, 1) := by decide +kernel
theorem dX3_draw_45 : decode cX3_draw 45 = .ok (.if_icmp .ge 46, 3) := by decide +kernel
theorem dX3_draw_48 : decode cX3_draw 48 = .ok (.aload_n 1, 1) := by decide +kernel
theorem dX3_draw_49 : decode cX3_draw 49 = .ok (.getfield 34, 3) := by decide +kernel
theorem dX3_draw_52 : decode cX3_draw 52 = .ok (.iload 4, 2) := by decide +kernel
theorem dX3_draw_54 : decode cX3_draw 54 = .ok (.baload, 1) := by decide +kernel
theorem dX3_draw_55 : decode cX3_draw 55 = .ok (.ifCond .ne 30, 3) := by decide +kernel
theorem dX3_draw_58 : decode cX3_draw 58 = .ok (.aload_n 0, 1) := by decide +kernel
theorem dX3_draw_59 : decode cX3_draw 59 = .ok (.aload_n 0, 1) := by decide +kernel
theorem dX3_draw_60 : decode cX3_draw 60 = .ok (.getfield 21, 3) := by decide +kernel
theorem dX3_draw_63 : decode cX3_draw 63 = .ok (.iconst (-1), 1) := by decide +kernel
theorem dX3_draw_64 : decode cX3_draw 64 = .ok (.if_icmp .ne 8, 3) := by decide +kernel
theorem dX3_draw_67 : decode cX3_draw 67 = .ok (.iload 4, 2) := by decide +kernel
theorem dX3_draw_69 : decode cX3_draw 69 = .ok (.goto 7, 3) := by decide +kernel
theorem dX3_draw_72 : decode cX3_draw 72 = .ok (.aload_n 0, 1) := by decide +kernel
theorem dX3_draw_73 : decode cX3_draw 73 = .ok (.getfield 18, 3) := by decide +kernel
theorem dX3_draw_76 : decode cX3_draw 76 = .ok (.putfield 18, 3) := by decide +kernel
theorem dX3_draw_79 : decode cX3_draw 79 = .ok (.aload_n 0, 1) := by decide +kernel
theorem dX3_draw_80 : decode cX3_draw 80 = .ok (.iload 4, 2) := by decide +kernel
theorem dX3_draw_82 : decode cX3_draw 82 = .ok (.putfield 21, 3) := by decide +kernel
theorem dX3_draw_85 : decode cX3_draw 85 = .ok (.iinc 4 1, 3) := by decide +kernel
theorem dX3_draw_88 : decode cX3_draw 88 = .ok (.goto (-54), 3) := by decide +kernel
theorem dX3_draw_91 : decode cX3_draw 91 = .ok (.aload_n 2, 1) := by decide +kernel
theorem dX3_draw_92 : decode cX3_draw 92 = .ok (.getfield 32, 3) := by decide +kernel
theorem dX3_draw_95 : decode cX3_draw 95 = .ok (.istore 4, 2) := by decide +kernel
theorem dX3_draw_97 : decode cX3_draw 97 = .ok (.iload 4, 2) := by decide +kernel
theorem dX3_draw_99 : decode cX3_draw 99 = .ok (.aload_n 2, 1) := by decide +kernel
theorem dX3_draw_100 : decode cX3_draw 100 = .ok (.getfield 32, 3) := by decide +kernel
theorem dX3_draw_103 : decode cX3_draw 103 = .ok (.aload_n 2, 1) := by decide +kernel
theorem dX3_draw_104 : decode cX3_draw 104 = .ok (.getfield 33, 3) := by decide +kernel
theorem dX3_draw_107 : decode cX3_draw 107 = .ok (.iadd, 1) := by decide +kernel
theorem dX3_draw_108 : decode cX3_draw 108 = .ok (.if_icmp .ge 60, 3) := by decide +kernel
theorem dX3_draw_111 : decode cX3_draw 111 = .ok (.aload_n 0, 1) := by decide +kernel
theorem dX3_draw_112 : decode cX3_draw 112 = .ok (.dup, 1) := by decide +kernel
theorem dX3_draw_113 : decode cX3_draw 113 = .ok (.getfield 24, 3) := by decide +kernel
theorem dX3_draw_116 : decode cX3_draw 116 = .ok (.aload_n 0, 1) := by decide +kernel
theorem dX3_draw_117 : decode cX3_draw 117 = .ok (.aload_n 1, 1) := by decide +kernel
theorem dX3_draw_118 : decode cX3_draw 118 = .ok (.iload 4, 2) := by decide +kernel
theorem dX3_draw_120 : decode cX3_draw 120 = .ok (.invokevirtual 40, 3) := by decide +kernel
theorem dX3_draw_123 : decode cX3_draw 123 = .ok (.ifCond .eq 7, 3) := by decide +kernel
theorem dX3_draw_126 : decode cX3_draw 126 = .ok (.iconst 1, 1) := by decide +kernel
theorem dX3_draw_127 : decode cX3_draw 127 = .ok (.goto 4, 3) := by decide +kernel
theorem dX3_draw_130 : decode cX3_draw 130 = .ok (.iconst 0, 1) := by decide +kernel
theorem dX3_draw_131 : decode cX3_draw 131 = .ok (.iadd, 1) := by decide +kernel
theorem dX3_draw_132 : decode cX3_draw 132 = .ok (.putfield 24, 3) := by decide +kernel
theorem dX3_draw_135 : decode cX3_draw 135 = .ok (.aload_n 0, 1) := by decide +kernel
theorem dX3_draw_136 : decode cX3_draw 136 = .ok (.dup, 1) := by decide +kernel
theorem dX3_draw_137 : decode cX3_draw 137 = .ok (.getfield 24, 3) := by decide +kernel
theorem dX3_draw_140 : decode cX3_draw 140 = .ok (.aload_n 0, 1) := by decide +kernel
theorem dX3_draw_141 : decode cX3_draw 141 = .ok (.getfield 15, 3) := by decide +kernel
theorem dX3_draw_144 : decode cX3_draw 144 = .ok (.ifCond .ne 13, 3) := by decide +kernel
theorem dX3_draw_147 : decode cX3_draw 147 = .ok (.aload_n 1, 1) := by decide +kernel
theorem dX3_draw_148 : decode cX3_draw 148 = .ok (.getfield 44, 3) := by decide +kernel
theorem dX3_draw_151 : decode cX3_draw 151 = .ok (.iload 4, 2) := by decide +kernel
theorem dX3_draw_153 : decode cX3_draw 153 = .ok (.iaload, 1) := by decide +kernel
theorem dX3_draw_154 : decode cX3_draw 154 = .ok (.goto 4, 3) := by decide +kernel
theorem dX3_draw_157 : decode cX3_draw 157 = .ok (.iconst 0, 1) := by decide +kernel
theorem dX3_draw_158 : decode cX3_draw 158 = .ok (.iadd, 1) := by decide +kernel
theorem dX3_draw_159 : decode cX3_draw 159 = .ok (.putfield 24, 3) := by decide +kernel
theorem dX3_draw_162 : decode cX3_draw 162 = .ok (.iinc 4 1, 3) := by decide +kernel
theorem dX3_draw_165 : decode cX3_draw 165 = .ok (.goto (-68), 3) := by decide +kernel
theorem dX3_draw_168 : decode cX3_draw 168 = .ok (.return_, 1) := by decide +kernel
theorem dX1_copyReason_0 : decode cX1_copyReason 0 = .ok (.iload_n 1, 1) := by decide +kernel
theorem dX1_copyReason_1 : decode cX1_copyReason 1 = .ok (.iconst 1, 1) := by decide +kernel
theorem dX1_copyReason_2 : decode cX1_copyReason 2 = .ok (.if_icmp .lt 26, 3) := by decide +kernel
theorem dX1_copyReason_5 : decode cX1_copyReason 5 = .ok (.iload_n 1, 1) := by decide +kernel
theorem dX1_copyReason_6 : decode cX1_copyReason 6 = .ok (.aload_n 0, 1) := by decide +kernel
theorem dX1_copyReason_7 : decode cX1_copyReason 7 = .ok (.getfield 55, 3) := by decide +kernel
theorem dX1_copyReason_10 : decode cX1_copyReason 10 = .ok (.if_icmp .gt 18, 3) := by decide +kernel
theorem dX1_copyReason_13 : decode cX1_copyReason 13 = .ok (.aload_n 0, 1) := by decide +kernel
theorem dX1_copyReason_14 : decode cX1_copyReason 14 = .ok (.getfield 11, 3) := by decide +kernel
theorem dX1_copyReason_17 : decode cX1_copyReason 17 = .ok (.iload_n 1, 1) := by decide +kernel
theorem dX1_copyReason_18 : decode cX1_copyReason 18 = .ok (.iconst 1, 1) := by decide +kernel
theorem dX1_copyReason_19 : decode cX1_copyReason 19 = .ok (.isub, 1) := by decide +kernel
theorem dX1_copyReason_20 : decode cX1_copyReason 20 = .ok (.aaload, 1) := by decide +kernel
theorem dX1_copyReason_21 : decode cX1_copyReason 21 = .ok (.getfield 84, 3) := by decide +kernel
theorem dX1_copyReason_24 : decode cX1_copyReason 24 = .ok (.iconst 1, 1) := by decide +kernel
theorem dX1_copyReason_25 : decode cX1_copyReason 25 = .ok (.if_icmp .eq 5, 3) := by decide +kernel
theorem dX1_copyReason_28 : decode cX1_copyReason 28 = .ok (.iconst 1, 1) := by decide +kernel
theorem dX1_copyReason_29 : decode cX1_copyReason 29 = .ok (.ireturn, 1) := by decide +kernel
theorem dX1_copyReason_30 : decode cX1_copyReason 30 = .ok (.aload_n 0, 1) := by decide +kernel
theorem dX1_copyReason_31 : decode cX1_copyReason 31 = .ok (.getfield 43, 3) := by decide +kernel
theorem dX1_copyReason_34 : decode cX1_copyReason 34 = .ok (.aload_n 0, 1) := by decide +kernel
theorem dX1_copyReason_35 : decode cX1_copyReason 35 = .ok (.getfield 24, 3) := by decide +kernel
theorem dX1_copyReason_38 : decode cX1_copyReason 38 = .ok (.aload_n 0, 1) := by decide +kernel
theorem dX1_copyReason_39 : decode cX1_copyReason 39 = .ok (.getfield 11, 3) := by decide +kernel
theorem dX1_copyReason_42 : decode cX1_copyReason 42 = .ok (.iload_n 1, 1) := by decide +kernel
theorem dX1_copyReason_43 : decode cX1_copyReason 43 = .ok (.iconst 1, 1) := by decide +kernel
theorem dX1_copyReason_44 : decode cX1_copyReason 44 = .ok (.isub, 1) := by decide +kernel
theorem dX1_copyReason_45 : decode cX1_copyReason 45 = .ok (.aaload, 1) := by decide +kernel
theorem dX1_copyReason_46 : decode cX1_copyReason 46 = .ok (.iload_n 2, 1) := by decide +kernel
theorem dX1_copyReason_47 : decode cX1_copyReason 47 = .ok (.invokevirtual 156, 3) := by decide +kernel
theorem dX1_copyReason_50 : decode cX1_copyReason 50 = .ok (.aload_n 0, 1) := by decide +kernel
theorem dX1_copyReason_51 : decode cX1_copyReason 51 = .ok (.getfield 43, 3) := by decide +kernel
theorem dX1_copyReason_54 : decode cX1_copyReason 54 = .ok (.getfield 152, 3) := by decide +kernel
theorem dX1_copyReason_57 : decode cX1_copyReason 57 = .ok (.istore_n 3, 1) := by decide +kernel
theorem dX1_copyReason_58 : decode cX1_copyReason 58 = .ok (.iload_n 3, 1) := by decide +kernel
theorem dX1_copyReason_59 : decode cX1_copyReason 59 = .ok (.aload_n 0, 1) := by decide +kernel
theorem dX1_copyReason_60 : decode cX1_copyReason 60 = .ok (.getfield 43, 3) := by decide +kernel
theorem dX1_copyReason_63 : decode cX1_copyReason 63 = .ok (.getfield 153, 3) := by decide +kernel
theorem dX1_copyReason_66 : decode cX1_copyReason 66 = .ok (.if_icmp .gt 34, 3) := by decide +kernel
theorem dX1_copyReason_69 : decode cX1_copyReason 69 = .ok (.aload_n 0, 1) := by decide +kernel
theorem dX1_copyReason_70 : decode cX1_copyReason 70 = .ok (.getfield 43, 3) := by decide +kernel
theorem dX1_copyReason_73 : decode cX1_copyReason 73 = .ok (.aload_n 0, 1) := by decide +kernel
theorem dX1_copyReason_74 : decode cX1_copyReason 74 = .ok (.getfield 24, 3) := by decide +kernel
theorem dX1_copyReason_77 : decode cX1_copyReason 77 = .ok (.iload_n 3, 1) := by decide +kernel
theorem dX1_copyReason_78 : decode cX1_copyReason 78 = .ok (.invokevirtual 132, 3) := by decide +kernel
theorem dX1_copyReason_81 : decode cX1_copyReason 81 = .ok (.ifCond .eq 13, 3) := by decide +kernel
theorem dX1_copyReason_84 : decode cX1_copyReason 84 = .ok (.aload_n 0, 1) := by decide +kernel
theorem dX1_copyReason_85 : decode cX1_copyReason 85 = .ok (.iload_n 3, 1) := by decide +kernel
theorem dX1_copyReason_86 : decode cX1_copyReason 86 = .ok (.invokevirtual 143, 3) := by decide +kernel
theorem dX1_copyReason_89 : decode cX1_copyReason 89 = .ok (.ifCond .ne 5, 3) := by decide +kernel
theorem dX1_copyReason_92 : decode cX1_copyReason 92 = .ok (.iconst 2, 1) := by decide +kernel
theorem dX1_copyReason_93 : decode cX1_copyReason 93 = .ok (.ireturn, 1) := by decide +kernel
theorem dX1_copyReason_94 : decode cX1_copyReason 94 = .ok (.iinc 3 1, 3) := by decide +kernel
theorem dX1_copyReason_97 : decode cX1_copyReason 97 = .ok (.goto (-39), 3) := by decide +kernel
theorem dX1_copyReason_100 : decode cX1_copyReason 100 = .ok (.aload_n 0, 1) := by decide +kernel
theorem dX1_copyReason_101 : decode cX1_copyReason 101 = .ok (.getfield 58, 3) := by decide +kernel
theorem dX1_copyReason_104 : decode cX1_copyReason 104 = .ok (.bipush 8, 2) := by decide +kernel
theorem dX1_copyReason_106 : decode cX1_copyReason 106 = .ok (.if_icmp .lt 7, 3) := by decide +kernel
theorem dX1_copyReason_109 : decode cX1_copyReason 109 = .ok (.iconst 3, 1) := by decide +kernel
theorem dX1_copyReason_110 : decode cX1_copyReason 110 = .ok (.goto 4, 3) := by decide +kernel
theorem dX1_copyReason_113 : decode cX1_copyReason 113 = .ok (.iconst 0, 1) := by decide +kernel
theorem dX1_copyReason_114 : decode cX1_copyReason 114 = .ok (.ireturn, 1) := by decide +kernel
theorem dX1_copiedWith_0 : decode cX1_copiedWith 0 = .ok (.aload_n 0, 1) := by decide +kernel
theorem dX1_copiedWith_1 : decode cX1_copiedWith 1 = .ok (.getfield 43, 3) := by decide +kernel
theorem dX1_copiedWith_4 : decode cX1_copiedWith 4 = .ok (.aload_n 0, 1) := by decide +kernel
theorem dX1_copiedWith_5 : decode cX1_copiedWith 5 = .ok (.getfield 24, 3) := by decide +kernel
theorem dX1_copiedWith_8 : decode cX1_copiedWith 8 = .ok (.aload_n 1, 1) := by decide +kernel
theorem dX1_copiedWith_9 : decode cX1_copiedWith 9 = .ok (.iload_n 2, 1) := by decide +kernel
theorem dX1_copiedWith_10 : decode cX1_copiedWith 10 = .ok (.invokevirtual 156, 3) := by decide +kernel
theorem dX1_copiedWith_13 : decode cX1_copiedWith 13 = .ok (.iconst 0, 1) := by decide +kernel
theorem dX1_copiedWith_14 : decode cX1_copiedWith 14 = .ok (.istore_n 3, 1) := by decide +kernel
theorem dX1_copiedWith_15 : decode cX1_copiedWith 15 = .ok (.aload_n 1, 1) := by decide +kernel
theorem dX1_copiedWith_16 : decode cX1_copiedWith 16 = .ok (.getfield 92, 3) := by decide +kernel
theorem dX1_copiedWith_19 : decode cX1_copiedWith 19 = .ok (.istore 4, 2) := by decide +kernel
theorem dX1_copiedWith_21 : decode cX1_copiedWith 21 = .ok (.iload 4, 2) := by decide +kernel
theorem dX1_copiedWith_23 : decode cX1_copiedWith 23 = .ok (.aload_n 1, 1) := by decide +kernel
theorem dX1_copiedWith_24 : decode cX1_copiedWith 24 = .ok (.getfield 92, 3) := by decide +kernel
theorem dX1_copiedWith_27 : decode cX1_copiedWith 27 = .ok (.aload_n 1, 1) := by decide +kernel
theorem dX1_copiedWith_28 : decode cX1_copiedWith 28 = .ok (.getfield 91, 3) := by decide +kernel
theorem dX1_copiedWith_31 : decode cX1_copiedWith 31 = .ok (.iadd, 1) := by decide +kernel
theorem dX1_copiedWith_32 : decode cX1_copiedWith 32 = .ok (.if_icmp .ge 37, 3) := by decide +kernel
theorem dX1_copiedWith_35 : decode cX1_copiedWith 35 = .ok (.aload_n 0, 1) := by decide +kernel
theorem dX1_copiedWith_36 : decode cX1_copiedWith 36 = .ok (.getfield 43, 3) := by decide +kernel
theorem dX1_copiedWith_39 : decode cX1_copiedWith 39 = .ok (.aload_n 0, 1) := by decide +kernel
theorem dX1_copiedWith_40 : decode cX1_copiedWith 40 = .ok (.getfield 24, 3) := by decide +kernel
theorem dX1_copiedWith_43 : decode cX1_copiedWith 43 = .ok (.iload 4, 2) := by decide +kernel
theorem dX1_copiedWith_45 : decode cX1_copiedWith 45 = .ok (.invokevirtual 132, 3) := by decide +kernel
theorem dX1_copiedWith_48 : decode cX1_copiedWith 48 = .ok (.ifCond .ne 12, 3) := by decide +kernel
theorem dX1_copiedWith_51 : decode cX1_copiedWith 51 = .ok (.aload_n 0, 1) := by decide +kernel
theorem dX1_copiedWith_52 : decode cX1_copiedWith 52 = .ok (.iload 4, 2) := by decide +kernel
theorem dX1_copiedWith_54 : decode cX1_copiedWith 54 = .ok (.invokevirtual 140, 3) := by decide +kernel
theorem dX1_copiedWith_57 : decode cX1_copiedWith 57 = .ok (.ifCond .le 6, 3) := by decide +kernel
theorem dX1_copiedWith_60 : decode cX1_copiedWith 60 = .ok (.iinc 3 1, 3) := by decide +kernel
theorem dX1_copiedWith_63 : decode cX1_copiedWith 63 = .ok (.iinc 4 1, 3) := by decide +kernel
theorem dX1_copiedWith_66 : decode cX1_copiedWith 66 = .ok (.goto (-45), 3) := by decide +kernel
theorem dX1_copiedWith_69 : decode cX1_copiedWith 69 = .ok (.iload_n 3, 1) := by decide +kernel
theorem dX1_copiedWith_70 : decode cX1_copiedWith 70 = .ok (.ireturn, 1) := by decide +kernel
theorem dX3_fee_0 : decode cX3_fee 0 = .ok (.iconst 3, 1) := by decide +kernel
theorem dX3_fee_1 : decode cX3_fee 1 = .ok (.aload_n 0, 1) := by decide +kernel
theorem dX3_fee_2 : decode cX3_fee 2 = .ok (.getfield 15, 3) := by decide +kernel
theorem dX3_fee_5 : decode cX3_fee 5 = .ok (.isub, 1) := by decide +kernel
theorem dX3_fee_6 : decode cX3_fee 6 = .ok (.ireturn, 1) := by decide +kernel
theorem dX1_makeCopy_0 : decode cX1_makeCopy 0 = .ok (.aload_n 0, 1) := by decide +kernel
theorem dX1_makeCopy_1 : decode cX1_makeCopy 1 = .ok (.getfield 58, 3) := by decide +kernel
theorem dX1_makeCopy_4 : decode cX1_makeCopy 4 = .ok (.bipush 8, 2) := by decide +kernel
theorem dX1_makeCopy_6 : decode cX1_makeCopy 6 = .ok (.if_icmp .ge 72, 3) := by decide +kernel
theorem dX1_makeCopy_9 : decode cX1_makeCopy 9 = .ok (.iload_n 1, 1) := by decide +kernel
theorem dX1_makeCopy_10 : decode cX1_makeCopy 10 = .ok (.iconst 1, 1) := by decide +kernel
theorem dX1_makeCopy_11 : decode cX1_makeCopy 11 = .ok (.if_icmp .lt 67, 3) := by decide +kernel
theorem dX1_makeCopy_14 : decode cX1_makeCopy 14 = .ok (.iload_n 1, 1) := by decide +kernel
theorem dX1_makeCopy_15 : decode cX1_makeCopy 15 = .ok (.aload_n 0, 1) := by decide +kernel
theorem dX1_makeCopy_16 : decode cX1_makeCopy 16 = .ok (.getfield 55, 3) := by decide +kernel
theorem dX1_makeCopy_19 : decode cX1_makeCopy 19 = .ok (.if_icmp .gt 59, 3) := by decide +kernel
theorem dX1_makeCopy_22 : decode cX1_makeCopy 22 = .ok (.aload_n 0, 1) := by decide +kernel
theorem dX1_makeCopy_23 : decode cX1_makeCopy 23 = .ok (.getfield 17, 3) := by decide +kernel
theorem dX1_makeCopy_26 : decode cX1_makeCopy 26 = .ok (.aload_n 0, 1) := by decide +kernel
theorem dX1_makeCopy_27 : decode cX1_makeCopy 27 = .ok (.getfield 58, 3) := by decide +kernel
theorem dX1_makeCopy_30 : decode cX1_makeCopy 30 = .ok (.aaload, 1) := by decide +kernel
theorem dX1_makeCopy_31 : decode cX1_makeCopy 31 = .ok (.aload_n 0, 1) := by decide +kernel
theorem dX1_makeCopy_32 : decode cX1_makeCopy 32 = .ok (.getfield 24, 3) := by decide +kernel
theorem dX1_makeCopy_35 : decode cX1_makeCopy 35 = .ok (.aload_n 0, 1) := by decide +kernel
theorem dX1_makeCopy_36 : decode cX1_makeCopy 36 = .ok (.getfield 11, 3) := by decide +kernel
theorem dX1_makeCopy_39 : decode cX1_makeCopy 39 = .ok (.iload_n 1, 1) := by decide +kernel
theorem dX1_makeCopy_40 : decode cX1_makeCopy 40 = .ok (.iconst 1, 1) := by decide +kernel
theorem dX1_makeCopy_41 : decode cX1_makeCopy 41 = .ok (.isub, 1) := by decide +kernel
theorem dX1_makeCopy_42 : decode cX1_makeCopy 42 = .ok (.aaload, 1) := by decide +kernel
theorem dX1_makeCopy_43 : decode cX1_makeCopy 43 = .ok (.iload_n 2, 1) := by decide +kernel
theorem dX1_makeCopy_44 : decode cX1_makeCopy 44 = .ok (.invokevirtual 156, 3) := by decide +kernel
theorem dX1_makeCopy_47 : decode cX1_makeCopy 47 = .ok (.aload_n 0, 1) := by decide +kernel
theorem dX1_makeCopy_48 : decode cX1_makeCopy 48 = .ok (.dup, 1) := by decide +kernel
theorem dX1_makeCopy_49 : decode cX1_makeCopy 49 = .ok (.getfield 61, 3) := by decide +kernel
theorem dX1_makeCopy_52 : decode cX1_makeCopy 52 = .ok (.aload_n 0, 1) := by decide +kernel
theorem dX1_makeCopy_53 : decode cX1_makeCopy 53 = .ok (.getfield 17, 3) := by decide +kernel
theorem dX1_makeCopy_56 : decode cX1_makeCopy 56 = .ok (.aload_n 0, 1) := by decide +kernel
theorem dX1_makeCopy_57 : decode cX1_makeCopy 57 = .ok (.getfield 58, 3) := by decide +kernel
theorem dX1_makeCopy_60 : decode cX1_makeCopy 60 = .ok (.aaload, 1) := by decide +kernel
theorem dX1_makeCopy_61 : decode cX1_makeCopy 61 = .ok (.invokevirtual 160, 3) := by decide +kernel
theorem dX1_makeCopy_64 : decode cX1_makeCopy 64 = .ok (.iadd, 1) := by decide +kernel
theorem dX1_makeCopy_65 : decode cX1_makeCopy 65 = .ok (.putfield 61, 3) := by decide +kernel
theorem dX1_makeCopy_68 : decode cX1_makeCopy 68 = .ok (.aload_n 0, 1) := by decide +kernel
theorem dX1_makeCopy_69 : decode cX1_makeCopy 69 = .ok (.dup, 1) := by decide +kernel
theorem dX1_makeCopy_70 : decode cX1_makeCopy 70 = .ok (.getfield 58, 3) := by decide +kernel
theorem dX1_makeCopy_73 : decode cX1_makeCopy 73 = .ok (.iconst 1, 1) := by decide +kernel
theorem dX1_makeCopy_74 : decode cX1_makeCopy 74 = .ok (.iadd, 1) := by decide +kernel
theorem dX1_makeCopy_75 : decode cX1_makeCopy 75 = .ok (.putfield 58, 3) := by decide +kernel
theorem dX1_makeCopy_78 : decode cX1_makeCopy 78 = .ok (.return_, 1) := by decide +kernel
theorem dX1_burnCopy_0 : decode cX1_burnCopy 0 = .ok (.iload_n 1, 1) := by decide +kernel
theorem dX1_burnCopy_1 : decode cX1_burnCopy 1 = .ok (.ifCond .lt 74, 3) := by decide +kernel
theorem dX1_burnCopy_4 : decode cX1_burnCopy 4 = .ok (.iload_n 1, 1) := by decide +kernel
theorem dX1_burnCopy_5 : decode cX1_burnCopy 5 = .ok (.aload_n 0, 1) := by decide +kernel
theorem dX1_burnCopy_6 : decode cX1_burnCopy 6 = .ok (.getfield 58, 3) := by decide +kernel
theorem dX1_burnCopy_9 : decode cX1_burnCopy 9 = .ok (.if_icmp .ge 66, 3) := by decide +kernel
theorem dX1_burnCopy_12 : decode cX1_burnCopy 12 = .ok (.aload_n 0, 1) := by decide +kernel
theorem dX1_burnCopy_13 : decode cX1_burnCopy 13 = .ok (.dup, 1) := by decide +kernel
theorem dX1_burnCopy_14 : decode cX1_burnCopy 14 = .ok (.getfield 64, 3) := by decide +kernel
theorem dX1_burnCopy_17 : decode cX1_burnCopy 17 = .ok (.aload_n 0, 1) := by decide +kernel
theorem dX1_burnCopy_18 : decode cX1_burnCopy 18 = .ok (.getfield 17, 3) := by decide +kernel
theorem dX1_burnCopy_21 : decode cX1_burnCopy 21 = .ok (.iload_n 1, 1) := by decide +kernel
theorem dX1_burnCopy_22 : decode cX1_burnCopy 22 = .ok (.aaload, 1) := by decide +kernel
theorem dX1_burnCopy_23 : decode cX1_burnCopy 23 = .ok (.invokevirtual 160, 3) := by decide +kernel
theorem dX1_burnCopy_26 : decode cX1_burnCopy 26 = .ok (.iadd, 1) := by decide +kernel
theorem dX1_burnCopy_27 : decode cX1_burnCopy 27 = .ok (.putfield 64, 3) := by decide +kernel
theorem dX1_burnCopy_30 : decode cX1_burnCopy 30 = .ok (.iload_n 1, 1) := by decide +kernel
theorem dX1_burnCopy_31 : decode cX1_burnCopy 31 = .ok (.istore_n 2, 1) := by decide +kernel
theorem dX1_burnCopy_32 : decode cX1_burnCopy 32 = .ok (.iload_n 2, 1) := by decide +kernel
theorem dX1_burnCopy_33 : decode cX1_burnCopy 33 = .ok (.iconst 1, 1) := by decide +kernel
theorem dX1_burnCopy_34 : decode cX1_burnCopy 34 = .ok (.iadd, 1) := by decide +kernel
theorem dX1_burnCopy_35 : decode cX1_burnCopy 35 = .ok (.aload_n 0, 1) := by decide +kernel
theorem dX1_burnCopy_36 : decode cX1_burnCopy 36 = .ok (.getfield 58, 3) := by decide +kernel
theorem dX1_burnCopy_39 : decode cX1_burnCopy 39 = .ok (.if_icmp .ge 26, 3) := by decide +kernel
theorem dX1_burnCopy_42 : decode cX1_burnCopy 42 = .ok (.aload_n 0, 1) := by decide +kernel
theorem dX1_burnCopy_43 : decode cX1_burnCopy 43 = .ok (.getfield 17, 3) := by decide +kernel
theorem dX1_burnCopy_46 : decode cX1_burnCopy 46 = .ok (.iload_n 2, 1) := by decide +kernel
theorem dX1_burnCopy_47 : decode cX1_burnCopy 47 = .ok (.aaload, 1) := by decide +kernel
theorem dX1_burnCopy_48 : decode cX1_burnCopy 48 = .ok (.aload_n 0, 1) := by decide +kernel
theorem dX1_burnCopy_49 : decode cX1_burnCopy 49 = .ok (.getfield 17, 3) := by decide +kernel
theorem dX1_burnCopy_52 : decode cX1_burnCopy 52 = .ok (.iload_n 2, 1) := by decide +kernel
theorem dX1_burnCopy_53 : decode cX1_burnCopy 53 = .ok (.iconst 1, 1) := by decide +kernel
theorem dX1_burnCopy_54 : decode cX1_burnCopy 54 = .ok (.iadd, 1) := by decide +kernel
theorem dX1_burnCopy_55 : decode cX1_burnCopy 55 = .ok (.aaload, 1) := by decide +kernel
theorem dX1_burnCopy_56 : decode cX1_burnCopy 56 = .ok (.invokevirtual 71, 3) := by decide +kernel
theorem dX1_burnCopy_59 : decode cX1_burnCopy 59 = .ok (.iinc 2 1, 3) := by decide +kernel
theorem dX1_burnCopy_62 : decode cX1_burnCopy 62 = .ok (.goto (-30), 3) := by decide +kernel
theorem dX1_burnCopy_65 : decode cX1_burnCopy 65 = .ok (.aload_n 0, 1) := by decide +kernel
theorem dX1_burnCopy_66 : decode cX1_burnCopy 66 = .ok (.dup, 1) := by decide +kernel
theorem dX1_burnCopy_67 : decode cX1_burnCopy 67 = .ok (.getfield 58, 3) := by decide +kernel
theorem dX1_burnCopy_70 : decode cX1_burnCopy 70 = .ok (.iconst 1, 1) := by decide +kernel
theorem dX1_burnCopy_71 : decode cX1_burnCopy 71 = .ok (.isub, 1) := by decide +kernel
theorem dX1_burnCopy_72 : decode cX1_burnCopy 72 = .ok (.putfield 58, 3) := by decide +kernel
theorem dX1_burnCopy_75 : decode cX1_burnCopy 75 = .ok (.return_, 1) := by decide +kernel
theorem dX4_fasten_0 : decode cX4_fasten 0 = .ok (.aload_n 0, 1) := by decide +kernel
theorem dX4_fasten_1 : decode cX4_fasten 1 = .ok (.iload_n 1, 1) := by decide +kernel
theorem dX4_fasten_2 : decode cX4_fasten 2 = .ok (.invokevirtual 32, 3) := by decide +kernel
theorem dX4_fasten_5 : decode cX4_fasten 5 = .ok (.ifCond .eq 10, 3) := by decide +kernel
theorem dX4_fasten_8 : decode cX4_fasten 8 = .ok (.aload_n 0, 1) := by decide +kernel
theorem dX4_fasten_9 : decode cX4_fasten 9 = .ok (.getfield 11, 3) := by decide +kernel
theorem dX4_fasten_12 : decode cX4_fasten 12 = .ok (.iload_n 1, 1) := by decide +kernel
theorem dX4_fasten_13 : decode cX4_fasten 13 = .ok (.iconst 0, 1) := by decide +kernel
theorem dX4_fasten_14 : decode cX4_fasten 14 = .ok (.iastore, 1) := by decide +kernel
theorem dX4_fasten_15 : decode cX4_fasten 15 = .ok (.return_, 1) := by decide +kernel
theorem dX4_gatheringOf_0 : decode cX4_gatheringOf 0 = .ok (.aload_n 0, 1) := by decide +kernel
theorem dX4_gatheringOf_1 : decode cX4_gatheringOf 1 = .ok (.getfield 19, 3) := by decide +kernel
theorem dX4_gatheringOf_4 : decode cX4_gatheringOf 4 = .ok (.ifCond .le 12, 3) := by decide +kernel
theorem dX4_gatheringOf_7 : decode cX4_gatheringOf 7 = .ok (.iload_n 1, 1) := by decide +kernel
theorem dX4_gatheringOf_8 : decode cX4_gatheringOf 8 = .ok (.aload_n 0, 1) := by decide +kernel
theorem dX4_gatheringOf_9 : decode cX4_gatheringOf 9 = .ok (.getfield 19, 3) := by decide +kernel
theorem dX4_gatheringOf_12 : decode cX4_gatheringOf 12 = .ok (.idiv, 1) := by decide +kernel
theorem dX4_gatheringOf_13 : decode cX4_gatheringOf 13 = .ok (.goto 4, 3) := by decide +kernel
theorem dX4_gatheringOf_16 : decode cX4_gatheringOf 16 = .ok (.iconst 0, 1) := by decide +kernel
theorem dX4_gatheringOf_17 : decode cX4_gatheringOf 17 = .ok (.ireturn, 1) := by decide +kernel
set_option maxRecDepth 100000 in
set_option maxHeartbeats 4000000 in
theorem cX2_followFromc {l : Launch} {v0 : Option Nat} {v1 : Option Nat} {v2 : Option Nat} {v3 : Int32} {σ : HpT} {σ' : HpT} (h : fX2_followFrom v0 v1 v2 v3 σ = some σ') : IsK σ v0 2 ∧ Ct l yX2_followFrom cX2_followFrom 6 none 0 0 [va_rf v0, va_rf v1, va_rf v2, .int v3] σ (.ok none) σ' 0 0 := by
  unfold fX2_followFrom at h
  replace h := bnP_s h
  obtain ⟨u, hk, h⟩ := h
  replace hk := isK_s hk
  refine ⟨hk, ?_⟩
  refine ct_start mi_X2_followFrom.1 rfl (al_le (al_1 (rf_cat _) (al_1 (rf_cat _) (al_1 (rf_cat _) (al_1 rfl al_n)))) (Nat.le_of_ble_eq_true rfl)) (ag_1 (rf_cat _) (ag_1 (rf_cat _) (ag_1 (rf_cat _) (ag_1 rfl ag_n)))) (fun Δ Γ B hE hnm => ?_)
  refine g_aload_n B 0 dX2_followFrom_0 rfl rfl ?_
  refine g_iload_n B 3 dX2_followFrom_1 rfl rfl ?_
  refine g_aload_n B 0 dX2_followFrom_2 rfl rfl ?_
  replace h := bnP_s h
  obtain ⟨x1, h2, h⟩ := h
  refine g_getI B fl_RX2_25 (by decide) dX2_followFrom_3 h2 ?_
  replace h := bnP_s h
  obtain ⟨j3, h4, h⟩ := h
  have k6 : GW Δ Γ (0) (0) 14 [(0, va_rf v0), (1, va_rf v1), (2, va_rf v2), (3, .int v3)] [.int j3.2, va_rf j3.1] σ := by
    replace h := bnP_s h
    obtain ⟨s10, h9, h⟩ := h
    refine g_putI B fl_RX2_35 (by decide) dX2_followFrom_14 h9 ?_
    refine g_iload_n B 3 dX2_followFrom_17 rfl rfl ?_
    refine g_aload_n B 1 dX2_followFrom_18 rfl rfl ?_
    replace h := bnP_s h
    obtain ⟨x11, h12, h⟩ := h
    refine g_getRg B fl_RX2_32 (by decide) dX2_followFrom_19 h12 ?_
    refine g_aload_n B 0 dX2_followFrom_22 rfl rfl ?_
    replace h := bnP_s h
    obtain ⟨x13, h14, h⟩ := h
    refine g_getI B fl_RX2_22 (by decide) dX2_followFrom_23 h14 ?_
    replace h := bnP_s h
    obtain ⟨x15, h16, h⟩ := h
    refine g_iald B dX2_followFrom_26 h16 ?_
    refine g_isub B dX2_followFrom_27 ?_
    refine g_istore B dX2_followFrom_28 (Nat.le_of_ble_eq_true rfl) (s1_c (f1_k rfl (f1_k rfl (f1_k rfl (f1_1 rfl rfl f1_n))))) ?_
    refine g_aload_n B 1 dX2_followFrom_30 rfl rfl ?_
    replace h := bnP_s h
    obtain ⟨x17, h18, h⟩ := h
    refine g_getI B fl_RX2_22 (by decide) dX2_followFrom_31 h18 ?_
    refine g_istore B dX2_followFrom_34 (Nat.le_of_ble_eq_true rfl) (s1_c (f1_1 rfl rfl (f1_k rfl (f1_k rfl (f1_k rfl (f1_k rfl f1_n)))))) ?_
    replace h := bnS_s h
    obtain ⟨r20, s60, h21, h⟩ := h
    have kE22 : GW Δ Γ (0) (0) 116 [(0, va_rf v0), (5, .int r20)] [] s60 := by
      refine g_aload_n B 0 dX2_followFrom_116 rfl rfl ?_
      refine g_iload B 1 dX2_followFrom_117 rfl ?_
      refine g_aload_n B 0 dX2_followFrom_119 rfl rfl ?_
      replace h := bnP_s h
      obtain ⟨x61, h62, h⟩ := h
      refine g_getI B fl_RX2_22 (by decide) dX2_followFrom_120 h62 ?_
      refine g_isub B dX2_followFrom_123 ?_
      refine g_iconst (v := 1) B dX2_followFrom_124 (by decide) ?_
      refine g_iadd B dX2_followFrom_125 ?_
      replace h := bnP_s h
      obtain ⟨s65, h64, h⟩ := h
      refine g_putI B fl_RX2_38 (by decide) dX2_followFrom_126 h64 ?_
      replace h := Option.some.inj h
      subst h
      exact g_vret B hE (Nat.zero_le _) (Nat.zero_le _) dX2_followFrom_129
    clear h
    refine g_sub [2, 3, 4, 1, 0] rfl ?_
    refine lpS_w (I := fun q19 s28 => GW Δ Γ (0) (0) 36 [(0, va_rf v0), (1, va_rf v1), (2, va_rf v2), (4, .int q19.1), (5, .int q19.2)] [] s28) (r := r20) (σr := s60) ?_ FUEL ((v3 - x15), x17) s10 h21
    intro q19 s28 x26 s9 h hI24 hR25
    unfold fX2_followFrom_l1 at h
    refine g_iload B 3 dX2_followFrom_36 rfl ?_
    refine g_aload_n B 0 dX2_followFrom_38 rfl rfl ?_
    replace h := bnP_s h
    obtain ⟨x29, h30, h⟩ := h
    refine g_getI B fl_RX2_25 (by decide) dX2_followFrom_39 h30 ?_
    refine g_icmp_lt B 116 dX2_followFrom_42 (by decide) (fun hc => ?_) (fun hc => ?_)
    · replace h := ifp hc h
      obtain ⟨w1, w2⟩ := inS h
      clear h
      subst w1
      subst w2
      obtain ⟨e8, e7⟩ := hR25 _ rfl
      subst e8
      subst e7
      exact g_sub [0, 4] rfl kE22
    · replace h := ifn hc h
      refine g_iload B 4 dX2_followFrom_45 rfl ?_
      refine g_iconst (v := 1) B dX2_followFrom_47 (by decide) ?_
      refine g_iadd B dX2_followFrom_48 ?_
      refine g_aload_n B 2 dX2_followFrom_49 rfl rfl ?_
      replace h := bnP_s h
      obtain ⟨x31, h32, h⟩ := h
      refine g_getI B fl_RX2_7 (by decide) dX2_followFrom_50 h32 ?_
      refine g_aload_n B 2 dX2_followFrom_53 rfl rfl ?_
      replace h := bnP_s h
      obtain ⟨x33, h34, h⟩ := h
      refine g_getI B fl_RX2_13 (by decide) dX2_followFrom_54 h34 ?_
      refine g_iadd B dX2_followFrom_57 ?_
      refine g_icmp_ge B 116 dX2_followFrom_58 (by decide) (fun hc => ?_) (fun hc => ?_)
      · replace h := ifp hc h
        obtain ⟨w1, w2⟩ := inS h
        clear h
        subst w1
        subst w2
        obtain ⟨e8, e7⟩ := hR25 _ rfl
        subst e8
        subst e7
        exact g_sub [0, 4] rfl kE22
      · replace h := ifn hc h
        refine g_iinc (v := (q19.2 + 1)) B 4 dX2_followFrom_61 rfl (by first | rfl | (congr 1; decide)) (Nat.le_of_ble_eq_true rfl) (s1_c (f1_k rfl (f1_k rfl (f1_k rfl (f1_1 rfl rfl (f1_x f1_n)))))) ?_
        refine g_iload B 4 dX2_followFrom_64 rfl ?_
        refine g_aload_n B 1 dX2_followFrom_66 rfl rfl ?_
        replace h := bnP_s h
        obtain ⟨x35, h36, h⟩ := h
        refine g_getI B fl_RX2_25 (by decide) dX2_followFrom_67 h36 ?_
        replace h := bnS_s h
        obtain ⟨j37, s51, h38, h⟩ := h
        have k40 : GW Δ Γ (0) (0) 93 [(0, va_rf v0), (1, va_rf v1), (2, va_rf v2), (4, .int q19.1), (5, .int (q19.2 + 1))] [] s51 := by
          refine g_iload B 3 dX2_followFrom_93 rfl ?_
          refine g_aload_n B 1 dX2_followFrom_95 rfl rfl ?_
          replace h := bnP_s h
          obtain ⟨x52, h53, h⟩ := h
          refine g_getRg B fl_RX2_16 (by decide) dX2_followFrom_96 h53 ?_
          refine g_iload B 4 dX2_followFrom_99 rfl ?_
          replace h := bnP_s h
          obtain ⟨x54, h55, h⟩ := h
          refine g_iald B dX2_followFrom_101 h55 ?_
          refine g_aload_n B 1 dX2_followFrom_102 rfl rfl ?_
          replace h := bnP_s h
          obtain ⟨x56, h57, h⟩ := h
          refine g_getRg B fl_RX2_32 (by decide) dX2_followFrom_103 h57 ?_
          refine g_iload B 4 dX2_followFrom_106 rfl ?_
          replace h := bnP_s h
          obtain ⟨x58, h59, h⟩ := h
          refine g_iald B dX2_followFrom_108 h59 ?_
          refine g_isub B dX2_followFrom_109 ?_
          refine g_iadd B dX2_followFrom_110 ?_
          refine g_istore B dX2_followFrom_111 (Nat.le_of_ble_eq_true rfl) (s1_c (f1_k rfl (f1_k rfl (f1_k rfl (f1_x (f1_k rfl f1_n)))))) ?_
          refine g_goto B 36 dX2_followFrom_113 (by decide) ?_
          obtain ⟨w1, w2⟩ := inS h
          clear h
          subst w1
          subst w2
          exact g_sub [1, 2, 3, 0, 4] rfl (hI24 _ rfl)
        clear h
        have h := h38
        clear h38
        refine g_icmp_ne B 93 dX2_followFrom_70 (by decide) (fun hc => ?_) (fun hc => ?_)
        · replace h := ifn hc h
          obtain ⟨w1, w2⟩ := inS h
          clear h
          subst w1
          subst w2
          exact g_sub [1, 2, 3, 4, 0] rfl k40
        · replace h := ifp hc h
          refine g_aload_n B 2 dX2_followFrom_73 rfl rfl ?_
          replace h := bnP_s h
          obtain ⟨x42, h43, h⟩ := h
          refine g_getRg B fl_RX2_16 (by decide) dX2_followFrom_74 h43 ?_
          refine g_iload B 0 dX2_followFrom_77 rfl ?_
          replace h := bnP_s h
          obtain ⟨x44, h45, h⟩ := h
          refine g_iald B dX2_followFrom_79 h45 ?_
          refine g_if_le B 93 dX2_followFrom_80 (by decide) (fun hc => ?_) (fun hc => ?_)
          · replace h := ifp hc h
            obtain ⟨w1, w2⟩ := inS h
            clear h
            subst w1
            subst w2
            exact g_sub [1, 2, 3, 4, 0] rfl k40
          · replace h := ifn hc h
            refine g_aload_n B 1 dX2_followFrom_83 rfl rfl ?_
            refine g_dup B dX2_followFrom_84 (rf_cat _) ?_
            replace h := bnP_s h
            obtain ⟨x46, h47, h⟩ := h
            refine g_getI B fl_RX2_35 (by decide) dX2_followFrom_85 h47 ?_
            refine g_iconst (v := 1) B dX2_followFrom_88 (by decide) ?_
            refine g_iadd B dX2_followFrom_89 ?_
            replace h := bnP_s h
            obtain ⟨s50, h49, h⟩ := h
            refine g_putI B fl_RX2_35 (by decide) dX2_followFrom_90 h49 ?_
            obtain ⟨w1, w2⟩ := inS h
            clear h
            subst w1
            subst w2
            exact g_sub [1, 2, 3, 4, 0] rfl k40
  clear h
  have h := h4
  clear h4
  refine g_icmp_le B 13 dX2_followFrom_6 (by decide) (fun hc => ?_) (fun hc => ?_)
  · replace h := ifp hc h
    refine g_iconst (v := 0) B dX2_followFrom_13 (by decide) ?_
    replace h := Option.some.inj h
    subst h
    exact g_sub [0, 1, 2, 3] rfl k6
  · replace h := ifn hc h
    refine g_iconst (v := 1) B dX2_followFrom_9 (by decide) ?_
    refine g_goto B 14 dX2_followFrom_10 (by decide) ?_
    replace h := Option.some.inj h
    subst h
    exact g_sub [0, 1, 2, 3] rfl k6
set_option maxRecDepth 100000 in
set_option maxHeartbeats 4000000 in
theorem cX2_seekc {l : Launch} {v0 : Option Nat} {v1 : Option Nat} {v2 : Option Nat} {v3 : Int32} {σ : HpT} {r : Bool} {σ' : HpT} (h : fX2_seek v0 v1 v2 v3 σ = some (r, σ')) : IsK σ v0 2 ∧ Ct l yX2_seek cX2_seek 7 (some .boolean) 1 25 [va_rf v0, va_rf v1, va_rf v2, .int v3] σ (.ok (some (.int (bI r)))) σ' 0 0 := by
  unfold fX2_seek at h
  replace h := bnP_s h
  obtain ⟨u, hk, h⟩ := h
  replace hk := isK_s hk
  refine ⟨hk, ?_⟩
  refine ct_start mi_X2_seek.1 rfl (al_le (al_1 (rf_cat _) (al_1 (rf_cat _) (al_1 (rf_cat _) (al_1 rfl al_n)))) (Nat.le_of_ble_eq_true rfl)) (ag_1 (rf_cat _) (ag_1 (rf_cat _) (ag_1 (rf_cat _) (ag_1 rfl ag_n)))) (fun Δ Γ B hE hnm => ?_)
  refine g_iconst (v := 0) B dX2_seek_0 (by decide) ?_
  refine g_istore B dX2_seek_1 (Nat.le_of_ble_eq_true rfl) (s1_c (f1_k rfl (f1_k rfl (f1_k rfl (f1_1 rfl rfl f1_n))))) ?_
  refine g_iconst (v := 0) B dX2_seek_3 (by decide) ?_
  refine g_istore B dX2_seek_4 (Nat.le_of_ble_eq_true rfl) (s1_c (f1_1 rfl rfl (f1_k rfl (f1_k rfl (f1_k rfl (f1_k rfl f1_n)))))) ?_
  refine g_aload_n B 4 dX2_seek_6 rfl rfl ?_
  replace h := bnP_s h
  obtain ⟨x1, h2, h⟩ := h
  refine g_getI B fl_RX2_7 (by decide) dX2_seek_7 h2 ?_
  refine g_istore B dX2_seek_10 (Nat.le_of_ble_eq_true rfl) (s1_c (f1_1 rfl rfl (f1_k rfl (f1_k rfl (f1_k rfl (f1_k rfl (f1_k rfl f1_n))))))) ?_
  replace h := bnS_s h
  obtain ⟨r4, s59, h5, h⟩ := h
  have kE6 : ∀ y58, r4 = .inl y58 → GW Δ Γ (0) (0) 121 [] [] s59 := by
    intro y58 er
    subst er
    dsimp only at h
    refine g_iconst (v := 0) B dX2_seek_121 (by decide) ?_
    obtain ⟨w1, w2⟩ := inS h
    clear h
    subst w1
    subst w2
    exact g_zret B hE rfl (Nat.zero_le _) (Nat.zero_le _) dX2_seek_122
  have kR7 : ∀ vv, r4 = .inr vv → En Δ Γ (.ok (some (.int (bI vv)))) s59 0 0 (some .boolean) ∧ 0 ≤ 0 ∧ 0 ≤ 0 := by
    intro vv er
    subst er
    dsimp only at h
    obtain ⟨w1, w2⟩ := inS h
    clear h
    subst w1
    subst w2
    exact ⟨hE, Nat.zero_le _, Nat.zero_le _⟩
  clear h
  refine g_sub [3, 4, 5, 6, 2, 1, 0] rfl ?_
  refine lpS_w (I := fun q3 s12 => GW Δ Γ (0) (0) 12 [(0, va_rf v0), (1, va_rf v1), (2, va_rf v2), (3, .int v3), (4, .int q3.1), (5, .int q3.2.1), (6, .int q3.2.2)] [] s12) (r := r4) (σr := s59) ?_ FUEL (0, 0, x1) σ h5
  intro q3 s12 x10 s9 h hI8 hR9
  unfold fX2_seek_l1 at h
  refine g_iload B 6 dX2_seek_12 rfl ?_
  refine g_aload_n B 2 dX2_seek_14 rfl rfl ?_
  replace h := bnP_s h
  obtain ⟨x13, h14, h⟩ := h
  refine g_getI B fl_RX2_7 (by decide) dX2_seek_15 h14 ?_
  refine g_aload_n B 2 dX2_seek_18 rfl rfl ?_
  replace h := bnP_s h
  obtain ⟨x15, h16, h⟩ := h
  refine g_getI B fl_RX2_13 (by decide) dX2_seek_19 h16 ?_
  refine g_iadd B dX2_seek_22 ?_
  refine g_icmp_ge B 121 dX2_seek_23 (by decide) (fun hc => ?_) (fun hc => ?_)
  · replace h := ifp hc h
    obtain ⟨w1, w2⟩ := inS h
    clear h
    subst w1
    subst w2
    obtain ⟨e8, e7⟩ := hR9 _ rfl
    subst e8
    subst e7
    exact g_sub [] rfl (kE6 _ rfl)
  · replace h := ifn hc h
    refine g_iload_n B 3 dX2_seek_26 rfl rfl ?_
    refine g_iload B 4 dX2_seek_27 rfl ?_
    refine g_icmp_lt B 83 dX2_seek_29 (by decide) (fun hc => ?_) (fun hc => ?_)
    · replace h := ifp hc h
      refine g_iload B 4 dX2_seek_83 rfl ?_
      refine g_aload_n B 1 dX2_seek_85 rfl rfl ?_
      replace h := bnP_s h
      obtain ⟨x17, h18, h⟩ := h
      refine g_getRg B fl_RX2_16 (by decide) dX2_seek_86 h18 ?_
      refine g_iload B 6 dX2_seek_89 rfl ?_
      replace h := bnP_s h
      obtain ⟨x19, h20, h⟩ := h
      refine g_iald B dX2_seek_91 h20 ?_
      refine g_iadd B dX2_seek_92 ?_
      refine g_istore B dX2_seek_93 (Nat.le_of_ble_eq_true rfl) (s1_c (f1_k rfl (f1_k rfl (f1_k rfl (f1_1 rfl rfl (f1_x (f1_k rfl (f1_k rfl f1_n)))))))) ?_
      refine g_iload B 5 dX2_seek_95 rfl ?_
      refine g_aload_n B 2 dX2_seek_97 rfl rfl ?_
      replace h := bnP_s h
      obtain ⟨x21, h22, h⟩ := h
      refine g_getRg B fl_RX2_16 (by decide) dX2_seek_98 h22 ?_
      refine g_iload B 6 dX2_seek_101 rfl ?_
      replace h := bnP_s h
      obtain ⟨x23, h24, h⟩ := h
      refine g_iald B dX2_seek_103 h24 ?_
      refine g_aload_n B 2 dX2_seek_104 rfl rfl ?_
      replace h := bnP_s h
      obtain ⟨x25, h26, h⟩ := h
      refine g_getRg B fl_RX2_32 (by decide) dX2_seek_105 h26 ?_
      refine g_iload B 6 dX2_seek_108 rfl ?_
      replace h := bnP_s h
      obtain ⟨x27, h28, h⟩ := h
      refine g_iald B dX2_seek_110 h28 ?_
      refine g_isub B dX2_seek_111 ?_
      refine g_iadd B dX2_seek_112 ?_
      refine g_istore B dX2_seek_113 (Nat.le_of_ble_eq_true rfl) (s1_c (f1_1 rfl rfl (f1_k rfl (f1_k rfl (f1_k rfl (f1_k rfl (f1_x (f1_k rfl f1_n)))))))) ?_
      refine g_iinc (v := (q3.2.2 + 1)) B 6 dX2_seek_115 rfl (by first | rfl | (congr 1; decide)) (Nat.le_of_ble_eq_true rfl) (s1_c (f1_1 rfl rfl (f1_k rfl (f1_k rfl (f1_k rfl (f1_k rfl (f1_k rfl (f1_x f1_n)))))))) ?_
      refine g_goto B 12 dX2_seek_118 (by decide) ?_
      obtain ⟨w1, w2⟩ := inS h
      clear h
      subst w1
      subst w2
      exact g_sub [3, 4, 5, 6, 2, 1, 0] rfl (hI8 _ rfl)
    · replace h := ifn hc h
      refine g_iload_n B 3 dX2_seek_32 rfl rfl ?_
      refine g_iload B 4 dX2_seek_33 rfl ?_
      refine g_aload_n B 1 dX2_seek_35 rfl rfl ?_
      replace h := bnP_s h
      obtain ⟨x29, h30, h⟩ := h
      refine g_getRg B fl_RX2_16 (by decide) dX2_seek_36 h30 ?_
      refine g_iload B 6 dX2_seek_39 rfl ?_
      replace h := bnP_s h
      obtain ⟨x31, h32, h⟩ := h
      refine g_iald B dX2_seek_41 h32 ?_
      refine g_iadd B dX2_seek_42 ?_
      refine g_icmp_ge B 83 dX2_seek_43 (by decide) (fun hc => ?_) (fun hc => ?_)
      · replace h := ifp hc h
        refine g_iload B 4 dX2_seek_83 rfl ?_
        refine g_aload_n B 1 dX2_seek_85 rfl rfl ?_
        replace h := bnP_s h
        obtain ⟨x33, h34, h⟩ := h
        refine g_getRg B fl_RX2_16 (by decide) dX2_seek_86 h34 ?_
        refine g_iload B 6 dX2_seek_89 rfl ?_
        replace h := bnP_s h
        obtain ⟨x35, h36, h⟩ := h
        refine g_iald B dX2_seek_91 h36 ?_
        refine g_iadd B dX2_seek_92 ?_
        refine g_istore B dX2_seek_93 (Nat.le_of_ble_eq_true rfl) (s1_c (f1_k rfl (f1_k rfl (f1_k rfl (f1_1 rfl rfl (f1_x (f1_k rfl (f1_k rfl f1_n)))))))) ?_
        refine g_iload B 5 dX2_seek_95 rfl ?_
        refine g_aload_n B 2 dX2_seek_97 rfl rfl ?_
        replace h := bnP_s h
        obtain ⟨x37, h38, h⟩ := h
        refine g_getRg B fl_RX2_16 (by decide) dX2_seek_98 h38 ?_
        refine g_iload B 6 dX2_seek_101 rfl ?_
        replace h := bnP_s h
        obtain ⟨x39, h40, h⟩ := h
        refine g_iald B dX2_seek_103 h40 ?_
        refine g_aload_n B 2 dX2_seek_104 rfl rfl ?_
        replace h := bnP_s h
        obtain ⟨x41, h42, h⟩ := h
        refine g_getRg B fl_RX2_32 (by decide) dX2_seek_105 h42 ?_
        refine g_iload B 6 dX2_seek_108 rfl ?_
        replace h := bnP_s h
        obtain ⟨x43, h44, h⟩ := h
        refine g_iald B dX2_seek_110 h44 ?_
        refine g_isub B dX2_seek_111 ?_
        refine g_iadd B dX2_seek_112 ?_
        refine g_istore B dX2_seek_113 (Nat.le_of_ble_eq_true rfl) (s1_c (f1_1 rfl rfl (f1_k rfl (f1_k rfl (f1_k rfl (f1_k rfl (f1_x (f1_k rfl f1_n)))))))) ?_
        refine g_iinc (v := (q3.2.2 + 1)) B 6 dX2_seek_115 rfl (by first | rfl | (congr 1; decide)) (Nat.le_of_ble_eq_true rfl) (s1_c (f1_1 rfl rfl (f1_k rfl (f1_k rfl (f1_k rfl (f1_k rfl (f1_k rfl (f1_x f1_n)))))))) ?_
        refine g_goto B 12 dX2_seek_118 (by decide) ?_
        obtain ⟨w1, w2⟩ := inS h
        clear h
        subst w1
        subst w2
        exact g_sub [3, 4, 5, 6, 2, 1, 0] rfl (hI8 _ rfl)
      · replace h := ifn hc h
        refine g_aload_n B 0 dX2_seek_46 rfl rfl ?_
        refine g_iload B 6 dX2_seek_47 rfl ?_
        replace h := bnP_s h
        obtain ⟨s47, h46, h⟩ := h
        refine g_putI B fl_RX2_22 (by decide) dX2_seek_49 h46 ?_
        refine g_aload_n B 0 dX2_seek_52 rfl rfl ?_
        refine g_iload B 5 dX2_seek_53 rfl ?_
        refine g_iload_n B 3 dX2_seek_55 rfl rfl ?_
        refine g_iadd B dX2_seek_56 ?_
        refine g_iload B 4 dX2_seek_57 rfl ?_
        refine g_isub B dX2_seek_59 ?_
        refine g_iconst (v := 1) B dX2_seek_60 (by decide) ?_
        refine g_iadd B dX2_seek_61 ?_
        replace h := bnP_s h
        obtain ⟨s50, h49, h⟩ := h
        refine g_putI B fl_RX2_25 (by decide) dX2_seek_62 h49 ?_
        refine g_aload_n B 0 dX2_seek_65 rfl rfl ?_
        refine g_aload_n B 1 dX2_seek_66 rfl rfl ?_
        refine g_aload_n B 2 dX2_seek_67 rfl rfl ?_
        refine g_iload B 5 dX2_seek_68 rfl ?_
        refine g_aload_n B 1 dX2_seek_70 rfl rfl ?_
        replace h := bnP_s h
        obtain ⟨x51, h52, h⟩ := h
        refine g_getRg B fl_RX2_16 (by decide) dX2_seek_71 h52 ?_
        refine g_iload B 6 dX2_seek_74 rfl ?_
        replace h := bnP_s h
        obtain ⟨x53, h54, h⟩ := h
        refine g_iald B dX2_seek_76 h54 ?_
        refine g_iadd B dX2_seek_77 ?_
        replace h := bnP_s h
        obtain ⟨s57, h56, h⟩ := h
        refine g_callVv0 (st := []) B (cX2_followFromc h56) (Nat.le_of_ble_eq_true rfl) rfl rfl mi_X2_followFrom lk_RX2_28 ⟨Nat.le_of_ble_eq_true rfl, Nat.le_of_ble_eq_true rfl⟩ rfl rfl (Nat.le_of_ble_eq_true rfl) dX2_seek_78 (Nat.zero_le _) (Nat.zero_le _) ?_
        refine g_iconst (v := 1) B dX2_seek_81 (by decide) ?_
        obtain ⟨w1, w2⟩ := inS h
        clear h
        subst w1
        subst w2
        obtain ⟨e8, e7⟩ := hR9 _ rfl
        subst e7
        obtain ⟨hE, hc9, hs9⟩ := kR7 _ e8.symm
        exact g_zret B hE rfl hc9 hs9 dX2_seek_82
set_option maxRecDepth 100000 in
set_option maxHeartbeats 4000000 in
theorem cX1_seekClauseAroundc {l : Launch} {v0 : Option Nat} {v1 : Int32} {σ : HpT} {r : Bool} {σ' : HpT} (h : fX1_seekClauseAround v0 v1 σ = some (r, σ')) : IsK σ v0 1 ∧ Ct l yX1_seekClauseAround cX1_seekClauseAround 3 (some .boolean) 2 51 [va_rf v0, .int v1] σ (.ok (some (.int (bI r)))) σ' 0 0 := by
  unfold fX1_seekClauseAround at h
  replace h := bnP_s h
  obtain ⟨u, hk, h⟩ := h
  replace hk := isK_s hk
  refine ⟨hk, ?_⟩
  refine ct_start mi_X1_seekClauseAround.1 rfl (al_le (al_1 (rf_cat _) (al_1 rfl al_n)) (Nat.le_of_ble_eq_true rfl)) (ag_1 (rf_cat _) (ag_1 rfl ag_n)) (fun Δ Γ B hE hnm => ?_)
  refine g_aload_n B 0 dX1_seekClauseAround_0 rfl rfl ?_
  replace h := bnP_s h
  obtain ⟨x1, h2, h⟩ := h
  refine g_callVs0 (st := []) B (cX1_openActc h2) (Nat.le_of_ble_eq_true rfl) rfl rfl mi_X1_openAct lk_RX1_87 ⟨Nat.le_of_ble_eq_true rfl, Nat.le_of_ble_eq_true rfl⟩ rfl rfl (Nat.le_of_ble_eq_true rfl) dX1_seekClauseAround_1 (Nat.zero_le _) (Nat.zero_le _) ?_
  refine g_astore_n B dX1_seekClauseAround_4 rfl (Nat.le_of_ble_eq_true rfl) (s1_c (f1_k rfl (f1_1 rfl rfl f1_n))) ?_
  refine g_aload_n B 0 dX1_seekClauseAround_5 rfl rfl ?_
  refine g_ifnull B 21 dX1_seekClauseAround_6 (by decide) (fun hc => ?_) (fun hc => ?_)
  · replace h := ifp hc h
    refine g_iconst (v := 0) B dX1_seekClauseAround_21 (by decide) ?_
    obtain ⟨w1, w2⟩ := inS h
    clear h
    subst w1
    subst w2
    exact g_zret B hE rfl (Nat.zero_le _) (Nat.zero_le _) dX1_seekClauseAround_22
  · replace h := ifn hc h
    refine g_iload_n B 2 dX1_seekClauseAround_9 rfl rfl ?_
    refine g_if_lt B 21 dX1_seekClauseAround_10 (by decide) (fun hc => ?_) (fun hc => ?_)
    · replace h := ifp hc h
      refine g_iconst (v := 0) B dX1_seekClauseAround_21 (by decide) ?_
      obtain ⟨w1, w2⟩ := inS h
      clear h
      subst w1
      subst w2
      exact g_zret B hE rfl (Nat.zero_le _) (Nat.zero_le _) dX1_seekClauseAround_22
    · replace h := ifn hc h
      refine g_iload_n B 2 dX1_seekClauseAround_13 rfl rfl ?_
      refine g_aload_n B 0 dX1_seekClauseAround_14 rfl rfl ?_
      replace h := bnP_s h
      obtain ⟨x3, h4, h⟩ := h
      refine g_getI B fl_RX1_91 (by decide) dX1_seekClauseAround_15 h4 ?_
      refine g_icmp_lt B 23 dX1_seekClauseAround_18 (by decide) (fun hc => ?_) (fun hc => ?_)
      · replace h := ifp hc h
        refine g_aload_n B 1 dX1_seekClauseAround_23 rfl rfl ?_
        replace h := bnP_s h
        obtain ⟨x5, h6, h⟩ := h
        refine g_getR B fl_RX1_38 (by decide) dX1_seekClauseAround_24 h6 ?_
        refine g_aload_n B 1 dX1_seekClauseAround_27 rfl rfl ?_
        replace h := bnP_s h
        obtain ⟨x7, h8, h⟩ := h
        refine g_getR B fl_RX1_24 (by decide) dX1_seekClauseAround_28 h8 ?_
        refine g_aload_n B 0 dX1_seekClauseAround_31 rfl rfl ?_
        refine g_aload_n B 1 dX1_seekClauseAround_32 rfl rfl ?_
        replace h := bnP_s h
        obtain ⟨x9, h10, h⟩ := h
        refine g_getR B fl_RX1_24 (by decide) dX1_seekClauseAround_33 h10 ?_
        refine g_aload_n B 0 dX1_seekClauseAround_36 rfl rfl ?_
        replace h := bnP_s h
        obtain ⟨x11, h12, h⟩ := h
        refine g_getI B fl_RX1_92 (by decide) dX1_seekClauseAround_37 h12 ?_
        refine g_aload_n B 0 dX1_seekClauseAround_40 rfl rfl ?_
        replace h := bnP_s h
        obtain ⟨x13, h14, h⟩ := h
        refine g_getI B fl_RX1_92 (by decide) dX1_seekClauseAround_41 h14 ?_
        refine g_iload_n B 2 dX1_seekClauseAround_44 rfl rfl ?_
        refine g_iadd B dX1_seekClauseAround_45 ?_
        replace h := bnP_s h
        obtain ⟨x15, h16, h⟩ := h
        refine g_callVs0 (st := [va_rf x1, va_rf x7, va_rf x5]) B (cX8_innermostOfc h16) (Nat.le_of_ble_eq_true rfl) rfl rfl mi_X8_innermostOf lk_RX1_109 ⟨Nat.le_of_ble_eq_true rfl, Nat.le_of_ble_eq_true rfl⟩ rfl rfl (Nat.le_of_ble_eq_true rfl) dX1_seekClauseAround_46 (Nat.zero_le _) (Nat.zero_le _) ?_
        replace h := bnS_s h
        obtain ⟨x17, s19, h18, h⟩ := h
        refine g_callVs0 (st := []) B (cX2_seekc h18) (Nat.le_of_ble_eq_true rfl) rfl rfl mi_X2_seek lk_RX1_112 ⟨Nat.le_of_ble_eq_true rfl, Nat.le_of_ble_eq_true rfl⟩ rfl rfl (Nat.le_of_ble_eq_true rfl) dX1_seekClauseAround_49 (Nat.zero_le _) (Nat.zero_le _) ?_
        obtain ⟨w1, w2⟩ := inS h
        clear h
        subst w1
        subst w2
        exact g_zret B hE (nar_bI _) (Nat.zero_le _) (Nat.zero_le _) dX1_seekClauseAround_52
      · replace h := ifn hc h
        refine g_iconst (v := 0) B dX1_seekClauseAround_21 (by decide) ?_
        obtain ⟨w1, w2⟩ := inS h
        clear h
        subst w1
        subst w2
        exact g_zret B hE rfl (Nat.zero_le _) (Nat.zero_le _) dX1_seekClauseAround_22
set_option maxRecDepth 100000 in
set_option maxHeartbeats 4000000 in
theorem cX1_leavesOfc {l : Launch} {v0 : Option Nat} {v1 : Int32} {σ : HpT} {r : Int32} (h : fX1_leavesOf v0 v1 σ = some r) : IsK σ v0 1 ∧ Ct l yX1_leavesOf cX1_leavesOf 2 (some .int) 0 0 [va_rf v0, .int v1] σ (.ok (some (.int r))) σ 0 0 := by
  unfold fX1_leavesOf at h
  replace h := bnP_s h
  obtain ⟨u, hk, h⟩ := h
  replace hk := isK_s hk
  refine ⟨hk, ?_⟩
  refine ct_start mi_X1_leavesOf.1 rfl (al_le (al_1 (rf_cat _) (al_1 rfl al_n)) (Nat.le_of_ble_eq_true rfl)) (ag_1 (rf_cat _) (ag_1 rfl ag_n)) (fun Δ Γ B hE hnm => ?_)
  refine g_aload_n B 0 dX1_leavesOf_0 rfl rfl ?_
  replace h := bnP_s h
  obtain ⟨x1, h2, h⟩ := h
  refine g_getI B fl_RX1_48 (by decide) dX1_leavesOf_1 h2 ?_
  refine g_if_le B 23 dX1_leavesOf_4 (by decide) (fun hc => ?_) (fun hc => ?_)
  · replace h := ifp hc h
    refine g_iconst (v := 0) B dX1_leavesOf_23 (by decide) ?_
    replace h := Option.some.inj h
    subst h
    exact g_iret B hE (Nat.zero_le _) (Nat.zero_le _) dX1_leavesOf_24
  · replace h := ifn hc h
    refine g_iload_n B 1 dX1_leavesOf_7 rfl rfl ?_
    refine g_aload_n B 0 dX1_leavesOf_8 rfl rfl ?_
    replace h := bnP_s h
    obtain ⟨x3, h4, h⟩ := h
    refine g_getI B fl_RX1_48 (by decide) dX1_leavesOf_9 h4 ?_
    refine g_iadd B dX1_leavesOf_12 ?_
    refine g_iconst (v := 1) B dX1_leavesOf_13 (by decide) ?_
    refine g_isub B dX1_leavesOf_14 ?_
    refine g_aload_n B 0 dX1_leavesOf_15 rfl rfl ?_
    replace h := bnP_s h
    obtain ⟨x5, h6, h⟩ := h
    refine g_getI B fl_RX1_48 (by decide) dX1_leavesOf_16 h6 ?_
    replace h := bnP_s h
    obtain ⟨u7, h8, h⟩ := h
    refine g_idiv B dX1_leavesOf_19 (nz_s h8) ?_
    refine g_goto B 24 dX1_leavesOf_20 (by decide) ?_
    replace h := Option.some.inj h
    subst h
    exact g_iret B hE (Nat.zero_le _) (Nat.zero_le _) dX1_leavesOf_24
set_option maxRecDepth 100000 in
set_option maxHeartbeats 4000000 in
theorem cX1_leafOfc {l : Launch} {v0 : Option Nat} {v1 : Int32} {σ : HpT} {r : Int32} (h : fX1_leafOf v0 v1 σ = some r) : IsK σ v0 1 ∧ Ct l yX1_leafOf cX1_leafOf 2 (some .int) 0 0 [va_rf v0, .int v1] σ (.ok (some (.int r))) σ 0 0 := by
  unfold fX1_leafOf at h
  replace h := bnP_s h
  obtain ⟨u, hk, h⟩ := h
  replace hk := isK_s hk
  refine ⟨hk, ?_⟩
  refine ct_start mi_X1_leafOf.1 rfl (al_le (al_1 (rf_cat _) (al_1 rfl al_n)) (Nat.le_of_ble_eq_true rfl)) (ag_1 (rf_cat _) (ag_1 rfl ag_n)) (fun Δ Γ B hE hnm => ?_)
  refine g_aload_n B 0 dX1_leafOf_0 rfl rfl ?_
  replace h := bnP_s h
  obtain ⟨x1, h2, h⟩ := h
  refine g_getI B fl_RX1_48 (by decide) dX1_leafOf_1 h2 ?_
  refine g_if_le B 16 dX1_leafOf_4 (by decide) (fun hc => ?_) (fun hc => ?_)
  · replace h := ifp hc h
    refine g_iconst (v := 0) B dX1_leafOf_16 (by decide) ?_
    replace h := Option.some.inj h
    subst h
    exact g_iret B hE (Nat.zero_le _) (Nat.zero_le _) dX1_leafOf_17
  · replace h := ifn hc h
    refine g_iload_n B 1 dX1_leafOf_7 rfl rfl ?_
    refine g_aload_n B 0 dX1_leafOf_8 rfl rfl ?_
    replace h := bnP_s h
    obtain ⟨x3, h4, h⟩ := h
    refine g_getI B fl_RX1_48 (by decide) dX1_leafOf_9 h4 ?_
    replace h := bnP_s h
    obtain ⟨u5, h6, h⟩ := h
    refine g_idiv B dX1_leafOf_12 (nz_s h6) ?_
    refine g_goto B 17 dX1_leafOf_13 (by decide) ?_
    replace h := Option.some.inj h
    subst h
    exact g_iret B hE (Nat.zero_le _) (Nat.zero_le _) dX1_leafOf_17
set_option maxRecDepth 100000 in
set_option maxHeartbeats 4000000 in
theorem cX1_mostWordsc {l : Launch} {v0 : Option Nat} {σ : HpT} {r : Int32} (h : fX1_mostWords v0 σ = some r) : IsK σ v0 1 ∧ Ct l yX1_mostWords cX1_mostWords 1 (some .int) 1 21 [va_rf v0] σ (.ok (some (.int r))) σ 0 0 := by
  unfold fX1_mostWords at h
  replace h := bnP_s h
  obtain ⟨u, hk, h⟩ := h
  replace hk := isK_s hk
  refine ⟨hk, ?_⟩
  refine ct_start mi_X1_mostWords.1 rfl (al_le (al_1 (rf_cat _) al_n) (Nat.le_of_ble_eq_true rfl)) (ag_1 (rf_cat _) ag_n) (fun Δ Γ B hE hnm => ?_)
  refine g_bipush (v := 12) B dX1_mostWords_0 (by decide) ?_
  refine g_aload_n B 0 dX1_mostWords_2 rfl rfl ?_
  replace h := bnP_s h
  obtain ⟨x1, h2, h⟩ := h
  refine g_getI B fl_RX1_48 (by decide) dX1_mostWords_3 h2 ?_
  refine g_imul B dX1_mostWords_6 ?_
  refine g_sipush (v := 240) B dX1_mostWords_7 (by decide) ?_
  refine g_mmin B mt_RX1_116 (by decide) (Nat.le_of_ble_eq_true rfl) dX1_mostWords_10 (Nat.zero_le _) (Nat.zero_le _) ?_
  replace h := Option.some.inj h
  subst h
  exact g_iret B hE (Nat.zero_le _) (Nat.zero_le _) dX1_mostWords_13
set_option maxRecDepth 100000 in
set_option maxHeartbeats 4000000 in
theorem cX1_wordsOnc {l : Launch} {v0 : Option Nat} {v1 : Int32} {σ : HpT} {r : Int32} (h : fX1_wordsOn v0 v1 σ = some r) : IsK σ v0 1 ∧ Ct l yX1_wordsOn cX1_wordsOn 2 (some .int) 1 21 [va_rf v0, .int v1] σ (.ok (some (.int r))) σ 0 0 := by
  unfold fX1_wordsOn at h
  replace h := bnP_s h
  obtain ⟨u, hk, h⟩ := h
  replace hk := isK_s hk
  refine ⟨hk, ?_⟩
  refine ct_start mi_X1_wordsOn.1 rfl (al_le (al_1 (rf_cat _) (al_1 rfl al_n)) (Nat.le_of_ble_eq_true rfl)) (ag_1 (rf_cat _) (ag_1 rfl ag_n)) (fun Δ Γ B hE hnm => ?_)
  refine g_iconst (v := 0) B dX1_wordsOn_0 (by decide) ?_
  refine g_aload_n B 0 dX1_wordsOn_1 rfl rfl ?_
  replace h := bnP_s h
  obtain ⟨x1, h2, h⟩ := h
  refine g_getI B fl_RX1_48 (by decide) dX1_wordsOn_2 h2 ?_
  refine g_aload_n B 0 dX1_wordsOn_5 rfl rfl ?_
  replace h := bnP_s h
  obtain ⟨x3, h4, h⟩ := h
  refine g_getR B fl_RX1_24 (by decide) dX1_wordsOn_6 h4 ?_
  replace h := bnP_s h
  obtain ⟨x5, h6, h⟩ := h
  refine g_getI B fl_RX1_80 (by decide) dX1_wordsOn_9 h6 ?_
  refine g_iload_n B 1 dX1_wordsOn_12 rfl rfl ?_
  refine g_aload_n B 0 dX1_wordsOn_13 rfl rfl ?_
  replace h := bnP_s h
  obtain ⟨x7, h8, h⟩ := h
  refine g_getI B fl_RX1_48 (by decide) dX1_wordsOn_14 h8 ?_
  refine g_imul B dX1_wordsOn_17 ?_
  refine g_isub B dX1_wordsOn_18 ?_
  refine g_mmin B mt_RX1_116 (by decide) (Nat.le_of_ble_eq_true rfl) dX1_wordsOn_19 (Nat.zero_le _) (Nat.zero_le _) ?_
  refine g_mmax B mt_RX1_121 (by decide) (Nat.le_of_ble_eq_true rfl) dX1_wordsOn_22 (Nat.zero_le _) (Nat.zero_le _) ?_
  replace h := Option.some.inj h
  subst h
  exact g_iret B hE (Nat.zero_le _) (Nat.zero_le _) dX1_wordsOn_25
set_option maxRecDepth 100000 in
set_option maxHeartbeats 4000000 in
theorem cX1_isOnc {l : Launch} {v0 : Option Nat} {v1 : Option Nat} {v2 : Int32} {σ : HpT} {r : Bool} (h : fX1_isOn v0 v1 v2 σ = some r) : IsK σ v0 1 ∧ Ct l yX1_isOn cX1_isOn 3 (some .boolean) 1 21 [va_rf v0, va_rf v1, .int v2] σ (.ok (some (.int (bI r)))) σ 0 0 := by
  unfold fX1_isOn at h
  replace h := bnP_s h
  obtain ⟨u, hk, h⟩ := h
  replace hk := isK_s hk
  refine ⟨hk, ?_⟩
  refine ct_start mi_X1_isOn.1 rfl (al_le (al_1 (rf_cat _) (al_1 (rf_cat _) (al_1 rfl al_n))) (Nat.le_of_ble_eq_true rfl)) (ag_1 (rf_cat _) (ag_1 (rf_cat _) (ag_1 rfl ag_n))) (fun Δ Γ B hE hnm => ?_)
  refine g_aload_n B 0 dX1_isOn_0 rfl rfl ?_
  refine g_aload_n B 1 dX1_isOn_1 rfl rfl ?_
  replace h := bnP_s h
  obtain ⟨x1, h2, h⟩ := h
  refine g_getI B fl_RX1_92 (by decide) dX1_isOn_2 h2 ?_
  replace h := bnP_s h
  obtain ⟨x3, h4, h⟩ := h
  refine g_callVs0 (st := []) B (cX1_leafOfc h4) (Nat.le_of_ble_eq_true rfl) rfl rfl mi_X1_leafOf lk_RX1_124 ⟨Nat.le_of_ble_eq_true rfl, Nat.le_of_ble_eq_true rfl⟩ rfl rfl (Nat.le_of_ble_eq_true rfl) dX1_isOn_5 (Nat.zero_le _) (Nat.zero_le _) ?_
  refine g_iload_n B 2 dX1_isOn_8 rfl rfl ?_
  refine g_icmp_gt B 35 dX1_isOn_9 (by decide) (fun hc => ?_) (fun hc => ?_)
  · replace h := ifp hc h
    refine g_iconst (v := 0) B dX1_isOn_35 (by decide) ?_
    replace h := Option.some.inj h
    subst h
    exact g_zret B hE rfl (Nat.zero_le _) (Nat.zero_le _) dX1_isOn_36
  · replace h := ifn hc h
    refine g_aload_n B 0 dX1_isOn_12 rfl rfl ?_
    refine g_aload_n B 1 dX1_isOn_13 rfl rfl ?_
    replace h := bnP_s h
    obtain ⟨x5, h6, h⟩ := h
    refine g_getI B fl_RX1_92 (by decide) dX1_isOn_14 h6 ?_
    refine g_aload_n B 1 dX1_isOn_17 rfl rfl ?_
    replace h := bnP_s h
    obtain ⟨x7, h8, h⟩ := h
    refine g_getI B fl_RX1_91 (by decide) dX1_isOn_18 h8 ?_
    refine g_iadd B dX1_isOn_21 ?_
    refine g_iconst (v := 1) B dX1_isOn_22 (by decide) ?_
    refine g_isub B dX1_isOn_23 ?_
    replace h := bnP_s h
    obtain ⟨x9, h10, h⟩ := h
    refine g_callVs0 (st := []) B (cX1_leafOfc h10) (Nat.le_of_ble_eq_true rfl) rfl rfl mi_X1_leafOf lk_RX1_124 ⟨Nat.le_of_ble_eq_true rfl, Nat.le_of_ble_eq_true rfl⟩ rfl rfl (Nat.le_of_ble_eq_true rfl) dX1_isOn_24 (Nat.zero_le _) (Nat.zero_le _) ?_
    refine g_iload_n B 2 dX1_isOn_27 rfl rfl ?_
    refine g_icmp_lt B 35 dX1_isOn_28 (by decide) (fun hc => ?_) (fun hc => ?_)
    · replace h := ifp hc h
      refine g_iconst (v := 0) B dX1_isOn_35 (by decide) ?_
      replace h := Option.some.inj h
      subst h
      exact g_zret B hE rfl (Nat.zero_le _) (Nat.zero_le _) dX1_isOn_36
    · replace h := ifn hc h
      refine g_iconst (v := 1) B dX1_isOn_31 (by decide) ?_
      refine g_goto B 36 dX1_isOn_32 (by decide) ?_
      replace h := Option.some.inj h
      subst h
      exact g_zret B hE rfl (Nat.zero_le _) (Nat.zero_le _) dX1_isOn_36
set_option maxRecDepth 100000 in
set_option maxHeartbeats 4000000 in
theorem cX1_actsOnc {l : Launch} {v0 : Option Nat} {v1 : Int32} {σ : HpT} {r : Int32} (h : fX1_actsOn v0 v1 σ = some r) : IsK σ v0 1 ∧ Ct l yX1_actsOn cX1_actsOn 4 (some .int) 2 43 [va_rf v0, .int v1] σ (.ok (some (.int r))) σ 0 0 := by
  unfold fX1_actsOn at h
  replace h := bnP_s h
  obtain ⟨u, hk, h⟩ := h
  replace hk := isK_s hk
  refine ⟨hk, ?_⟩
  refine ct_start mi_X1_actsOn.1 rfl (al_le (al_1 (rf_cat _) (al_1 rfl al_n)) (Nat.le_of_ble_eq_true rfl)) (ag_1 (rf_cat _) (ag_1 rfl ag_n)) (fun Δ Γ B hE hnm => ?_)
  refine g_iconst (v := 0) B dX1_actsOn_0 (by decide) ?_
  refine g_istore_n B dX1_actsOn_1 rfl (Nat.le_of_ble_eq_true rfl) (s1_c (f1_k rfl (f1_1 rfl rfl f1_n))) ?_
  refine g_iconst (v := 0) B dX1_actsOn_2 (by decide) ?_
  refine g_istore_n B dX1_actsOn_3 rfl (Nat.le_of_ble_eq_true rfl) (s1_c (f1_1 rfl rfl (f1_k rfl (f1_k rfl f1_n)))) ?_
  replace h := bnP_s h
  obtain ⟨r2, h3, h⟩ := h
  have kE4 : GW Δ Γ (0) (0) 35 [(2, .int r2)] [] σ := by
    refine g_iload_n B 0 dX1_actsOn_35 rfl rfl ?_
    replace h := Option.some.inj h
    subst h
    exact g_iret B hE (Nat.zero_le _) (Nat.zero_le _) dX1_actsOn_36
  clear h
  refine g_sub [2, 3, 1, 0] rfl ?_
  refine lpP_w (I := fun q1 => GW Δ Γ (0) (0) 4 [(0, va_rf v0), (1, .int v1), (2, .int q1.1), (3, .int q1.2)] [] σ) (r := r2) ?_ FUEL (0, 0) h3
  intro q1 x8 h hI6 hR7
  unfold fX1_actsOn_l1 at h
  obtain ⟨qv10, qv11⟩ := q1
  show GW Δ Γ (0) (0) 4 [(0, va_rf v0), (1, .int v1), (2, .int qv10), (3, .int qv11)] [] σ
  dsimp only at h
  refine g_iload_n B 3 dX1_actsOn_4 rfl rfl ?_
  refine g_aload_n B 0 dX1_actsOn_5 rfl rfl ?_
  replace h := bnP_s h
  obtain ⟨x12, h13, h⟩ := h
  refine g_getI B fl_RX1_55 (by decide) dX1_actsOn_6 h13 ?_
  refine g_icmp_ge B 35 dX1_actsOn_9 (by decide) (fun hc => ?_) (fun hc => ?_)
  · replace h := ifp hc h
    replace h := Option.some.inj h
    subst h
    have e8 := hR7 _ rfl
    subst e8
    exact g_sub [2] rfl kE4
  · replace h := ifn hc h
    refine g_aload_n B 0 dX1_actsOn_12 rfl rfl ?_
    refine g_aload_n B 0 dX1_actsOn_13 rfl rfl ?_
    replace h := bnP_s h
    obtain ⟨x14, h15, h⟩ := h
    refine g_getR B fl_RX1_11 (by decide) dX1_actsOn_14 h15 ?_
    refine g_iload_n B 3 dX1_actsOn_17 rfl rfl ?_
    replace h := bnP_s h
    obtain ⟨x16, h17, h⟩ := h
    refine g_ralds B (κ := 25) (by decide) rfl dX1_actsOn_18 h17 ?_
    refine g_iload_n B 1 dX1_actsOn_19 rfl rfl ?_
    replace h := bnP_s h
    obtain ⟨x18, h19, h⟩ := h
    refine g_callVs0 (st := []) B (cX1_isOnc h19) (Nat.le_of_ble_eq_true rfl) rfl rfl mi_X1_isOn lk_RX1_128 ⟨Nat.le_of_ble_eq_true rfl, Nat.le_of_ble_eq_true rfl⟩ rfl rfl (Nat.le_of_ble_eq_true rfl) dX1_actsOn_20 (Nat.zero_le _) (Nat.zero_le _) ?_
    refine g_if_eq B 29 dX1_actsOn_23 (by decide) (fun hc => ?_) (fun hc => ?_)
    · replace h := ifn (bI0 hc) h
      refine g_iinc (v := (qv11 + 1)) B 3 dX1_actsOn_29 rfl (by first | rfl | (congr 1; decide)) (Nat.le_of_ble_eq_true rfl) (s1_c (f1_k rfl (f1_k rfl (f1_1 rfl rfl (f1_x f1_n))))) ?_
      refine g_goto B 4 dX1_actsOn_32 (by decide) ?_
      replace h := Option.some.inj h
      subst h
      exact g_sub [1, 2, 3, 0] rfl (hI6 (qv10, (qv11 + 1)) rfl)
    · replace h := ifp (bI1 hc) h
      refine g_iinc (v := (qv10 + 1)) B 2 dX1_actsOn_26 rfl (by first | rfl | (congr 1; decide)) (Nat.le_of_ble_eq_true rfl) (s1_c (f1_k rfl (f1_1 rfl rfl (f1_x (f1_k rfl f1_n))))) ?_
      refine g_iinc (v := (qv11 + 1)) B 3 dX1_actsOn_29 rfl (by first | rfl | (congr 1; decide)) (Nat.le_of_ble_eq_true rfl) (s1_c (f1_1 rfl rfl (f1_k rfl (f1_k rfl (f1_x f1_n))))) ?_
      refine g_goto B 4 dX1_actsOn_32 (by decide) ?_
      replace h := Option.some.inj h
      subst h
      exact g_sub [2, 3, 1, 0] rfl (hI6 ((qv10 + 1), (qv11 + 1)) rfl)
set_option maxRecDepth 100000 in
set_option maxHeartbeats 4000000 in
theorem cX1_firstActOnc {l : Launch} {v0 : Option Nat} {v1 : Int32} {σ : HpT} {r : Int32} (h : fX1_firstActOn v0 v1 σ = some r) : IsK σ v0 1 ∧ Ct l yX1_firstActOn cX1_firstActOn 3 (some .int) 2 43 [va_rf v0, .int v1] σ (.ok (some (.int r))) σ 0 0 := by
  unfold fX1_firstActOn at h
  replace h := bnP_s h
  obtain ⟨u, hk, h⟩ := h
  replace hk := isK_s hk
  refine ⟨hk, ?_⟩
  refine ct_start mi_X1_firstActOn.1 rfl (al_le (al_1 (rf_cat _) (al_1 rfl al_n)) (Nat.le_of_ble_eq_true rfl)) (ag_1 (rf_cat _) (ag_1 rfl ag_n)) (fun Δ Γ B hE hnm => ?_)
  refine g_iconst (v := 0) B dX1_firstActOn_0 (by decide) ?_
  refine g_istore_n B dX1_firstActOn_1 rfl (Nat.le_of_ble_eq_true rfl) (s1_c (f1_k rfl (f1_1 rfl rfl f1_n))) ?_
  replace h := bnP_s h
  obtain ⟨r2, h3, h⟩ := h
  have kE4 : ∀ y18, r2 = .inl y18 → GW Δ Γ (0) (0) 34 [] [] σ := by
    intro y18 er
    subst er
    dsimp only at h
    refine g_iconst (v := 0) B dX1_firstActOn_34 (by decide) ?_
    replace h := Option.some.inj h
    subst h
    exact g_iret B hE (Nat.zero_le _) (Nat.zero_le _) dX1_firstActOn_35
  have kR5 : ∀ vv, r2 = .inr vv → En Δ Γ (.ok (some (.int vv))) σ 0 0 (some .int) ∧ 0 ≤ 0 ∧ 0 ≤ 0 := by
    intro vv er
    subst er
    dsimp only at h
    replace h := Option.some.inj h
    subst h
    exact ⟨hE, Nat.zero_le _, Nat.zero_le _⟩
  clear h
  refine g_sub [1, 2, 0] rfl ?_
  refine lpP_w (I := fun q1 => GW Δ Γ (0) (0) 2 [(0, va_rf v0), (1, .int v1), (2, .int q1)] [] σ) (r := r2) ?_ FUEL 0 h3
  intro q1 x8 h hI6 hR7
  unfold fX1_firstActOn_l1 at h
  refine g_iload_n B 2 dX1_firstActOn_2 rfl rfl ?_
  refine g_aload_n B 0 dX1_firstActOn_3 rfl rfl ?_
  replace h := bnP_s h
  obtain ⟨x10, h11, h⟩ := h
  refine g_getI B fl_RX1_55 (by decide) dX1_firstActOn_4 h11 ?_
  refine g_icmp_ge B 34 dX1_firstActOn_7 (by decide) (fun hc => ?_) (fun hc => ?_)
  · replace h := ifp hc h
    replace h := Option.some.inj h
    subst h
    have e8 := hR7 _ rfl
    subst e8
    exact g_sub [] rfl (kE4 _ rfl)
  · replace h := ifn hc h
    refine g_aload_n B 0 dX1_firstActOn_10 rfl rfl ?_
    refine g_aload_n B 0 dX1_firstActOn_11 rfl rfl ?_
    replace h := bnP_s h
    obtain ⟨x12, h13, h⟩ := h
    refine g_getR B fl_RX1_11 (by decide) dX1_firstActOn_12 h13 ?_
    refine g_iload_n B 2 dX1_firstActOn_15 rfl rfl ?_
    replace h := bnP_s h
    obtain ⟨x14, h15, h⟩ := h
    refine g_ralds B (κ := 25) (by decide) rfl dX1_firstActOn_16 h15 ?_
    refine g_iload_n B 1 dX1_firstActOn_17 rfl rfl ?_
    replace h := bnP_s h
    obtain ⟨x16, h17, h⟩ := h
    refine g_callVs0 (st := []) B (cX1_isOnc h17) (Nat.le_of_ble_eq_true rfl) rfl rfl mi_X1_isOn lk_RX1_128 ⟨Nat.le_of_ble_eq_true rfl, Nat.le_of_ble_eq_true rfl⟩ rfl rfl (Nat.le_of_ble_eq_true rfl) dX1_firstActOn_18 (Nat.zero_le _) (Nat.zero_le _) ?_
    refine g_if_eq B 28 dX1_firstActOn_21 (by decide) (fun hc => ?_) (fun hc => ?_)
    · replace h := ifn (bI0 hc) h
      refine g_iinc (v := (q1 + 1)) B 2 dX1_firstActOn_28 rfl (by first | rfl | (congr 1; decide)) (Nat.le_of_ble_eq_true rfl) (s1_c (f1_k rfl (f1_1 rfl rfl (f1_x f1_n)))) ?_
      refine g_goto B 2 dX1_firstActOn_31 (by decide) ?_
      replace h := Option.some.inj h
      subst h
      exact g_sub [1, 2, 0] rfl (hI6 _ rfl)
    · replace h := ifp (bI1 hc) h
      refine g_iload_n B 2 dX1_firstActOn_24 rfl rfl ?_
      refine g_iconst (v := 1) B dX1_firstActOn_25 (by decide) ?_
      refine g_iadd B dX1_firstActOn_26 ?_
      replace h := Option.some.inj h
      subst h
      have e8 := hR7 _ rfl
      obtain ⟨hE, hc9, hs9⟩ := kR5 _ e8.symm
      exact g_iret B hE hc9 hs9 dX1_firstActOn_27
set_option maxRecDepth 100000 in
set_option maxHeartbeats 4000000 in
theorem cX3_holdsc {l : Launch} {v0 : Option Nat} {v1 : Option Nat} {v2 : Int32} {σ : HpT} {r : Bool} (h : fX3_holds v0 v1 v2 σ = some r) : IsK σ v0 3 ∧ Ct l yX3_holds cX3_holds 3 (some .boolean) 0 0 [va_rf v0, va_rf v1, .int v2] σ (.ok (some (.int (bI r)))) σ 0 0 := by
  unfold fX3_holds at h
  replace h := bnP_s h
  obtain ⟨u, hk, h⟩ := h
  replace hk := isK_s hk
  refine ⟨hk, ?_⟩
  refine ct_start mi_X3_holds.1 rfl (al_le (al_1 (rf_cat _) (al_1 (rf_cat _) (al_1 rfl al_n))) (Nat.le_of_ble_eq_true rfl)) (ag_1 (rf_cat _) (ag_1 (rf_cat _) (ag_1 rfl ag_n))) (fun Δ Γ B hE hnm => ?_)
  refine g_iload_n B 2 dX3_holds_0 rfl rfl ?_
  refine g_aload_n B 0 dX3_holds_1 rfl rfl ?_
  replace h := bnP_s h
  obtain ⟨x1, h2, h⟩ := h
  refine g_getI B fl_RX3_18 (by decide) dX3_holds_2 h2 ?_
  refine g_icmp_lt B 25 dX3_holds_5 (by decide) (fun hc => ?_) (fun hc => ?_)
  · replace h := ifp hc h
    refine g_iconst (v := 0) B dX3_holds_25 (by decide) ?_
    replace h := Option.some.inj h
    subst h
    exact g_zret B hE rfl (Nat.zero_le _) (Nat.zero_le _) dX3_holds_26
  · replace h := ifn hc h
    refine g_iload_n B 2 dX3_holds_8 rfl rfl ?_
    refine g_aload_n B 0 dX3_holds_9 rfl rfl ?_
    replace h := bnP_s h
    obtain ⟨x3, h4, h⟩ := h
    refine g_getI B fl_RX3_21 (by decide) dX3_holds_10 h4 ?_
    refine g_icmp_gt B 25 dX3_holds_13 (by decide) (fun hc => ?_) (fun hc => ?_)
    · replace h := ifp hc h
      refine g_iconst (v := 0) B dX3_holds_25 (by decide) ?_
      replace h := Option.some.inj h
      subst h
      exact g_zret B hE rfl (Nat.zero_le _) (Nat.zero_le _) dX3_holds_26
    · replace h := ifn hc h
      refine g_aload_n B 1 dX3_holds_16 rfl rfl ?_
      replace h := bnP_s h
      obtain ⟨x5, h6, h⟩ := h
      refine g_getRg B fl_RX3_34 (by decide) dX3_holds_17 h6 ?_
      refine g_iload_n B 2 dX3_holds_20 rfl rfl ?_
      replace h := bnP_s h
      obtain ⟨x7, h8, h⟩ := h
      refine g_zald B dX3_holds_21 h8 ?_
      refine g_if_eq B 27 dX3_holds_22 (by decide) (fun hc => ?_) (fun hc => ?_)
      · replace h := ifp hc h
        refine g_aload_n B 0 dX3_holds_27 rfl rfl ?_
        replace h := bnP_s h
        obtain ⟨x9, h10, h⟩ := h
        refine g_getI B fl_RX3_15 (by decide) dX3_holds_28 h10 ?_
        refine g_iconst (v := 2) B dX3_holds_31 (by decide) ?_
        refine g_icmp_ne B 51 dX3_holds_32 (by decide) (fun hc => ?_) (fun hc => ?_)
        · replace h := ifn hc h
          refine g_iconst (v := 1) B dX3_holds_51 (by decide) ?_
          refine g_goto B 56 dX3_holds_52 (by decide) ?_
          replace h := Option.some.inj h
          subst h
          exact g_zret B hE rfl (Nat.zero_le _) (Nat.zero_le _) dX3_holds_56
        · replace h := ifp hc h
          refine g_iload_n B 2 dX3_holds_35 rfl rfl ?_
          refine g_aload_n B 0 dX3_holds_36 rfl rfl ?_
          replace h := bnP_s h
          obtain ⟨x11, h12, h⟩ := h
          refine g_getI B fl_RX3_18 (by decide) dX3_holds_37 h12 ?_
          refine g_icmp_eq B 51 dX3_holds_40 (by decide) (fun hc => ?_) (fun hc => ?_)
          · replace h := ifp hc h
            refine g_iconst (v := 1) B dX3_holds_51 (by decide) ?_
            refine g_goto B 56 dX3_holds_52 (by decide) ?_
            replace h := Option.some.inj h
            subst h
            exact g_zret B hE rfl (Nat.zero_le _) (Nat.zero_le _) dX3_holds_56
          · replace h := ifn hc h
            refine g_iload_n B 2 dX3_holds_43 rfl rfl ?_
            refine g_aload_n B 0 dX3_holds_44 rfl rfl ?_
            replace h := bnP_s h
            obtain ⟨x13, h14, h⟩ := h
            refine g_getI B fl_RX3_21 (by decide) dX3_holds_45 h14 ?_
            refine g_icmp_ne B 55 dX3_holds_48 (by decide) (fun hc => ?_) (fun hc => ?_)
            · replace h := ifn hc h
              refine g_iconst (v := 0) B dX3_holds_55 (by decide) ?_
              replace h := Option.some.inj h
              subst h
              exact g_zret B hE rfl (Nat.zero_le _) (Nat.zero_le _) dX3_holds_56
            · replace h := ifp hc h
              refine g_iconst (v := 1) B dX3_holds_51 (by decide) ?_
              refine g_goto B 56 dX3_holds_52 (by decide) ?_
              replace h := Option.some.inj h
              subst h
              exact g_zret B hE rfl (Nat.zero_le _) (Nat.zero_le _) dX3_holds_56
      · replace h := ifn hc h
        refine g_iconst (v := 0) B dX3_holds_25 (by decide) ?_
        replace h := Option.some.inj h
        subst h
        exact g_zret B hE rfl (Nat.zero_le _) (Nat.zero_le _) dX3_holds_26
set_option maxRecDepth 100000 in
set_option maxHeartbeats 4000000 in
theorem cX1_copiesWithc {l : Launch} {v0 : Option Nat} {v1 : Int32} {σ : HpT} {r : Int32} (h : fX1_copiesWith v0 v1 σ = some r) : IsK σ v0 1 ∧ Ct l yX1_copiesWith cX1_copiesWith 4 (some .int) 1 22 [va_rf v0, .int v1] σ (.ok (some (.int r))) σ 0 0 := by
  unfold fX1_copiesWith at h
  replace h := bnP_s h
  obtain ⟨u, hk, h⟩ := h
  replace hk := isK_s hk
  refine ⟨hk, ?_⟩
  refine ct_start mi_X1_copiesWith.1 rfl (al_le (al_1 (rf_cat _) (al_1 rfl al_n)) (Nat.le_of_ble_eq_true rfl)) (ag_1 (rf_cat _) (ag_1 rfl ag_n)) (fun Δ Γ B hE hnm => ?_)
  refine g_iconst (v := 0) B dX1_copiesWith_0 (by decide) ?_
  refine g_istore_n B dX1_copiesWith_1 rfl (Nat.le_of_ble_eq_true rfl) (s1_c (f1_k rfl (f1_1 rfl rfl f1_n))) ?_
  refine g_iconst (v := 0) B dX1_copiesWith_2 (by decide) ?_
  refine g_istore_n B dX1_copiesWith_3 rfl (Nat.le_of_ble_eq_true rfl) (s1_c (f1_1 rfl rfl (f1_k rfl (f1_k rfl f1_n)))) ?_
  replace h := bnP_s h
  obtain ⟨r2, h3, h⟩ := h
  have kE4 : GW Δ Γ (0) (0) 38 [(2, .int r2)] [] σ := by
    refine g_iload_n B 0 dX1_copiesWith_38 rfl rfl ?_
    replace h := Option.some.inj h
    subst h
    exact g_iret B hE (Nat.zero_le _) (Nat.zero_le _) dX1_copiesWith_39
  clear h
  refine g_sub [2, 3, 1, 0] rfl ?_
  refine lpP_w (I := fun q1 => GW Δ Γ (0) (0) 4 [(0, va_rf v0), (1, .int v1), (2, .int q1.1), (3, .int q1.2)] [] σ) (r := r2) ?_ FUEL (0, 0) h3
  intro q1 x8 h hI6 hR7
  unfold fX1_copiesWith_l1 at h
  obtain ⟨qv10, qv11⟩ := q1
  show GW Δ Γ (0) (0) 4 [(0, va_rf v0), (1, .int v1), (2, .int qv10), (3, .int qv11)] [] σ
  dsimp only at h
  refine g_iload_n B 3 dX1_copiesWith_4 rfl rfl ?_
  refine g_aload_n B 0 dX1_copiesWith_5 rfl rfl ?_
  replace h := bnP_s h
  obtain ⟨x12, h13, h⟩ := h
  refine g_getI B fl_RX1_58 (by decide) dX1_copiesWith_6 h13 ?_
  refine g_icmp_ge B 38 dX1_copiesWith_9 (by decide) (fun hc => ?_) (fun hc => ?_)
  · replace h := ifp hc h
    replace h := Option.some.inj h
    subst h
    have e8 := hR7 _ rfl
    subst e8
    exact g_sub [2] rfl kE4
  · replace h := ifn hc h
    refine g_aload_n B 0 dX1_copiesWith_12 rfl rfl ?_
    replace h := bnP_s h
    obtain ⟨x14, h15, h⟩ := h
    refine g_getR B fl_RX1_17 (by decide) dX1_copiesWith_13 h15 ?_
    refine g_iload_n B 3 dX1_copiesWith_16 rfl rfl ?_
    replace h := bnP_s h
    obtain ⟨x16, h17, h⟩ := h
    refine g_ralds B (κ := 26) (by decide) rfl dX1_copiesWith_17 h17 ?_
    refine g_aload_n B 0 dX1_copiesWith_18 rfl rfl ?_
    replace h := bnP_s h
    obtain ⟨x18, h19, h⟩ := h
    refine g_getR B fl_RX1_24 (by decide) dX1_copiesWith_19 h19 ?_
    refine g_iload_n B 1 dX1_copiesWith_22 rfl rfl ?_
    replace h := bnP_s h
    obtain ⟨x20, h21, h⟩ := h
    refine g_callVs0 (st := []) B (cX3_holdsc h21) (Nat.le_of_ble_eq_true rfl) rfl rfl mi_X3_holds lk_RX1_132 ⟨Nat.le_of_ble_eq_true rfl, Nat.le_of_ble_eq_true rfl⟩ rfl rfl (Nat.le_of_ble_eq_true rfl) dX1_copiesWith_23 (Nat.zero_le _) (Nat.zero_le _) ?_
    refine g_if_eq B 32 dX1_copiesWith_26 (by decide) (fun hc => ?_) (fun hc => ?_)
    · replace h := ifn (bI0 hc) h
      refine g_iinc (v := (qv11 + 1)) B 3 dX1_copiesWith_32 rfl (by first | rfl | (congr 1; decide)) (Nat.le_of_ble_eq_true rfl) (s1_c (f1_k rfl (f1_k rfl (f1_1 rfl rfl (f1_x f1_n))))) ?_
      refine g_goto B 4 dX1_copiesWith_35 (by decide) ?_
      replace h := Option.some.inj h
      subst h
      exact g_sub [1, 2, 3, 0] rfl (hI6 (qv10, (qv11 + 1)) rfl)
    · replace h := ifp (bI1 hc) h
      refine g_iinc (v := (qv10 + 1)) B 2 dX1_copiesWith_29 rfl (by first | rfl | (congr 1; decide)) (Nat.le_of_ble_eq_true rfl) (s1_c (f1_k rfl (f1_1 rfl rfl (f1_x (f1_k rfl f1_n))))) ?_
      refine g_iinc (v := (qv11 + 1)) B 3 dX1_copiesWith_32 rfl (by first | rfl | (congr 1; decide)) (Nat.le_of_ble_eq_true rfl) (s1_c (f1_1 rfl rfl (f1_k rfl (f1_k rfl (f1_x f1_n))))) ?_
      refine g_goto B 4 dX1_copiesWith_35 (by decide) ?_
      replace h := Option.some.inj h
      subst h
      exact g_sub [2, 3, 1, 0] rfl (hI6 ((qv10 + 1), (qv11 + 1)) rfl)
set_option maxRecDepth 100000 in
set_option maxHeartbeats 4000000 in
theorem cX4_isTherec {l : Launch} {v0 : Option Nat} {v1 : Int32} {σ : HpT} {r : Bool} (h : fX4_isThere v0 v1 σ = some r) : IsK σ v0 4 ∧ Ct l yX4_isThere cX4_isThere 2 (some .boolean) 0 0 [va_rf v0, .int v1] σ (.ok (some (.int (bI r)))) σ 0 0 := by
  unfold fX4_isThere at h
  replace h := bnP_s h
  obtain ⟨u, hk, h⟩ := h
  replace hk := isK_s hk
  refine ⟨hk, ?_⟩
  refine ct_start mi_X4_isThere.1 rfl (al_le (al_1 (rf_cat _) (al_1 rfl al_n)) (Nat.le_of_ble_eq_true rfl)) (ag_1 (rf_cat _) (ag_1 rfl ag_n)) (fun Δ Γ B hE hnm => ?_)
  refine g_iload_n B 1 dX4_isThere_0 rfl rfl ?_
  refine g_if_lt B 16 dX4_isThere_1 (by decide) (fun hc => ?_) (fun hc => ?_)
  · replace h := ifp hc h
    refine g_iconst (v := 0) B dX4_isThere_16 (by decide) ?_
    replace h := Option.some.inj h
    subst h
    exact g_zret B hE rfl (Nat.zero_le _) (Nat.zero_le _) dX4_isThere_17
  · replace h := ifn hc h
    refine g_iload_n B 1 dX4_isThere_4 rfl rfl ?_
    refine g_aload_n B 0 dX4_isThere_5 rfl rfl ?_
    replace h := bnP_s h
    obtain ⟨x1, h2, h⟩ := h
    refine g_getI B fl_RX4_23 (by decide) dX4_isThere_6 h2 ?_
    refine g_icmp_ge B 16 dX4_isThere_9 (by decide) (fun hc => ?_) (fun hc => ?_)
    · replace h := ifp hc h
      refine g_iconst (v := 0) B dX4_isThere_16 (by decide) ?_
      replace h := Option.some.inj h
      subst h
      exact g_zret B hE rfl (Nat.zero_le _) (Nat.zero_le _) dX4_isThere_17
    · replace h := ifn hc h
      refine g_iconst (v := 1) B dX4_isThere_12 (by decide) ?_
      refine g_goto B 17 dX4_isThere_13 (by decide) ?_
      replace h := Option.some.inj h
      subst h
      exact g_zret B hE rfl (Nat.zero_le _) (Nat.zero_le _) dX4_isThere_17
set_option maxRecDepth 100000 in
set_option maxHeartbeats 4000000 in
theorem cX4_isLostc {l : Launch} {v0 : Option Nat} {v1 : Int32} {σ : HpT} {r : Bool} (h : fX4_isLost v0 v1 σ = some r) : IsK σ v0 4 ∧ Ct l yX4_isLost cX4_isLost 2 (some .boolean) 1 21 [va_rf v0, .int v1] σ (.ok (some (.int (bI r)))) σ 0 0 := by
  unfold fX4_isLost at h
  replace h := bnP_s h
  obtain ⟨u, hk, h⟩ := h
  replace hk := isK_s hk
  refine ⟨hk, ?_⟩
  refine ct_start mi_X4_isLost.1 rfl (al_le (al_1 (rf_cat _) (al_1 rfl al_n)) (Nat.le_of_ble_eq_true rfl)) (ag_1 (rf_cat _) (ag_1 rfl ag_n)) (fun Δ Γ B hE hnm => ?_)
  refine g_aload_n B 0 dX4_isLost_0 rfl rfl ?_
  refine g_iload_n B 1 dX4_isLost_1 rfl rfl ?_
  replace h := bnP_s h
  obtain ⟨x1, h2, h⟩ := h
  refine g_callVs0 (st := []) B (cX4_isTherec h2) (Nat.le_of_ble_eq_true rfl) rfl rfl mi_X4_isThere lk_RX4_32 ⟨Nat.le_of_ble_eq_true rfl, Nat.le_of_ble_eq_true rfl⟩ rfl rfl (Nat.le_of_ble_eq_true rfl) dX4_isLost_2 (Nat.zero_le _) (Nat.zero_le _) ?_
  refine g_if_eq B 22 dX4_isLost_5 (by decide) (fun hc => ?_) (fun hc => ?_)
  · replace h := ifn (bI0 hc) h
    refine g_iconst (v := 0) B dX4_isLost_22 (by decide) ?_
    replace h := Option.some.inj h
    subst h
    exact g_zret B hE rfl (Nat.zero_le _) (Nat.zero_le _) dX4_isLost_23
  · replace h := ifp (bI1 hc) h
    refine g_aload_n B 0 dX4_isLost_8 rfl rfl ?_
    replace h := bnP_s h
    obtain ⟨x3, h4, h⟩ := h
    refine g_getR B fl_RX4_11 (by decide) dX4_isLost_9 h4 ?_
    refine g_iload_n B 1 dX4_isLost_12 rfl rfl ?_
    replace h := bnP_s h
    obtain ⟨x5, h6, h⟩ := h
    refine g_iald B dX4_isLost_13 h6 ?_
    refine g_iconst (v := 2) B dX4_isLost_14 (by decide) ?_
    refine g_icmp_ne B 22 dX4_isLost_15 (by decide) (fun hc => ?_) (fun hc => ?_)
    · replace h := ifn hc h
      refine g_iconst (v := 0) B dX4_isLost_22 (by decide) ?_
      replace h := Option.some.inj h
      subst h
      exact g_zret B hE rfl (Nat.zero_le _) (Nat.zero_le _) dX4_isLost_23
    · replace h := ifp hc h
      refine g_iconst (v := 1) B dX4_isLost_18 (by decide) ?_
      refine g_goto B 23 dX4_isLost_19 (by decide) ?_
      replace h := Option.some.inj h
      subst h
      exact g_zret B hE rfl (Nat.zero_le _) (Nat.zero_le _) dX4_isLost_23
set_option maxRecDepth 100000 in
set_option maxHeartbeats 4000000 in
theorem cX1_isKnownc {l : Launch} {v0 : Option Nat} {v1 : Int32} {σ : HpT} {r : Bool} (h : fX1_isKnown v0 v1 σ = some r) : IsK σ v0 1 ∧ Ct l yX1_isKnown cX1_isKnown 2 (some .boolean) 2 45 [va_rf v0, .int v1] σ (.ok (some (.int (bI r)))) σ 0 0 := by
  unfold fX1_isKnown at h
  replace h := bnP_s h
  obtain ⟨u, hk, h⟩ := h
  replace hk := isK_s hk
  refine ⟨hk, ?_⟩
  refine ct_start mi_X1_isKnown.1 rfl (al_le (al_1 (rf_cat _) (al_1 rfl al_n)) (Nat.le_of_ble_eq_true rfl)) (ag_1 (rf_cat _) (ag_1 rfl ag_n)) (fun Δ Γ B hE hnm => ?_)
  refine g_aload_n B 0 dX1_isKnown_0 rfl rfl ?_
  replace h := bnP_s h
  obtain ⟨x1, h2, h⟩ := h
  refine g_getR B fl_RX1_31 (by decide) dX1_isKnown_1 h2 ?_
  refine g_aload_n B 0 dX1_isKnown_4 rfl rfl ?_
  refine g_iload_n B 1 dX1_isKnown_5 rfl rfl ?_
  replace h := bnP_s h
  obtain ⟨x3, h4, h⟩ := h
  refine g_callVs0 (st := [va_rf x1]) B (cX1_leafOfc h4) (Nat.le_of_ble_eq_true rfl) rfl rfl mi_X1_leafOf lk_RX1_124 ⟨Nat.le_of_ble_eq_true rfl, Nat.le_of_ble_eq_true rfl⟩ rfl rfl (Nat.le_of_ble_eq_true rfl) dX1_isKnown_6 (Nat.zero_le _) (Nat.zero_le _) ?_
  replace h := bnP_s h
  obtain ⟨x5, h6, h⟩ := h
  refine g_callVs0 (st := []) B (cX4_isLostc h6) (Nat.le_of_ble_eq_true rfl) rfl rfl mi_X4_isLost lk_RX1_136 ⟨Nat.le_of_ble_eq_true rfl, Nat.le_of_ble_eq_true rfl⟩ rfl rfl (Nat.le_of_ble_eq_true rfl) dX1_isKnown_9 (Nat.zero_le _) (Nat.zero_le _) ?_
  refine g_if_eq B 23 dX1_isKnown_12 (by decide) (fun hc => ?_) (fun hc => ?_)
  · replace h := ifn (bI0 hc) h
    refine g_iconst (v := 1) B dX1_isKnown_23 (by decide) ?_
    refine g_goto B 28 dX1_isKnown_24 (by decide) ?_
    replace h := Option.some.inj h
    subst h
    exact g_zret B hE rfl (Nat.zero_le _) (Nat.zero_le _) dX1_isKnown_28
  · replace h := ifp (bI1 hc) h
    refine g_aload_n B 0 dX1_isKnown_15 rfl rfl ?_
    refine g_iload_n B 1 dX1_isKnown_16 rfl rfl ?_
    replace h := bnP_s h
    obtain ⟨x7, h8, h⟩ := h
    refine g_callVs0 (st := []) B (cX1_copiesWithc h8) (Nat.le_of_ble_eq_true rfl) rfl rfl mi_X1_copiesWith lk_RX1_140 ⟨Nat.le_of_ble_eq_true rfl, Nat.le_of_ble_eq_true rfl⟩ rfl rfl (Nat.le_of_ble_eq_true rfl) dX1_isKnown_17 (Nat.zero_le _) (Nat.zero_le _) ?_
    refine g_if_le B 27 dX1_isKnown_20 (by decide) (fun hc => ?_) (fun hc => ?_)
    · replace h := ifp hc h
      refine g_iconst (v := 0) B dX1_isKnown_27 (by decide) ?_
      replace h := Option.some.inj h
      subst h
      exact g_zret B hE rfl (Nat.zero_le _) (Nat.zero_le _) dX1_isKnown_28
    · replace h := ifn hc h
      refine g_iconst (v := 1) B dX1_isKnown_23 (by decide) ?_
      refine g_goto B 28 dX1_isKnown_24 (by decide) ?_
      replace h := Option.some.inj h
      subst h
      exact g_zret B hE rfl (Nat.zero_le _) (Nat.zero_le _) dX1_isKnown_28
set_option maxRecDepth 100000 in
set_option maxHeartbeats 4000000 in
theorem cX1_unknownFromc {l : Launch} {v0 : Option Nat} {v1 : Int32} {v2 : Int32} {σ : HpT} {r : Int32} (h : fX1_unknownFrom v0 v1 v2 σ = some r) : IsK σ v0 1 ∧ Ct l yX1_unknownFrom cX1_unknownFrom 5 (some .int) 3 66 [va_rf v0, .int v1, .int v2] σ (.ok (some (.int r))) σ 0 0 := by
  unfold fX1_unknownFrom at h
  replace h := bnP_s h
  obtain ⟨u, hk, h⟩ := h
  replace hk := isK_s hk
  refine ⟨hk, ?_⟩
  refine ct_start mi_X1_unknownFrom.1 rfl (al_le (al_1 (rf_cat _) (al_1 rfl (al_1 rfl al_n))) (Nat.le_of_ble_eq_true rfl)) (ag_1 (rf_cat _) (ag_1 rfl (ag_1 rfl ag_n))) (fun Δ Γ B hE hnm => ?_)
  refine g_iconst (v := 0) B dX1_unknownFrom_0 (by decide) ?_
  refine g_istore_n B dX1_unknownFrom_1 rfl (Nat.le_of_ble_eq_true rfl) (s1_c (f1_k rfl (f1_k rfl (f1_1 rfl rfl f1_n)))) ?_
  refine g_iload_n B 2 dX1_unknownFrom_2 rfl rfl ?_
  refine g_istore B dX1_unknownFrom_3 (Nat.le_of_ble_eq_true rfl) (s1_c (f1_1 rfl rfl (f1_k rfl (f1_k rfl (f1_k rfl f1_n))))) ?_
  replace h := bnP_s h
  obtain ⟨r2, h3, h⟩ := h
  have kE4 : GW Δ Γ (0) (0) 31 [(3, .int r2)] [] σ := by
    refine g_iload_n B 0 dX1_unknownFrom_31 rfl rfl ?_
    replace h := Option.some.inj h
    subst h
    exact g_iret B hE (Nat.zero_le _) (Nat.zero_le _) dX1_unknownFrom_32
  clear h
  refine g_sub [2, 3, 4, 1, 0] rfl ?_
  refine lpP_w (I := fun q1 => GW Δ Γ (0) (0) 5 [(0, va_rf v0), (1, .int v1), (2, .int v2), (3, .int q1.1), (4, .int q1.2)] [] σ) (r := r2) ?_ FUEL (0, v1) h3
  intro q1 x8 h hI6 hR7
  unfold fX1_unknownFrom_l1 at h
  obtain ⟨qv10, qv11⟩ := q1
  show GW Δ Γ (0) (0) 5 [(0, va_rf v0), (1, .int v1), (2, .int v2), (3, .int qv10), (4, .int qv11)] [] σ
  dsimp only at h
  refine g_iload B 4 dX1_unknownFrom_5 rfl ?_
  refine g_iload_n B 1 dX1_unknownFrom_7 rfl rfl ?_
  refine g_iload_n B 2 dX1_unknownFrom_8 rfl rfl ?_
  refine g_iadd B dX1_unknownFrom_9 ?_
  refine g_icmp_ge B 31 dX1_unknownFrom_10 (by decide) (fun hc => ?_) (fun hc => ?_)
  · replace h := ifp hc h
    replace h := Option.some.inj h
    subst h
    have e8 := hR7 _ rfl
    subst e8
    exact g_sub [3] rfl kE4
  · replace h := ifn hc h
    refine g_aload_n B 0 dX1_unknownFrom_13 rfl rfl ?_
    refine g_iload B 4 dX1_unknownFrom_14 rfl ?_
    replace h := bnP_s h
    obtain ⟨x12, h13, h⟩ := h
    refine g_callVs0 (st := []) B (cX1_isKnownc h13) (Nat.le_of_ble_eq_true rfl) rfl rfl mi_X1_isKnown lk_RX1_143 ⟨Nat.le_of_ble_eq_true rfl, Nat.le_of_ble_eq_true rfl⟩ rfl rfl (Nat.le_of_ble_eq_true rfl) dX1_unknownFrom_16 (Nat.zero_le _) (Nat.zero_le _) ?_
    refine g_if_ne B 25 dX1_unknownFrom_19 (by decide) (fun hc => ?_) (fun hc => ?_)
    · replace h := ifp (bI1 hc) h
      refine g_iinc (v := (qv11 + 1)) B 4 dX1_unknownFrom_25 rfl (by first | rfl | (congr 1; decide)) (Nat.le_of_ble_eq_true rfl) (s1_c (f1_k rfl (f1_k rfl (f1_k rfl (f1_1 rfl rfl (f1_x f1_n)))))) ?_
      refine g_goto B 5 dX1_unknownFrom_28 (by decide) ?_
      replace h := Option.some.inj h
      subst h
      exact g_sub [1, 2, 3, 4, 0] rfl (hI6 (qv10, (qv11 + 1)) rfl)
    · replace h := ifn (bI0 hc) h
      refine g_iinc (v := (qv10 + 1)) B 3 dX1_unknownFrom_22 rfl (by first | rfl | (congr 1; decide)) (Nat.le_of_ble_eq_true rfl) (s1_c (f1_k rfl (f1_k rfl (f1_1 rfl rfl (f1_x (f1_k rfl f1_n)))))) ?_
      refine g_iinc (v := (qv11 + 1)) B 4 dX1_unknownFrom_25 rfl (by first | rfl | (congr 1; decide)) (Nat.le_of_ble_eq_true rfl) (s1_c (f1_1 rfl rfl (f1_k rfl (f1_k rfl (f1_k rfl (f1_x f1_n)))))) ?_
      refine g_goto B 5 dX1_unknownFrom_28 (by decide) ?_
      replace h := Option.some.inj h
      subst h
      exact g_sub [2, 3, 4, 1, 0] rfl (hI6 ((qv10 + 1), (qv11 + 1)) rfl)
set_option maxRecDepth 100000 in
set_option maxHeartbeats 4000000 in
theorem cX1_wouldBeUnknownc {l : Launch} {v0 : Option Nat} {v1 : Int32} {σ : HpT} {r : Int32} (h : fX1_wouldBeUnknown v0 v1 σ = some r) : IsK σ v0 1 ∧ Ct l yX1_wouldBeUnknown cX1_wouldBeUnknown 6 (some .int) 2 45 [va_rf v0, .int v1] σ (.ok (some (.int r))) σ 0 0 := by
  unfold fX1_wouldBeUnknown at h
  replace h := bnP_s h
  obtain ⟨u, hk, h⟩ := h
  replace hk := isK_s hk
  refine ⟨hk, ?_⟩
  refine ct_start mi_X1_wouldBeUnknown.1 rfl (al_le (al_1 (rf_cat _) (al_1 rfl al_n)) (Nat.le_of_ble_eq_true rfl)) (ag_1 (rf_cat _) (ag_1 rfl ag_n)) (fun Δ Γ B hE hnm => ?_)
  refine g_aload_n B 0 dX1_wouldBeUnknown_0 rfl rfl ?_
  replace h := bnP_s h
  obtain ⟨x1, h2, h⟩ := h
  refine g_getR B fl_RX1_31 (by decide) dX1_wouldBeUnknown_1 h2 ?_
  refine g_iload_n B 1 dX1_wouldBeUnknown_4 rfl rfl ?_
  replace h := bnP_s h
  obtain ⟨x3, h4, h⟩ := h
  refine g_callVs0 (st := []) B (cX4_isLostc h4) (Nat.le_of_ble_eq_true rfl) rfl rfl mi_X4_isLost lk_RX1_136 ⟨Nat.le_of_ble_eq_true rfl, Nat.le_of_ble_eq_true rfl⟩ rfl rfl (Nat.le_of_ble_eq_true rfl) dX1_wouldBeUnknown_5 (Nat.zero_le _) (Nat.zero_le _) ?_
  refine g_if_eq B 13 dX1_wouldBeUnknown_8 (by decide) (fun hc => ?_) (fun hc => ?_)
  · replace h := ifn (bI0 hc) h
    refine g_iconst (v := 0) B dX1_wouldBeUnknown_13 (by decide) ?_
    refine g_istore_n B dX1_wouldBeUnknown_14 rfl (Nat.le_of_ble_eq_true rfl) (s1_c (f1_k rfl (f1_1 rfl rfl f1_n))) ?_
    refine g_iload_n B 2 dX1_wouldBeUnknown_15 rfl rfl ?_
    refine g_aload_n B 1 dX1_wouldBeUnknown_16 rfl rfl ?_
    replace h := bnP_s h
    obtain ⟨x5, h6, h⟩ := h
    refine g_getI B fl_RX1_48 (by decide) dX1_wouldBeUnknown_17 h6 ?_
    refine g_imul B dX1_wouldBeUnknown_20 ?_
    refine g_istore_n B dX1_wouldBeUnknown_21 rfl (Nat.le_of_ble_eq_true rfl) (s1_c (f1_1 rfl rfl (f1_k rfl (f1_k rfl f1_n)))) ?_
    refine g_iload_n B 0 dX1_wouldBeUnknown_22 rfl rfl ?_
    refine g_aload_n B 2 dX1_wouldBeUnknown_23 rfl rfl ?_
    refine g_iload_n B 3 dX1_wouldBeUnknown_24 rfl rfl ?_
    replace h := bnP_s h
    obtain ⟨x7, h8, h⟩ := h
    refine g_callVs0 (st := [.int (v1 * x5)]) B (cX1_wordsOnc h8) (Nat.le_of_ble_eq_true rfl) rfl rfl mi_X1_wordsOn lk_RX1_146 ⟨Nat.le_of_ble_eq_true rfl, Nat.le_of_ble_eq_true rfl⟩ rfl rfl (Nat.le_of_ble_eq_true rfl) dX1_wouldBeUnknown_25 (Nat.zero_le _) (Nat.zero_le _) ?_
    refine g_iadd B dX1_wouldBeUnknown_28 ?_
    refine g_istore B dX1_wouldBeUnknown_29 (Nat.le_of_ble_eq_true rfl) (s1_c (f1_1 rfl rfl (f1_k rfl (f1_k rfl (f1_k rfl f1_n))))) ?_
    refine g_iload_n B 1 dX1_wouldBeUnknown_31 rfl rfl ?_
    refine g_istore B dX1_wouldBeUnknown_32 (Nat.le_of_ble_eq_true rfl) (s1_c (f1_1 rfl rfl (f1_k rfl (f1_k rfl (f1_k rfl (f1_k rfl f1_n)))))) ?_
    replace h := bnP_s h
    obtain ⟨r10, h11, h⟩ := h
    have kE12 : GW Δ Γ (0) (0) 59 [(2, .int r10)] [] σ := by
      refine g_iload_n B 0 dX1_wouldBeUnknown_59 rfl rfl ?_
      replace h := Option.some.inj h
      subst h
      exact g_iret B hE (Nat.zero_le _) (Nat.zero_le _) dX1_wouldBeUnknown_60
    clear h
    refine g_sub [4, 3, 1, 0] rfl ?_
    refine lpP_w (I := fun q9 => GW Δ Γ (0) (0) 34 [(0, va_rf v0), (2, .int q9.1), (4, .int ((v1 * x5) + x7)), (5, .int q9.2)] [] σ) (r := r10) ?_ FUEL (0, (v1 * x5)) h11
    intro q9 x16 h hI14 hR15
    unfold fX1_wouldBeUnknown_l1 at h
    obtain ⟨qv18, qv19⟩ := q9
    show GW Δ Γ (0) (0) 34 [(0, va_rf v0), (2, .int qv18), (4, .int ((v1 * x5) + x7)), (5, .int qv19)] [] σ
    dsimp only at h
    refine g_iload B 3 dX1_wouldBeUnknown_34 rfl ?_
    refine g_iload B 2 dX1_wouldBeUnknown_36 rfl ?_
    refine g_icmp_ge B 59 dX1_wouldBeUnknown_38 (by decide) (fun hc => ?_) (fun hc => ?_)
    · replace h := ifp hc h
      replace h := Option.some.inj h
      subst h
      have e8 := hR15 _ rfl
      subst e8
      exact g_sub [1] rfl kE12
    · replace h := ifn hc h
      refine g_aload_n B 0 dX1_wouldBeUnknown_41 rfl rfl ?_
      refine g_iload B 3 dX1_wouldBeUnknown_42 rfl ?_
      replace h := bnP_s h
      obtain ⟨x20, h21, h⟩ := h
      refine g_callVs0 (st := []) B (cX1_copiesWithc h21) (Nat.le_of_ble_eq_true rfl) rfl rfl mi_X1_copiesWith lk_RX1_140 ⟨Nat.le_of_ble_eq_true rfl, Nat.le_of_ble_eq_true rfl⟩ rfl rfl (Nat.le_of_ble_eq_true rfl) dX1_wouldBeUnknown_44 (Nat.zero_le _) (Nat.zero_le _) ?_
      refine g_if_ne B 53 dX1_wouldBeUnknown_47 (by decide) (fun hc => ?_) (fun hc => ?_)
      · replace h := ifn hc h
        refine g_iinc (v := (qv19 + 1)) B 3 dX1_wouldBeUnknown_53 rfl (by first | rfl | (congr 1; decide)) (Nat.le_of_ble_eq_true rfl) (s1_c (f1_k rfl (f1_k rfl (f1_1 rfl rfl (f1_x f1_n))))) ?_
        refine g_goto B 34 dX1_wouldBeUnknown_56 (by decide) ?_
        replace h := Option.some.inj h
        subst h
        exact g_sub [1, 2, 3, 0] rfl (hI14 (qv18, (qv19 + 1)) rfl)
      · replace h := ifp hc h
        refine g_iinc (v := (qv18 + 1)) B 1 dX1_wouldBeUnknown_50 rfl (by first | rfl | (congr 1; decide)) (Nat.le_of_ble_eq_true rfl) (s1_c (f1_k rfl (f1_x (f1_k rfl (f1_k rfl f1_n))))) ?_
        refine g_iinc (v := (qv19 + 1)) B 3 dX1_wouldBeUnknown_53 rfl (by first | rfl | (congr 1; decide)) (Nat.le_of_ble_eq_true rfl) (s1_c (f1_k rfl (f1_k rfl (f1_1 rfl rfl (f1_x f1_n))))) ?_
        refine g_goto B 34 dX1_wouldBeUnknown_56 (by decide) ?_
        replace h := Option.some.inj h
        subst h
        exact g_sub [2, 1, 3, 0] rfl (hI14 ((qv18 + 1), (qv19 + 1)) rfl)
  · replace h := ifp (bI1 hc) h
    refine g_iconst (v := 0) B dX1_wouldBeUnknown_11 (by decide) ?_
    replace h := Option.some.inj h
    subst h
    exact g_iret B hE (Nat.zero_le _) (Nat.zero_le _) dX1_wouldBeUnknown_12
set_option maxRecDepth 100000 in
set_option maxHeartbeats 4000000 in
theorem cX1_copiesOfc {l : Launch} {v0 : Option Nat} {v1 : Int32} {σ : HpT} {r : Int32} (h : fX1_copiesOf v0 v1 σ = some r) : IsK σ v0 1 ∧ Ct l yX1_copiesOf cX1_copiesOf 4 (some .int) 0 0 [va_rf v0, .int v1] σ (.ok (some (.int r))) σ 0 0 := by
  unfold fX1_copiesOf at h
  replace h := bnP_s h
  obtain ⟨u, hk, h⟩ := h
  replace hk := isK_s hk
  refine ⟨hk, ?_⟩
  refine ct_start mi_X1_copiesOf.1 rfl (al_le (al_1 (rf_cat _) (al_1 rfl al_n)) (Nat.le_of_ble_eq_true rfl)) (ag_1 (rf_cat _) (ag_1 rfl ag_n)) (fun Δ Γ B hE hnm => ?_)
  refine g_iconst (v := 0) B dX1_copiesOf_0 (by decide) ?_
  refine g_istore_n B dX1_copiesOf_1 rfl (Nat.le_of_ble_eq_true rfl) (s1_c (f1_k rfl (f1_1 rfl rfl f1_n))) ?_
  refine g_iconst (v := 0) B dX1_copiesOf_2 (by decide) ?_
  refine g_istore_n B dX1_copiesOf_3 rfl (Nat.le_of_ble_eq_true rfl) (s1_c (f1_1 rfl rfl (f1_k rfl (f1_k rfl f1_n)))) ?_
  replace h := bnP_s h
  obtain ⟨r2, h3, h⟩ := h
  have kE4 : GW Δ Γ (0) (0) 34 [(2, .int r2)] [] σ := by
    refine g_iload_n B 0 dX1_copiesOf_34 rfl rfl ?_
    replace h := Option.some.inj h
    subst h
    exact g_iret B hE (Nat.zero_le _) (Nat.zero_le _) dX1_copiesOf_35
  clear h
  refine g_sub [2, 3, 1, 0] rfl ?_
  refine lpP_w (I := fun q1 => GW Δ Γ (0) (0) 4 [(0, va_rf v0), (1, .int v1), (2, .int q1.1), (3, .int q1.2)] [] σ) (r := r2) ?_ FUEL (0, 0) h3
  intro q1 x8 h hI6 hR7
  unfold fX1_copiesOf_l1 at h
  obtain ⟨qv10, qv11⟩ := q1
  show GW Δ Γ (0) (0) 4 [(0, va_rf v0), (1, .int v1), (2, .int qv10), (3, .int qv11)] [] σ
  dsimp only at h
  refine g_iload_n B 3 dX1_copiesOf_4 rfl rfl ?_
  refine g_aload_n B 0 dX1_copiesOf_5 rfl rfl ?_
  replace h := bnP_s h
  obtain ⟨x12, h13, h⟩ := h
  refine g_getI B fl_RX1_58 (by decide) dX1_copiesOf_6 h13 ?_
  refine g_icmp_ge B 34 dX1_copiesOf_9 (by decide) (fun hc => ?_) (fun hc => ?_)
  · replace h := ifp hc h
    replace h := Option.some.inj h
    subst h
    have e8 := hR7 _ rfl
    subst e8
    exact g_sub [2] rfl kE4
  · replace h := ifn hc h
    refine g_aload_n B 0 dX1_copiesOf_12 rfl rfl ?_
    replace h := bnP_s h
    obtain ⟨x14, h15, h⟩ := h
    refine g_getR B fl_RX1_17 (by decide) dX1_copiesOf_13 h15 ?_
    refine g_iload_n B 3 dX1_copiesOf_16 rfl rfl ?_
    replace h := bnP_s h
    obtain ⟨x16, h17, h⟩ := h
    refine g_ralds B (κ := 26) (by decide) rfl dX1_copiesOf_17 h17 ?_
    replace h := bnP_s h
    obtain ⟨x18, h19, h⟩ := h
    refine g_getI B fl_RX1_149 (by decide) dX1_copiesOf_18 h19 ?_
    refine g_iload_n B 1 dX1_copiesOf_21 rfl rfl ?_
    refine g_icmp_ne B 28 dX1_copiesOf_22 (by decide) (fun hc => ?_) (fun hc => ?_)
    · replace h := ifn hc h
      refine g_iinc (v := (qv11 + 1)) B 3 dX1_copiesOf_28 rfl (by first | rfl | (congr 1; decide)) (Nat.le_of_ble_eq_true rfl) (s1_c (f1_k rfl (f1_k rfl (f1_1 rfl rfl (f1_x f1_n))))) ?_
      refine g_goto B 4 dX1_copiesOf_31 (by decide) ?_
      replace h := Option.some.inj h
      subst h
      exact g_sub [1, 2, 3, 0] rfl (hI6 (qv10, (qv11 + 1)) rfl)
    · replace h := ifp hc h
      refine g_iinc (v := (qv10 + 1)) B 2 dX1_copiesOf_25 rfl (by first | rfl | (congr 1; decide)) (Nat.le_of_ble_eq_true rfl) (s1_c (f1_k rfl (f1_1 rfl rfl (f1_x (f1_k rfl f1_n))))) ?_
      refine g_iinc (v := (qv11 + 1)) B 3 dX1_copiesOf_28 rfl (by first | rfl | (congr 1; decide)) (Nat.le_of_ble_eq_true rfl) (s1_c (f1_1 rfl rfl (f1_k rfl (f1_k rfl (f1_x f1_n))))) ?_
      refine g_goto B 4 dX1_copiesOf_31 (by decide) ?_
      replace h := Option.some.inj h
      subst h
      exact g_sub [2, 3, 1, 0] rfl (hI6 ((qv10 + 1), (qv11 + 1)) rfl)
set_option maxRecDepth 100000 in
set_option maxHeartbeats 4000000 in
theorem cX1_knownByAlonec {l : Launch} {v0 : Option Nat} {v1 : Option Nat} {σ : HpT} {r : Int32} (h : fX1_knownByAlone v0 v1 σ = some r) : IsK σ v0 1 ∧ Ct l yX1_knownByAlone cX1_knownByAlone 4 (some .int) 2 45 [va_rf v0, va_rf v1] σ (.ok (some (.int r))) σ 0 0 := by
  unfold fX1_knownByAlone at h
  replace h := bnP_s h
  obtain ⟨u, hk, h⟩ := h
  replace hk := isK_s hk
  refine ⟨hk, ?_⟩
  refine ct_start mi_X1_knownByAlone.1 rfl (al_le (al_1 (rf_cat _) (al_1 (rf_cat _) al_n)) (Nat.le_of_ble_eq_true rfl)) (ag_1 (rf_cat _) (ag_1 (rf_cat _) ag_n)) (fun Δ Γ B hE hnm => ?_)
  refine g_iconst (v := 0) B dX1_knownByAlone_0 (by decide) ?_
  refine g_istore_n B dX1_knownByAlone_1 rfl (Nat.le_of_ble_eq_true rfl) (s1_c (f1_k rfl (f1_1 rfl (rf_cat _) f1_n))) ?_
  refine g_aload_n B 2 dX1_knownByAlone_2 rfl rfl ?_
  replace h := bnP_s h
  obtain ⟨x1, h2, h⟩ := h
  refine g_getI B fl_RX1_152 (by decide) dX1_knownByAlone_3 h2 ?_
  refine g_istore_n B dX1_knownByAlone_6 rfl (Nat.le_of_ble_eq_true rfl) (s1_c (f1_1 rfl rfl (f1_k rfl (f1_k rfl f1_n)))) ?_
  replace h := bnP_s h
  obtain ⟨r4, h5, h⟩ := h
  have kE6 : GW Δ Γ (0) (0) 60 [(2, .int r4)] [] σ := by
    refine g_iload_n B 0 dX1_knownByAlone_60 rfl rfl ?_
    replace h := Option.some.inj h
    subst h
    exact g_iret B hE (Nat.zero_le _) (Nat.zero_le _) dX1_knownByAlone_61
  clear h
  refine g_sub [2, 3, 1, 0] rfl ?_
  refine lpP_w (I := fun q3 => GW Δ Γ (0) (0) 7 [(0, va_rf v0), (1, va_rf v1), (2, .int q3.1), (3, .int q3.2)] [] σ) (r := r4) ?_ FUEL (0, x1) h5
  intro q3 x10 h hI8 hR9
  unfold fX1_knownByAlone_l1 at h
  obtain ⟨qv12, qv13⟩ := q3
  show GW Δ Γ (0) (0) 7 [(0, va_rf v0), (1, va_rf v1), (2, .int qv12), (3, .int qv13)] [] σ
  dsimp only at h
  refine g_iload_n B 3 dX1_knownByAlone_7 rfl rfl ?_
  refine g_aload_n B 1 dX1_knownByAlone_8 rfl rfl ?_
  replace h := bnP_s h
  obtain ⟨x14, h15, h⟩ := h
  refine g_getI B fl_RX1_153 (by decide) dX1_knownByAlone_9 h15 ?_
  refine g_icmp_gt B 60 dX1_knownByAlone_12 (by decide) (fun hc => ?_) (fun hc => ?_)
  · replace h := ifp hc h
    replace h := Option.some.inj h
    subst h
    have e8 := hR9 _ rfl
    subst e8
    exact g_sub [2] rfl kE6
  · replace h := ifn hc h
    refine g_aload_n B 1 dX1_knownByAlone_15 rfl rfl ?_
    refine g_aload_n B 0 dX1_knownByAlone_16 rfl rfl ?_
    replace h := bnP_s h
    obtain ⟨x16, h17, h⟩ := h
    refine g_getR B fl_RX1_24 (by decide) dX1_knownByAlone_17 h17 ?_
    refine g_iload_n B 3 dX1_knownByAlone_20 rfl rfl ?_
    replace h := bnP_s h
    obtain ⟨x18, h19, h⟩ := h
    refine g_callVs0 (st := []) B (cX3_holdsc h19) (Nat.le_of_ble_eq_true rfl) rfl rfl mi_X3_holds lk_RX1_132 ⟨Nat.le_of_ble_eq_true rfl, Nat.le_of_ble_eq_true rfl⟩ rfl rfl (Nat.le_of_ble_eq_true rfl) dX1_knownByAlone_21 (Nat.zero_le _) (Nat.zero_le _) ?_
    refine g_if_eq B 54 dX1_knownByAlone_24 (by decide) (fun hc => ?_) (fun hc => ?_)
    · replace h := ifn (bI0 hc) h
      refine g_iinc (v := (qv13 + 1)) B 3 dX1_knownByAlone_54 rfl (by first | rfl | (congr 1; decide)) (Nat.le_of_ble_eq_true rfl) (s1_c (f1_k rfl (f1_k rfl (f1_1 rfl rfl (f1_x f1_n))))) ?_
      refine g_goto B 7 dX1_knownByAlone_57 (by decide) ?_
      replace h := Option.some.inj h
      subst h
      exact g_sub [1, 2, 3, 0] rfl (hI8 (qv12, (qv13 + 1)) rfl)
    · replace h := ifp (bI1 hc) h
      refine g_aload_n B 0 dX1_knownByAlone_27 rfl rfl ?_
      replace h := bnP_s h
      obtain ⟨x20, h21, h⟩ := h
      refine g_getR B fl_RX1_31 (by decide) dX1_knownByAlone_28 h21 ?_
      refine g_aload_n B 0 dX1_knownByAlone_31 rfl rfl ?_
      refine g_iload_n B 3 dX1_knownByAlone_32 rfl rfl ?_
      replace h := bnP_s h
      obtain ⟨x22, h23, h⟩ := h
      refine g_callVs0 (st := [va_rf x20]) B (cX1_leafOfc h23) (Nat.le_of_ble_eq_true rfl) rfl rfl mi_X1_leafOf lk_RX1_124 ⟨Nat.le_of_ble_eq_true rfl, Nat.le_of_ble_eq_true rfl⟩ rfl rfl (Nat.le_of_ble_eq_true rfl) dX1_knownByAlone_33 (Nat.zero_le _) (Nat.zero_le _) ?_
      replace h := bnP_s h
      obtain ⟨x24, h25, h⟩ := h
      refine g_callVs0 (st := []) B (cX4_isLostc h25) (Nat.le_of_ble_eq_true rfl) rfl rfl mi_X4_isLost lk_RX1_136 ⟨Nat.le_of_ble_eq_true rfl, Nat.le_of_ble_eq_true rfl⟩ rfl rfl (Nat.le_of_ble_eq_true rfl) dX1_knownByAlone_36 (Nat.zero_le _) (Nat.zero_le _) ?_
      refine g_if_eq B 54 dX1_knownByAlone_39 (by decide) (fun hc => ?_) (fun hc => ?_)
      · replace h := ifn (bI0 hc) h
        refine g_iinc (v := (qv13 + 1)) B 3 dX1_knownByAlone_54 rfl (by first | rfl | (congr 1; decide)) (Nat.le_of_ble_eq_true rfl) (s1_c (f1_k rfl (f1_k rfl (f1_1 rfl rfl (f1_x f1_n))))) ?_
        refine g_goto B 7 dX1_knownByAlone_57 (by decide) ?_
        replace h := Option.some.inj h
        subst h
        exact g_sub [1, 2, 3, 0] rfl (hI8 (qv12, (qv13 + 1)) rfl)
      · replace h := ifp (bI1 hc) h
        refine g_aload_n B 0 dX1_knownByAlone_42 rfl rfl ?_
        refine g_iload_n B 3 dX1_knownByAlone_43 rfl rfl ?_
        replace h := bnP_s h
        obtain ⟨x26, h27, h⟩ := h
        refine g_callVs0 (st := []) B (cX1_copiesWithc h27) (Nat.le_of_ble_eq_true rfl) rfl rfl mi_X1_copiesWith lk_RX1_140 ⟨Nat.le_of_ble_eq_true rfl, Nat.le_of_ble_eq_true rfl⟩ rfl rfl (Nat.le_of_ble_eq_true rfl) dX1_knownByAlone_44 (Nat.zero_le _) (Nat.zero_le _) ?_
        refine g_iconst (v := 1) B dX1_knownByAlone_47 (by decide) ?_
        refine g_icmp_ne B 54 dX1_knownByAlone_48 (by decide) (fun hc => ?_) (fun hc => ?_)
        · replace h := ifn hc h
          refine g_iinc (v := (qv13 + 1)) B 3 dX1_knownByAlone_54 rfl (by first | rfl | (congr 1; decide)) (Nat.le_of_ble_eq_true rfl) (s1_c (f1_k rfl (f1_k rfl (f1_1 rfl rfl (f1_x f1_n))))) ?_
          refine g_goto B 7 dX1_knownByAlone_57 (by decide) ?_
          replace h := Option.some.inj h
          subst h
          exact g_sub [1, 2, 3, 0] rfl (hI8 (qv12, (qv13 + 1)) rfl)
        · replace h := ifp hc h
          refine g_iinc (v := (qv12 + 1)) B 2 dX1_knownByAlone_51 rfl (by first | rfl | (congr 1; decide)) (Nat.le_of_ble_eq_true rfl) (s1_c (f1_k rfl (f1_1 rfl (rf_cat _) (f1_x (f1_k rfl f1_n))))) ?_
          refine g_iinc (v := (qv13 + 1)) B 3 dX1_knownByAlone_54 rfl (by first | rfl | (congr 1; decide)) (Nat.le_of_ble_eq_true rfl) (s1_c (f1_1 rfl rfl (f1_k rfl (f1_k rfl (f1_x f1_n))))) ?_
          refine g_goto B 7 dX1_knownByAlone_57 (by decide) ?_
          replace h := Option.some.inj h
          subst h
          exact g_sub [2, 3, 1, 0] rfl (hI8 ((qv12 + 1), (qv13 + 1)) rfl)
set_option maxRecDepth 100000 in
set_option maxHeartbeats 4000000 in
theorem cX3_drawc {l : Launch} {v0 : Option Nat} {v1 : Option Nat} {v2 : Option Nat} {v3 : Int32} {σ : HpT} {σ' : HpT} (h : fX3_draw v0 v1 v2 v3 σ = some σ') : IsK σ v0 3 ∧ Ct l yX3_draw cX3_draw 5 none 1 22 [va_rf v0, va_rf v1, va_rf v2, .int v3] σ (.ok none) σ' 0 0 := by
  unfold fX3_draw at h
  replace h := bnP_s h
  obtain ⟨u, hk, h⟩ := h
  replace hk := isK_s hk
  refine ⟨hk, ?_⟩
  refine ct_start mi_X3_draw.1 rfl (al_le (al_1 (rf_cat _) (al_1 (rf_cat _) (al_1 (rf_cat _) (al_1 rfl al_n)))) (Nat.le_of_ble_eq_true rfl)) (ag_1 (rf_cat _) (ag_1 (rf_cat _) (ag_1 (rf_cat _) (ag_1 rfl ag_n)))) (fun Δ Γ B hE hnm => ?_)
  refine g_aload_n B 0 dX3_draw_0 rfl rfl ?_
  refine g_aload_n B 2 dX3_draw_1 rfl rfl ?_
  replace h := bnP_s h
  obtain ⟨x1, h2, h⟩ := h
  refine g_getI B fl_RX3_27 (by decide) dX3_draw_2 h2 ?_
  replace h := bnP_s h
  obtain ⟨s5, h4, h⟩ := h
  refine g_putI B fl_RX3_9 (by decide) dX3_draw_5 h4 ?_
  refine g_aload_n B 0 dX3_draw_8 rfl rfl ?_
  refine g_iload_n B 3 dX3_draw_9 rfl rfl ?_
  replace h := bnP_s h
  obtain ⟨s8, h7, h⟩ := h
  refine g_putI B fl_RX3_15 (by decide) dX3_draw_10 h7 ?_
  refine g_aload_n B 0 dX3_draw_13 rfl rfl ?_
  refine g_iconst (v := 0) B dX3_draw_14 (by decide) ?_
  replace h := bnP_s h
  obtain ⟨s11, h10, h⟩ := h
  refine g_putI B fl_RX3_18 (by decide) dX3_draw_15 h10 ?_
  refine g_aload_n B 0 dX3_draw_18 rfl rfl ?_
  refine g_iconst (v := (-1)) B dX3_draw_19 (by decide) ?_
  replace h := bnP_s h
  obtain ⟨s14, h13, h⟩ := h
  refine g_putI B fl_RX3_21 (by decide) dX3_draw_20 h13 ?_
  refine g_aload_n B 0 dX3_draw_23 rfl rfl ?_
  refine g_iconst (v := 0) B dX3_draw_24 (by decide) ?_
  replace h := bnP_s h
  obtain ⟨s17, h16, h⟩ := h
  refine g_putI B fl_RX3_24 (by decide) dX3_draw_25 h16 ?_
  refine g_aload_n B 2 dX3_draw_28 rfl rfl ?_
  replace h := bnP_s h
  obtain ⟨x18, h19, h⟩ := h
  refine g_getI B fl_RX3_32 (by decide) dX3_draw_29 h19 ?_
  refine g_istore B dX3_draw_32 (Nat.le_of_ble_eq_true rfl) (s1_c (f1_k rfl (f1_k rfl (f1_k rfl (f1_1 rfl rfl f1_n))))) ?_
  replace h := bnS_s h
  obtain ⟨r21, s53, h22, h⟩ := h
  have kE23 : GW Δ Γ (0) (0) 91 [(0, va_rf v0), (1, va_rf v1), (2, va_rf v2)] [] s53 := by
    refine g_aload_n B 2 dX3_draw_91 rfl rfl ?_
    replace h := bnP_s h
    obtain ⟨x54, h55, h⟩ := h
    refine g_getI B fl_RX3_32 (by decide) dX3_draw_92 h55 ?_
    refine g_istore B dX3_draw_95 (Nat.le_of_ble_eq_true rfl) (s1_c (f1_k rfl (f1_k rfl (f1_k rfl f1_n)))) ?_
    replace h := bnS_s h
    obtain ⟨r57, s98, h58, h⟩ := h
    have kE59 : GW Δ Γ (0) (0) 168 [] [] s98 := by
      replace h := Option.some.inj h
      subst h
      exact g_vret B hE (Nat.zero_le _) (Nat.zero_le _) dX3_draw_168
    clear h
    refine g_sub [1, 2, 3, 0] rfl ?_
    refine lpS_w (I := fun q56 s65 => GW Δ Γ (0) (0) 97 [(0, va_rf v0), (1, va_rf v1), (2, va_rf v2), (4, .int q56)] [] s65) (r := r57) (σr := s98) ?_ FUEL x54 s53 h58
    intro q56 s65 x63 s9 h hI61 hR62
    unfold fX3_draw_l2 at h
    refine g_iload B 3 dX3_draw_97 rfl ?_
    refine g_aload_n B 2 dX3_draw_99 rfl rfl ?_
    replace h := bnP_s h
    obtain ⟨x66, h67, h⟩ := h
    refine g_getI B fl_RX3_32 (by decide) dX3_draw_100 h67 ?_
    refine g_aload_n B 2 dX3_draw_103 rfl rfl ?_
    replace h := bnP_s h
    obtain ⟨x68, h69, h⟩ := h
    refine g_getI B fl_RX3_33 (by decide) dX3_draw_104 h69 ?_
    refine g_iadd B dX3_draw_107 ?_
    refine g_icmp_ge B 168 dX3_draw_108 (by decide) (fun hc => ?_) (fun hc => ?_)
    · replace h := ifp hc h
      obtain ⟨w1, w2⟩ := inS h
      clear h
      subst w1
      subst w2
      obtain ⟨e8, e7⟩ := hR62 _ rfl
      subst e8
      subst e7
      exact g_sub [] rfl kE59
    · replace h := ifn hc h
      refine g_aload_n B 0 dX3_draw_111 rfl rfl ?_
      refine g_dup B dX3_draw_112 (rf_cat _) ?_
      replace h := bnP_s h
      obtain ⟨x70, h71, h⟩ := h
      refine g_getI B fl_RX3_24 (by decide) dX3_draw_113 h71 ?_
      refine g_aload_n B 0 dX3_draw_116 rfl rfl ?_
      refine g_aload_n B 1 dX3_draw_117 rfl rfl ?_
      refine g_iload B 3 dX3_draw_118 rfl ?_
      replace h := bnP_s h
      obtain ⟨x72, h73, h⟩ := h
      refine g_callVs0 (st := [.int x70, va_rf v0]) B (cX3_holdsc h73) (Nat.le_of_ble_eq_true rfl) rfl rfl mi_X3_holds lk_RX3_40 ⟨Nat.le_of_ble_eq_true rfl, Nat.le_of_ble_eq_true rfl⟩ rfl rfl (Nat.le_of_ble_eq_true rfl) dX3_draw_120 (Nat.zero_le _) (Nat.zero_le _) ?_
      replace h := bnP_s h
      obtain ⟨j74, h75, h⟩ := h
      have k77 : GW Δ Γ (0) (0) 131 [(0, va_rf v0), (1, va_rf v1), (2, va_rf v2), (4, .int q56)] [.int j74.2.2, .int j74.2.1, va_rf j74.1] s65 := by
        refine g_iadd B dX3_draw_131 ?_
        replace h := bnP_s h
        obtain ⟨s81, h80, h⟩ := h
        refine g_putI B fl_RX3_24 (by decide) dX3_draw_132 h80 ?_
        refine g_aload_n B 0 dX3_draw_135 rfl rfl ?_
        refine g_dup B dX3_draw_136 (rf_cat _) ?_
        replace h := bnP_s h
        obtain ⟨x82, h83, h⟩ := h
        refine g_getI B fl_RX3_24 (by decide) dX3_draw_137 h83 ?_
        refine g_aload_n B 0 dX3_draw_140 rfl rfl ?_
        replace h := bnP_s h
        obtain ⟨x84, h85, h⟩ := h
        refine g_getI B fl_RX3_15 (by decide) dX3_draw_141 h85 ?_
        replace h := bnP_s h
        obtain ⟨j86, h87, h⟩ := h
        have k89 : GW Δ Γ (0) (0) 158 [(0, va_rf v0), (1, va_rf v1), (2, va_rf v2), (4, .int q56)] [.int j86.2.2, .int j86.2.1, va_rf j86.1] s81 := by
          refine g_iadd B dX3_draw_158 ?_
          replace h := bnP_s h
          obtain ⟨s97, h96, h⟩ := h
          refine g_putI B fl_RX3_24 (by decide) dX3_draw_159 h96 ?_
          refine g_iinc (v := (q56 + 1)) B 3 dX3_draw_162 rfl (by first | rfl | (congr 1; decide)) (Nat.le_of_ble_eq_true rfl) (s1_c (f1_k rfl (f1_k rfl (f1_k rfl (f1_x f1_n))))) ?_
          refine g_goto B 97 dX3_draw_165 (by decide) ?_
          obtain ⟨w1, w2⟩ := inS h
          clear h
          subst w1
          subst w2
          exact g_sub [1, 2, 3, 0] rfl (hI61 _ rfl)
        clear h
        have h := h87
        clear h87
        refine g_if_ne B 157 dX3_draw_144 (by decide) (fun hc => ?_) (fun hc => ?_)
        · replace h := ifn hc h
          refine g_iconst (v := 0) B dX3_draw_157 (by decide) ?_
          replace h := Option.some.inj h
          subst h
          exact g_sub [0, 1, 2, 3] rfl k89
        · replace h := ifp hc h
          refine g_aload_n B 1 dX3_draw_147 rfl rfl ?_
          replace h := bnP_s h
          obtain ⟨x91, h92, h⟩ := h
          refine g_getRg B fl_RX3_44 (by decide) dX3_draw_148 h92 ?_
          refine g_iload B 3 dX3_draw_151 rfl ?_
          replace h := bnP_s h
          obtain ⟨x93, h94, h⟩ := h
          refine g_iald B dX3_draw_153 h94 ?_
          refine g_goto B 158 dX3_draw_154 (by decide) ?_
          replace h := Option.some.inj h
          subst h
          exact g_sub [0, 1, 2, 3] rfl k89
      clear h
      have h := h75
      clear h75
      refine g_if_eq B 130 dX3_draw_123 (by decide) (fun hc => ?_) (fun hc => ?_)
      · replace h := ifn (bI0 hc) h
        refine g_iconst (v := 0) B dX3_draw_130 (by decide) ?_
        replace h := Option.some.inj h
        subst h
        exact g_sub [0, 1, 2, 3] rfl k77
      · replace h := ifp (bI1 hc) h
        refine g_iconst (v := 1) B dX3_draw_126 (by decide) ?_
        refine g_goto B 131 dX3_draw_127 (by decide) ?_
        replace h := Option.some.inj h
        subst h
        exact g_sub [0, 1, 2, 3] rfl k77
  clear h
  refine g_sub [1, 2, 3, 0] rfl ?_
  refine lpS_w (I := fun q20 s29 => GW Δ Γ (0) (0) 34 [(0, va_rf v0), (1, va_rf v1), (2, va_rf v2), (4, .int q20)] [] s29) (r := r21) (σr := s53) ?_ FUEL x18 s17 h22
  intro q20 s29 x27 s9 h hI25 hR26
  unfold fX3_draw_l1 at h
  refine g_iload B 3 dX3_draw_34 rfl ?_
  refine g_aload_n B 2 dX3_draw_36 rfl rfl ?_
  replace h := bnP_s h
  obtain ⟨x30, h31, h⟩ := h
  refine g_getI B fl_RX3_32 (by decide) dX3_draw_37 h31 ?_
  refine g_aload_n B 2 dX3_draw_40 rfl rfl ?_
  replace h := bnP_s h
  obtain ⟨x32, h33, h⟩ := h
  refine g_getI B fl_RX3_33 (by decide) dX3_draw_41 h33 ?_
  refine g_iadd B dX3_draw_44 ?_
  refine g_icmp_ge B 91 dX3_draw_45 (by decide) (fun hc => ?_) (fun hc => ?_)
  · replace h := ifp hc h
    obtain ⟨w1, w2⟩ := inS h
    clear h
    subst w1
    subst w2
    obtain ⟨e8, e7⟩ := hR26 _ rfl
    subst e8
    subst e7
    exact g_sub [0, 1, 2] rfl kE23
  · replace h := ifn hc h
    refine g_aload_n B 1 dX3_draw_48 rfl rfl ?_
    replace h := bnP_s h
    obtain ⟨x34, h35, h⟩ := h
    refine g_getRg B fl_RX3_34 (by decide) dX3_draw_49 h35 ?_
    refine g_iload B 3 dX3_draw_52 rfl ?_
    replace h := bnP_s h
    obtain ⟨x36, h37, h⟩ := h
    refine g_zald B dX3_draw_54 h37 ?_
    refine g_if_ne B 85 dX3_draw_55 (by decide) (fun hc => ?_) (fun hc => ?_)
    · replace h := ifn hc h
      refine g_iinc (v := (q20 + 1)) B 3 dX3_draw_85 rfl (by first | rfl | (congr 1; decide)) (Nat.le_of_ble_eq_true rfl) (s1_c (f1_k rfl (f1_k rfl (f1_k rfl (f1_x f1_n))))) ?_
      refine g_goto B 34 dX3_draw_88 (by decide) ?_
      obtain ⟨w1, w2⟩ := inS h
      clear h
      subst w1
      subst w2
      exact g_sub [1, 2, 3, 0] rfl (hI25 _ rfl)
    · replace h := ifp hc h
      refine g_aload_n B 0 dX3_draw_58 rfl rfl ?_
      refine g_aload_n B 0 dX3_draw_59 rfl rfl ?_
      replace h := bnP_s h
      obtain ⟨x38, h39, h⟩ := h
      refine g_getI B fl_RX3_21 (by decide) dX3_draw_60 h39 ?_
      refine g_iconst (v := (-1)) B dX3_draw_63 (by decide) ?_
      replace h := bnP_s h
      obtain ⟨j40, h41, h⟩ := h
      have k43 : GW Δ Γ (0) (0) 76 [(0, va_rf v0), (1, va_rf v1), (2, va_rf v2), (4, .int q20)] [.int j40.2, va_rf j40.1] s29 := by
        replace h := bnP_s h
        obtain ⟨s49, h48, h⟩ := h
        refine g_putI B fl_RX3_18 (by decide) dX3_draw_76 h48 ?_
        refine g_aload_n B 0 dX3_draw_79 rfl rfl ?_
        refine g_iload B 3 dX3_draw_80 rfl ?_
        replace h := bnP_s h
        obtain ⟨s52, h51, h⟩ := h
        refine g_putI B fl_RX3_21 (by decide) dX3_draw_82 h51 ?_
        refine g_iinc (v := (q20 + 1)) B 3 dX3_draw_85 rfl (by first | rfl | (congr 1; decide)) (Nat.le_of_ble_eq_true rfl) (s1_c (f1_k rfl (f1_k rfl (f1_k rfl (f1_x f1_n))))) ?_
        refine g_goto B 34 dX3_draw_88 (by decide) ?_
        obtain ⟨w1, w2⟩ := inS h
        clear h
        subst w1
        subst w2
        exact g_sub [1, 2, 3, 0] rfl (hI25 _ rfl)
      clear h
      have h := h41
      clear h41
      refine g_icmp_ne B 72 dX3_draw_64 (by decide) (fun hc => ?_) (fun hc => ?_)
      · replace h := ifn hc h
        refine g_aload_n B 0 dX3_draw_72 rfl rfl ?_
        replace h := bnP_s h
        obtain ⟨x45, h46, h⟩ := h
        refine g_getI B fl_RX3_18 (by decide) dX3_draw_73 h46 ?_
        replace h := Option.some.inj h
        subst h
        exact g_sub [0, 1, 2, 3] rfl k43
      · replace h := ifp hc h
        refine g_iload B 3 dX3_draw_67 rfl ?_
        refine g_goto B 76 dX3_draw_69 (by decide) ?_
        replace h := Option.some.inj h
        subst h
        exact g_sub [0, 1, 2, 3] rfl k43
set_option maxRecDepth 100000 in
set_option maxHeartbeats 4000000 in
theorem cX1_copyReasonc {l : Launch} {v0 : Option Nat} {v1 : Int32} {v2 : Int32} {σ : HpT} {r : Int32} {σ' : HpT} (h : fX1_copyReason v0 v1 v2 σ = some (r, σ')) : IsK σ v0 1 ∧ Ct l yX1_copyReason cX1_copyReason 4 (some .int) 3 66 [va_rf v0, .int v1, .int v2] σ (.ok (some (.int r))) σ' 0 0 := by
  unfold fX1_copyReason at h
  replace h := bnP_s h
  obtain ⟨u, hk, h⟩ := h
  replace hk := isK_s hk
  refine ⟨hk, ?_⟩
  refine ct_start mi_X1_copyReason.1 rfl (al_le (al_1 (rf_cat _) (al_1 rfl (al_1 rfl al_n))) (Nat.le_of_ble_eq_true rfl)) (ag_1 (rf_cat _) (ag_1 rfl (ag_1 rfl ag_n))) (fun Δ Γ B hE hnm => ?_)
  refine g_iload_n B 1 dX1_copyReason_0 rfl rfl ?_
  refine g_iconst (v := 1) B dX1_copyReason_1 (by decide) ?_
  refine g_icmp_lt B 28 dX1_copyReason_2 (by decide) (fun hc => ?_) (fun hc => ?_)
  · replace h := ifp hc h
    refine g_iconst (v := 1) B dX1_copyReason_28 (by decide) ?_
    obtain ⟨w1, w2⟩ := inS h
    clear h
    subst w1
    subst w2
    exact g_iret B hE (Nat.zero_le _) (Nat.zero_le _) dX1_copyReason_29
  · replace h := ifn hc h
    refine g_iload_n B 1 dX1_copyReason_5 rfl rfl ?_
    refine g_aload_n B 0 dX1_copyReason_6 rfl rfl ?_
    replace h := bnP_s h
    obtain ⟨x1, h2, h⟩ := h
    refine g_getI B fl_RX1_55 (by decide) dX1_copyReason_7 h2 ?_
    refine g_icmp_gt B 28 dX1_copyReason_10 (by decide) (fun hc => ?_) (fun hc => ?_)
    · replace h := ifp hc h
      refine g_iconst (v := 1) B dX1_copyReason_28 (by decide) ?_
      obtain ⟨w1, w2⟩ := inS h
      clear h
      subst w1
      subst w2
      exact g_iret B hE (Nat.zero_le _) (Nat.zero_le _) dX1_copyReason_29
    · replace h := ifn hc h
      refine g_aload_n B 0 dX1_copyReason_13 rfl rfl ?_
      replace h := bnP_s h
      obtain ⟨x3, h4, h⟩ := h
      refine g_getR B fl_RX1_11 (by decide) dX1_copyReason_14 h4 ?_
      refine g_iload_n B 1 dX1_copyReason_17 rfl rfl ?_
      refine g_iconst (v := 1) B dX1_copyReason_18 (by decide) ?_
      refine g_isub B dX1_copyReason_19 ?_
      replace h := bnP_s h
      obtain ⟨x5, h6, h⟩ := h
      refine g_ralds B (κ := 25) (by decide) rfl dX1_copyReason_20 h6 ?_
      replace h := bnP_s h
      obtain ⟨x7, h8, h⟩ := h
      refine g_getI B fl_RX1_84 (by decide) dX1_copyReason_21 h8 ?_
      refine g_iconst (v := 1) B dX1_copyReason_24 (by decide) ?_
      refine g_icmp_eq B 30 dX1_copyReason_25 (by decide) (fun hc => ?_) (fun hc => ?_)
      · replace h := ifp hc h
        refine g_aload_n B 0 dX1_copyReason_30 rfl rfl ?_
        replace h := bnP_s h
        obtain ⟨x9, h10, h⟩ := h
        refine g_getR B fl_RX1_43 (by decide) dX1_copyReason_31 h10 ?_
        refine g_aload_n B 0 dX1_copyReason_34 rfl rfl ?_
        replace h := bnP_s h
        obtain ⟨x11, h12, h⟩ := h
        refine g_getR B fl_RX1_24 (by decide) dX1_copyReason_35 h12 ?_
        refine g_aload_n B 0 dX1_copyReason_38 rfl rfl ?_
        replace h := bnP_s h
        obtain ⟨x13, h14, h⟩ := h
        refine g_getR B fl_RX1_11 (by decide) dX1_copyReason_39 h14 ?_
        refine g_iload_n B 1 dX1_copyReason_42 rfl rfl ?_
        refine g_iconst (v := 1) B dX1_copyReason_43 (by decide) ?_
        refine g_isub B dX1_copyReason_44 ?_
        replace h := bnP_s h
        obtain ⟨x15, h16, h⟩ := h
        refine g_ralds B (κ := 25) (by decide) rfl dX1_copyReason_45 h16 ?_
        refine g_iload_n B 2 dX1_copyReason_46 rfl rfl ?_
        replace h := bnP_s h
        obtain ⟨s19, h18, h⟩ := h
        refine g_callVv0 (st := []) B (cX3_drawc h18) (Nat.le_of_ble_eq_true rfl) rfl rfl mi_X3_draw lk_RX1_156 ⟨Nat.le_of_ble_eq_true rfl, Nat.le_of_ble_eq_true rfl⟩ rfl rfl (Nat.le_of_ble_eq_true rfl) dX1_copyReason_47 (Nat.zero_le _) (Nat.zero_le _) ?_
        refine g_aload_n B 0 dX1_copyReason_50 rfl rfl ?_
        replace h := bnP_s h
        obtain ⟨x20, h21, h⟩ := h
        refine g_getR B fl_RX1_43 (by decide) dX1_copyReason_51 h21 ?_
        replace h := bnP_s h
        obtain ⟨x22, h23, h⟩ := h
        refine g_getI B fl_RX1_152 (by decide) dX1_copyReason_54 h23 ?_
        refine g_istore_n B dX1_copyReason_57 rfl (Nat.le_of_ble_eq_true rfl) (s1_c (f1_k rfl (f1_k rfl (f1_1 rfl rfl f1_n)))) ?_
        replace h := bnP_s h
        obtain ⟨r25, h26, h⟩ := h
        have kE27 : ∀ y45, r25 = .inl y45 → GW Δ Γ (0) (0) 100 [(0, va_rf v0)] [] s19 := by
          intro y45 er
          subst er
          dsimp only at h
          refine g_aload_n B 0 dX1_copyReason_100 rfl rfl ?_
          replace h := bnP_s h
          obtain ⟨x46, h47, h⟩ := h
          refine g_getI B fl_RX1_58 (by decide) dX1_copyReason_101 h47 ?_
          refine g_bipush (v := 8) B dX1_copyReason_104 (by decide) ?_
          refine g_icmp_lt B 113 dX1_copyReason_106 (by decide) (fun hc => ?_) (fun hc => ?_)
          · replace h := ifp hc h
            refine g_iconst (v := 0) B dX1_copyReason_113 (by decide) ?_
            obtain ⟨w1, w2⟩ := inS h
            clear h
            subst w1
            subst w2
            exact g_iret B hE (Nat.zero_le _) (Nat.zero_le _) dX1_copyReason_114
          · replace h := ifn hc h
            refine g_iconst (v := 3) B dX1_copyReason_109 (by decide) ?_
            refine g_goto B 114 dX1_copyReason_110 (by decide) ?_
            obtain ⟨w1, w2⟩ := inS h
            clear h
            subst w1
            subst w2
            exact g_iret B hE (Nat.zero_le _) (Nat.zero_le _) dX1_copyReason_114
        have kR28 : ∀ vv, r25 = .inr vv → En Δ Γ (.ok (some (.int vv))) s19 0 0 (some .int) ∧ 0 ≤ 0 ∧ 0 ≤ 0 := by
          intro vv er
          subst er
          dsimp only at h
          obtain ⟨w1, w2⟩ := inS h
          clear h
          subst w1
          subst w2
          exact ⟨hE, Nat.zero_le _, Nat.zero_le _⟩
        clear h
        refine g_sub [1, 0] rfl ?_
        refine lpP_w (I := fun q24 => GW Δ Γ (0) (0) 58 [(0, va_rf v0), (3, .int q24)] [] s19) (r := r25) ?_ FUEL x22 h26
        intro q24 x31 h hI29 hR30
        unfold fX1_copyReason_l1 at h
        refine g_iload_n B 1 dX1_copyReason_58 rfl rfl ?_
        refine g_aload_n B 0 dX1_copyReason_59 rfl rfl ?_
        replace h := bnP_s h
        obtain ⟨x33, h34, h⟩ := h
        refine g_getR B fl_RX1_43 (by decide) dX1_copyReason_60 h34 ?_
        replace h := bnP_s h
        obtain ⟨x35, h36, h⟩ := h
        refine g_getI B fl_RX1_153 (by decide) dX1_copyReason_63 h36 ?_
        refine g_icmp_gt B 100 dX1_copyReason_66 (by decide) (fun hc => ?_) (fun hc => ?_)
        · replace h := ifp hc h
          replace h := Option.some.inj h
          subst h
          have e8 := hR30 _ rfl
          subst e8
          exact g_sub [0] rfl (kE27 _ rfl)
        · replace h := ifn hc h
          refine g_aload_n B 0 dX1_copyReason_69 rfl rfl ?_
          replace h := bnP_s h
          obtain ⟨x37, h38, h⟩ := h
          refine g_getR B fl_RX1_43 (by decide) dX1_copyReason_70 h38 ?_
          refine g_aload_n B 0 dX1_copyReason_73 rfl rfl ?_
          replace h := bnP_s h
          obtain ⟨x39, h40, h⟩ := h
          refine g_getR B fl_RX1_24 (by decide) dX1_copyReason_74 h40 ?_
          refine g_iload_n B 1 dX1_copyReason_77 rfl rfl ?_
          replace h := bnP_s h
          obtain ⟨x41, h42, h⟩ := h
          refine g_callVs0 (st := []) B (cX3_holdsc h42) (Nat.le_of_ble_eq_true rfl) rfl rfl mi_X3_holds lk_RX1_132 ⟨Nat.le_of_ble_eq_true rfl, Nat.le_of_ble_eq_true rfl⟩ rfl rfl (Nat.le_of_ble_eq_true rfl) dX1_copyReason_78 (Nat.zero_le _) (Nat.zero_le _) ?_
          refine g_if_eq B 94 dX1_copyReason_81 (by decide) (fun hc => ?_) (fun hc => ?_)
          · replace h := ifn (bI0 hc) h
            refine g_iinc (v := (q24 + 1)) B 1 dX1_copyReason_94 rfl (by first | rfl | (congr 1; decide)) (Nat.le_of_ble_eq_true rfl) (s1_c (f1_k rfl (f1_x f1_n))) ?_
            refine g_goto B 58 dX1_copyReason_97 (by decide) ?_
            replace h := Option.some.inj h
            subst h
            exact g_sub [1, 0] rfl (hI29 _ rfl)
          · replace h := ifp (bI1 hc) h
            refine g_aload_n B 0 dX1_copyReason_84 rfl rfl ?_
            refine g_iload_n B 1 dX1_copyReason_85 rfl rfl ?_
            replace h := bnP_s h
            obtain ⟨x43, h44, h⟩ := h
            refine g_callVs0 (st := []) B (cX1_isKnownc h44) (Nat.le_of_ble_eq_true rfl) rfl rfl mi_X1_isKnown lk_RX1_143 ⟨Nat.le_of_ble_eq_true rfl, Nat.le_of_ble_eq_true rfl⟩ rfl rfl (Nat.le_of_ble_eq_true rfl) dX1_copyReason_86 (Nat.zero_le _) (Nat.zero_le _) ?_
            refine g_if_ne B 94 dX1_copyReason_89 (by decide) (fun hc => ?_) (fun hc => ?_)
            · replace h := ifp (bI1 hc) h
              refine g_iinc (v := (q24 + 1)) B 1 dX1_copyReason_94 rfl (by first | rfl | (congr 1; decide)) (Nat.le_of_ble_eq_true rfl) (s1_c (f1_k rfl (f1_x f1_n))) ?_
              refine g_goto B 58 dX1_copyReason_97 (by decide) ?_
              replace h := Option.some.inj h
              subst h
              exact g_sub [1, 0] rfl (hI29 _ rfl)
            · replace h := ifn (bI0 hc) h
              refine g_iconst (v := 2) B dX1_copyReason_92 (by decide) ?_
              replace h := Option.some.inj h
              subst h
              have e8 := hR30 _ rfl
              obtain ⟨hE, hc9, hs9⟩ := kR28 _ e8.symm
              exact g_iret B hE hc9 hs9 dX1_copyReason_93
      · replace h := ifn hc h
        refine g_iconst (v := 1) B dX1_copyReason_28 (by decide) ?_
        obtain ⟨w1, w2⟩ := inS h
        clear h
        subst w1
        subst w2
        exact g_iret B hE (Nat.zero_le _) (Nat.zero_le _) dX1_copyReason_29
set_option maxRecDepth 100000 in
set_option maxHeartbeats 4000000 in
theorem cX1_copiedWithc {l : Launch} {v0 : Option Nat} {v1 : Option Nat} {v2 : Int32} {σ : HpT} {r : Int32} {σ' : HpT} (h : fX1_copiedWith v0 v1 v2 σ = some (r, σ')) : IsK σ v0 1 ∧ Ct l yX1_copiedWith cX1_copiedWith 5 (some .int) 2 46 [va_rf v0, va_rf v1, .int v2] σ (.ok (some (.int r))) σ' 0 0 := by
  unfold fX1_copiedWith at h
  replace h := bnP_s h
  obtain ⟨u, hk, h⟩ := h
  replace hk := isK_s hk
  refine ⟨hk, ?_⟩
  refine ct_start mi_X1_copiedWith.1 rfl (al_le (al_1 (rf_cat _) (al_1 (rf_cat _) (al_1 rfl al_n))) (Nat.le_of_ble_eq_true rfl)) (ag_1 (rf_cat _) (ag_1 (rf_cat _) (ag_1 rfl ag_n))) (fun Δ Γ B hE hnm => ?_)
  refine g_aload_n B 0 dX1_copiedWith_0 rfl rfl ?_
  replace h := bnP_s h
  obtain ⟨x1, h2, h⟩ := h
  refine g_getR B fl_RX1_43 (by decide) dX1_copiedWith_1 h2 ?_
  refine g_aload_n B 0 dX1_copiedWith_4 rfl rfl ?_
  replace h := bnP_s h
  obtain ⟨x3, h4, h⟩ := h
  refine g_getR B fl_RX1_24 (by decide) dX1_copiedWith_5 h4 ?_
  refine g_aload_n B 1 dX1_copiedWith_8 rfl rfl ?_
  refine g_iload_n B 2 dX1_copiedWith_9 rfl rfl ?_
  replace h := bnP_s h
  obtain ⟨s7, h6, h⟩ := h
  refine g_callVv0 (st := []) B (cX3_drawc h6) (Nat.le_of_ble_eq_true rfl) rfl rfl mi_X3_draw lk_RX1_156 ⟨Nat.le_of_ble_eq_true rfl, Nat.le_of_ble_eq_true rfl⟩ rfl rfl (Nat.le_of_ble_eq_true rfl) dX1_copiedWith_10 (Nat.zero_le _) (Nat.zero_le _) ?_
  refine g_iconst (v := 0) B dX1_copiedWith_13 (by decide) ?_
  refine g_istore_n B dX1_copiedWith_14 rfl (Nat.le_of_ble_eq_true rfl) (s1_c (f1_k rfl (f1_k rfl (f1_1 rfl rfl f1_n)))) ?_
  refine g_aload_n B 2 dX1_copiedWith_15 rfl rfl ?_
  replace h := bnP_s h
  obtain ⟨x8, h9, h⟩ := h
  refine g_getI B fl_RX1_92 (by decide) dX1_copiedWith_16 h9 ?_
  refine g_istore B dX1_copiedWith_19 (Nat.le_of_ble_eq_true rfl) (s1_c (f1_1 rfl rfl (f1_k rfl (f1_k rfl (f1_k rfl f1_n))))) ?_
  replace h := bnP_s h
  obtain ⟨r11, h12, h⟩ := h
  have kE13 : GW Δ Γ (0) (0) 69 [(3, .int r11)] [] s7 := by
    refine g_iload_n B 0 dX1_copiedWith_69 rfl rfl ?_
    obtain ⟨w1, w2⟩ := inS h
    clear h
    subst w1
    subst w2
    exact g_iret B hE (Nat.zero_le _) (Nat.zero_le _) dX1_copiedWith_70
  clear h
  refine g_sub [2, 3, 1, 0] rfl ?_
  refine lpP_w (I := fun q10 => GW Δ Γ (0) (0) 21 [(0, va_rf v0), (1, va_rf v1), (3, .int q10.1), (4, .int q10.2)] [] s7) (r := r11) ?_ FUEL (0, x8) h12
  intro q10 x17 h hI15 hR16
  unfold fX1_copiedWith_l1 at h
  obtain ⟨qv19, qv20⟩ := q10
  show GW Δ Γ (0) (0) 21 [(0, va_rf v0), (1, va_rf v1), (3, .int qv19), (4, .int qv20)] [] s7
  dsimp only at h
  refine g_iload B 3 dX1_copiedWith_21 rfl ?_
  refine g_aload_n B 1 dX1_copiedWith_23 rfl rfl ?_
  replace h := bnP_s h
  obtain ⟨x21, h22, h⟩ := h
  refine g_getI B fl_RX1_92 (by decide) dX1_copiedWith_24 h22 ?_
  refine g_aload_n B 1 dX1_copiedWith_27 rfl rfl ?_
  replace h := bnP_s h
  obtain ⟨x23, h24, h⟩ := h
  refine g_getI B fl_RX1_91 (by decide) dX1_copiedWith_28 h24 ?_
  refine g_iadd B dX1_copiedWith_31 ?_
  refine g_icmp_ge B 69 dX1_copiedWith_32 (by decide) (fun hc => ?_) (fun hc => ?_)
  · replace h := ifp hc h
    replace h := Option.some.inj h
    subst h
    have e8 := hR16 _ rfl
    subst e8
    exact g_sub [2] rfl kE13
  · replace h := ifn hc h
    refine g_aload_n B 0 dX1_copiedWith_35 rfl rfl ?_
    replace h := bnP_s h
    obtain ⟨x25, h26, h⟩ := h
    refine g_getR B fl_RX1_43 (by decide) dX1_copiedWith_36 h26 ?_
    refine g_aload_n B 0 dX1_copiedWith_39 rfl rfl ?_
    replace h := bnP_s h
    obtain ⟨x27, h28, h⟩ := h
    refine g_getR B fl_RX1_24 (by decide) dX1_copiedWith_40 h28 ?_
    refine g_iload B 3 dX1_copiedWith_43 rfl ?_
    replace h := bnP_s h
    obtain ⟨x29, h30, h⟩ := h
    refine g_callVs0 (st := []) B (cX3_holdsc h30) (Nat.le_of_ble_eq_true rfl) rfl rfl mi_X3_holds lk_RX1_132 ⟨Nat.le_of_ble_eq_true rfl, Nat.le_of_ble_eq_true rfl⟩ rfl rfl (Nat.le_of_ble_eq_true rfl) dX1_copiedWith_45 (Nat.zero_le _) (Nat.zero_le _) ?_
    refine g_if_ne B 60 dX1_copiedWith_48 (by decide) (fun hc => ?_) (fun hc => ?_)
    · replace h := ifp (bI1 hc) h
      refine g_iinc (v := (qv19 + 1)) B 2 dX1_copiedWith_60 rfl (by first | rfl | (congr 1; decide)) (Nat.le_of_ble_eq_true rfl) (s1_c (f1_k rfl (f1_k rfl (f1_x (f1_k rfl f1_n))))) ?_
      refine g_iinc (v := (qv20 + 1)) B 3 dX1_copiedWith_63 rfl (by first | rfl | (congr 1; decide)) (Nat.le_of_ble_eq_true rfl) (s1_c (f1_1 rfl rfl (f1_k rfl (f1_k rfl (f1_x f1_n))))) ?_
      refine g_goto B 21 dX1_copiedWith_66 (by decide) ?_
      replace h := Option.some.inj h
      subst h
      exact g_sub [2, 3, 1, 0] rfl (hI15 ((qv19 + 1), (qv20 + 1)) rfl)
    · replace h := ifn (bI0 hc) h
      refine g_aload_n B 0 dX1_copiedWith_51 rfl rfl ?_
      refine g_iload B 3 dX1_copiedWith_52 rfl ?_
      replace h := bnP_s h
      obtain ⟨x31, h32, h⟩ := h
      refine g_callVs0 (st := []) B (cX1_copiesWithc h32) (Nat.le_of_ble_eq_true rfl) rfl rfl mi_X1_copiesWith lk_RX1_140 ⟨Nat.le_of_ble_eq_true rfl, Nat.le_of_ble_eq_true rfl⟩ rfl rfl (Nat.le_of_ble_eq_true rfl) dX1_copiedWith_54 (Nat.zero_le _) (Nat.zero_le _) ?_
      refine g_if_le B 63 dX1_copiedWith_57 (by decide) (fun hc => ?_) (fun hc => ?_)
      · replace h := ifp hc h
        refine g_iinc (v := (qv20 + 1)) B 3 dX1_copiedWith_63 rfl (by first | rfl | (congr 1; decide)) (Nat.le_of_ble_eq_true rfl) (s1_c (f1_k rfl (f1_k rfl (f1_1 rfl rfl (f1_x f1_n))))) ?_
        refine g_goto B 21 dX1_copiedWith_66 (by decide) ?_
        replace h := Option.some.inj h
        subst h
        exact g_sub [1, 2, 3, 0] rfl (hI15 (qv19, (qv20 + 1)) rfl)
      · replace h := ifn hc h
        refine g_iinc (v := (qv19 + 1)) B 2 dX1_copiedWith_60 rfl (by first | rfl | (congr 1; decide)) (Nat.le_of_ble_eq_true rfl) (s1_c (f1_k rfl (f1_k rfl (f1_x (f1_k rfl f1_n))))) ?_
        refine g_iinc (v := (qv20 + 1)) B 3 dX1_copiedWith_63 rfl (by first | rfl | (congr 1; decide)) (Nat.le_of_ble_eq_true rfl) (s1_c (f1_1 rfl rfl (f1_k rfl (f1_k rfl (f1_x f1_n))))) ?_
        refine g_goto B 21 dX1_copiedWith_66 (by decide) ?_
        replace h := Option.some.inj h
        subst h
        exact g_sub [2, 3, 1, 0] rfl (hI15 ((qv19 + 1), (qv20 + 1)) rfl)
set_option maxRecDepth 100000 in
set_option maxHeartbeats 4000000 in
theorem cX3_feec {l : Launch} {v0 : Option Nat} {σ : HpT} {r : Int32} (h : fX3_fee v0 σ = some r) : IsK σ v0 3 ∧ Ct l yX3_fee cX3_fee 1 (some .int) 0 0 [va_rf v0] σ (.ok (some (.int r))) σ 0 0 := by
  unfold fX3_fee at h
  replace h := bnP_s h
  obtain ⟨u, hk, h⟩ := h
  replace hk := isK_s hk
  refine ⟨hk, ?_⟩
  refine ct_start mi_X3_fee.1 rfl (al_le (al_1 (rf_cat _) al_n) (Nat.le_of_ble_eq_true rfl)) (ag_1 (rf_cat _) ag_n) (fun Δ Γ B hE hnm => ?_)
  refine g_iconst (v := 3) B dX3_fee_0 (by decide) ?_
  refine g_aload_n B 0 dX3_fee_1 rfl rfl ?_
  replace h := bnP_s h
  obtain ⟨x1, h2, h⟩ := h
  refine g_getI B fl_RX3_15 (by decide) dX3_fee_2 h2 ?_
  refine g_isub B dX3_fee_5 ?_
  replace h := Option.some.inj h
  subst h
  exact g_iret B hE (Nat.zero_le _) (Nat.zero_le _) dX3_fee_6
set_option maxRecDepth 100000 in
set_option maxHeartbeats 4000000 in
theorem cX1_makeCopyc {l : Launch} {v0 : Option Nat} {v1 : Int32} {v2 : Int32} {σ : HpT} {σ' : HpT} (h : fX1_makeCopy v0 v1 v2 σ = some σ') : IsK σ v0 1 ∧ Ct l yX1_makeCopy cX1_makeCopy 3 none 2 46 [va_rf v0, .int v1, .int v2] σ (.ok none) σ' 0 0 := by
  unfold fX1_makeCopy at h
  replace h := bnP_s h
  obtain ⟨u, hk, h⟩ := h
  replace hk := isK_s hk
  refine ⟨hk, ?_⟩
  refine ct_start mi_X1_makeCopy.1 rfl (al_le (al_1 (rf_cat _) (al_1 rfl (al_1 rfl al_n))) (Nat.le_of_ble_eq_true rfl)) (ag_1 (rf_cat _) (ag_1 rfl (ag_1 rfl ag_n))) (fun Δ Γ B hE hnm => ?_)
  refine g_aload_n B 0 dX1_makeCopy_0 rfl rfl ?_
  replace h := bnP_s h
  obtain ⟨x1, h2, h⟩ := h
  refine g_getI B fl_RX1_58 (by decide) dX1_makeCopy_1 h2 ?_
  refine g_bipush (v := 8) B dX1_makeCopy_4 (by decide) ?_
  refine g_icmp_ge B 78 dX1_makeCopy_6 (by decide) (fun hc => ?_) (fun hc => ?_)
  · replace h := ifp hc h
    replace h := Option.some.inj h
    subst h
    exact g_vret B hE (Nat.zero_le _) (Nat.zero_le _) dX1_makeCopy_78
  · replace h := ifn hc h
    refine g_iload_n B 1 dX1_makeCopy_9 rfl rfl ?_
    refine g_iconst (v := 1) B dX1_makeCopy_10 (by decide) ?_
    refine g_icmp_lt B 78 dX1_makeCopy_11 (by decide) (fun hc => ?_) (fun hc => ?_)
    · replace h := ifp hc h
      replace h := Option.some.inj h
      subst h
      exact g_vret B hE (Nat.zero_le _) (Nat.zero_le _) dX1_makeCopy_78
    · replace h := ifn hc h
      refine g_iload_n B 1 dX1_makeCopy_14 rfl rfl ?_
      refine g_aload_n B 0 dX1_makeCopy_15 rfl rfl ?_
      replace h := bnP_s h
      obtain ⟨x3, h4, h⟩ := h
      refine g_getI B fl_RX1_55 (by decide) dX1_makeCopy_16 h4 ?_
      refine g_icmp_gt B 78 dX1_makeCopy_19 (by decide) (fun hc => ?_) (fun hc => ?_)
      · replace h := ifp hc h
        replace h := Option.some.inj h
        subst h
        exact g_vret B hE (Nat.zero_le _) (Nat.zero_le _) dX1_makeCopy_78
      · replace h := ifn hc h
        refine g_aload_n B 0 dX1_makeCopy_22 rfl rfl ?_
        replace h := bnP_s h
        obtain ⟨x5, h6, h⟩ := h
        refine g_getR B fl_RX1_17 (by decide) dX1_makeCopy_23 h6 ?_
        refine g_aload_n B 0 dX1_makeCopy_26 rfl rfl ?_
        replace h := bnP_s h
        obtain ⟨x7, h8, h⟩ := h
        refine g_getI B fl_RX1_58 (by decide) dX1_makeCopy_27 h8 ?_
        replace h := bnP_s h
        obtain ⟨x9, h10, h⟩ := h
        refine g_ralds B (κ := 26) (by decide) rfl dX1_makeCopy_30 h10 ?_
        refine g_aload_n B 0 dX1_makeCopy_31 rfl rfl ?_
        replace h := bnP_s h
        obtain ⟨x11, h12, h⟩ := h
        refine g_getR B fl_RX1_24 (by decide) dX1_makeCopy_32 h12 ?_
        refine g_aload_n B 0 dX1_makeCopy_35 rfl rfl ?_
        replace h := bnP_s h
        obtain ⟨x13, h14, h⟩ := h
        refine g_getR B fl_RX1_11 (by decide) dX1_makeCopy_36 h14 ?_
        refine g_iload_n B 1 dX1_makeCopy_39 rfl rfl ?_
        refine g_iconst (v := 1) B dX1_makeCopy_40 (by decide) ?_
        refine g_isub B dX1_makeCopy_41 ?_
        replace h := bnP_s h
        obtain ⟨x15, h16, h⟩ := h
        refine g_ralds B (κ := 25) (by decide) rfl dX1_makeCopy_42 h16 ?_
        refine g_iload_n B 2 dX1_makeCopy_43 rfl rfl ?_
        replace h := bnP_s h
        obtain ⟨s19, h18, h⟩ := h
        refine g_callVv0 (st := []) B (cX3_drawc h18) (Nat.le_of_ble_eq_true rfl) rfl rfl mi_X3_draw lk_RX1_156 ⟨Nat.le_of_ble_eq_true rfl, Nat.le_of_ble_eq_true rfl⟩ rfl rfl (Nat.le_of_ble_eq_true rfl) dX1_makeCopy_44 (Nat.zero_le _) (Nat.zero_le _) ?_
        refine g_aload_n B 0 dX1_makeCopy_47 rfl rfl ?_
        refine g_dup B dX1_makeCopy_48 (rf_cat _) ?_
        replace h := bnP_s h
        obtain ⟨x20, h21, h⟩ := h
        refine g_getI B fl_RX1_61 (by decide) dX1_makeCopy_49 h21 ?_
        refine g_aload_n B 0 dX1_makeCopy_52 rfl rfl ?_
        replace h := bnP_s h
        obtain ⟨x22, h23, h⟩ := h
        refine g_getR B fl_RX1_17 (by decide) dX1_makeCopy_53 h23 ?_
        refine g_aload_n B 0 dX1_makeCopy_56 rfl rfl ?_
        replace h := bnP_s h
        obtain ⟨x24, h25, h⟩ := h
        refine g_getI B fl_RX1_58 (by decide) dX1_makeCopy_57 h25 ?_
        replace h := bnP_s h
        obtain ⟨x26, h27, h⟩ := h
        refine g_ralds B (κ := 26) (by decide) rfl dX1_makeCopy_60 h27 ?_
        replace h := bnP_s h
        obtain ⟨x28, h29, h⟩ := h
        refine g_callVs0 (st := [.int x20, va_rf v0]) B (cX3_feec h29) (Nat.le_of_ble_eq_true rfl) rfl rfl mi_X3_fee lk_RX1_160 ⟨Nat.le_of_ble_eq_true rfl, Nat.le_of_ble_eq_true rfl⟩ rfl rfl (Nat.le_of_ble_eq_true rfl) dX1_makeCopy_61 (Nat.zero_le _) (Nat.zero_le _) ?_
        refine g_iadd B dX1_makeCopy_64 ?_
        replace h := bnP_s h
        obtain ⟨s32, h31, h⟩ := h
        refine g_putI B fl_RX1_61 (by decide) dX1_makeCopy_65 h31 ?_
        refine g_aload_n B 0 dX1_makeCopy_68 rfl rfl ?_
        refine g_dup B dX1_makeCopy_69 (rf_cat _) ?_
        replace h := bnP_s h
        obtain ⟨x33, h34, h⟩ := h
        refine g_getI B fl_RX1_58 (by decide) dX1_makeCopy_70 h34 ?_
        refine g_iconst (v := 1) B dX1_makeCopy_73 (by decide) ?_
        refine g_iadd B dX1_makeCopy_74 ?_
        replace h := bnP_s h
        obtain ⟨s37, h36, h⟩ := h
        refine g_putI B fl_RX1_58 (by decide) dX1_makeCopy_75 h36 ?_
        replace h := Option.some.inj h
        subst h
        exact g_vret B hE (Nat.zero_le _) (Nat.zero_le _) dX1_makeCopy_78
set_option maxRecDepth 100000 in
set_option maxHeartbeats 4000000 in
theorem cX1_burnCopyc {l : Launch} {v0 : Option Nat} {v1 : Int32} {σ : HpT} {σ' : HpT} (h : fX1_burnCopy v0 v1 σ = some σ') : IsK σ v0 1 ∧ Ct l yX1_burnCopy cX1_burnCopy 3 none 1 21 [va_rf v0, .int v1] σ (.ok none) σ' 0 0 := by
  unfold fX1_burnCopy at h
  replace h := bnP_s h
  obtain ⟨u, hk, h⟩ := h
  replace hk := isK_s hk
  refine ⟨hk, ?_⟩
  refine ct_start mi_X1_burnCopy.1 rfl (al_le (al_1 (rf_cat _) (al_1 rfl al_n)) (Nat.le_of_ble_eq_true rfl)) (ag_1 (rf_cat _) (ag_1 rfl ag_n)) (fun Δ Γ B hE hnm => ?_)
  refine g_iload_n B 1 dX1_burnCopy_0 rfl rfl ?_
  refine g_if_lt B 75 dX1_burnCopy_1 (by decide) (fun hc => ?_) (fun hc => ?_)
  · replace h := ifp hc h
    replace h := Option.some.inj h
    subst h
    exact g_vret B hE (Nat.zero_le _) (Nat.zero_le _) dX1_burnCopy_75
  · replace h := ifn hc h
    refine g_iload_n B 1 dX1_burnCopy_4 rfl rfl ?_
    refine g_aload_n B 0 dX1_burnCopy_5 rfl rfl ?_
    replace h := bnP_s h
    obtain ⟨x1, h2, h⟩ := h
    refine g_getI B fl_RX1_58 (by decide) dX1_burnCopy_6 h2 ?_
    refine g_icmp_ge B 75 dX1_burnCopy_9 (by decide) (fun hc => ?_) (fun hc => ?_)
    · replace h := ifp hc h
      replace h := Option.some.inj h
      subst h
      exact g_vret B hE (Nat.zero_le _) (Nat.zero_le _) dX1_burnCopy_75
    · replace h := ifn hc h
      refine g_aload_n B 0 dX1_burnCopy_12 rfl rfl ?_
      refine g_dup B dX1_burnCopy_13 (rf_cat _) ?_
      replace h := bnP_s h
      obtain ⟨x3, h4, h⟩ := h
      refine g_getI B fl_RX1_64 (by decide) dX1_burnCopy_14 h4 ?_
      refine g_aload_n B 0 dX1_burnCopy_17 rfl rfl ?_
      replace h := bnP_s h
      obtain ⟨x5, h6, h⟩ := h
      refine g_getR B fl_RX1_17 (by decide) dX1_burnCopy_18 h6 ?_
      refine g_iload_n B 1 dX1_burnCopy_21 rfl rfl ?_
      replace h := bnP_s h
      obtain ⟨x7, h8, h⟩ := h
      refine g_ralds B (κ := 26) (by decide) rfl dX1_burnCopy_22 h8 ?_
      replace h := bnP_s h
      obtain ⟨x9, h10, h⟩ := h
      refine g_callVs0 (st := [.int x3, va_rf v0]) B (cX3_feec h10) (Nat.le_of_ble_eq_true rfl) rfl rfl mi_X3_fee lk_RX1_160 ⟨Nat.le_of_ble_eq_true rfl, Nat.le_of_ble_eq_true rfl⟩ rfl rfl (Nat.le_of_ble_eq_true rfl) dX1_burnCopy_23 (Nat.zero_le _) (Nat.zero_le _) ?_
      refine g_iadd B dX1_burnCopy_26 ?_
      replace h := bnP_s h
      obtain ⟨s13, h12, h⟩ := h
      refine g_putI B fl_RX1_64 (by decide) dX1_burnCopy_27 h12 ?_
      refine g_iload_n B 1 dX1_burnCopy_30 rfl rfl ?_
      refine g_istore_n B dX1_burnCopy_31 rfl (Nat.le_of_ble_eq_true rfl) (s1_c (f1_k rfl (f1_1 rfl rfl f1_n))) ?_
      replace h := bnS_s h
      obtain ⟨r15, s37, h16, h⟩ := h
      have kE17 : GW Δ Γ (0) (0) 65 [(0, va_rf v0)] [] s37 := by
        refine g_aload_n B 0 dX1_burnCopy_65 rfl rfl ?_
        refine g_dup B dX1_burnCopy_66 (rf_cat _) ?_
        replace h := bnP_s h
        obtain ⟨x38, h39, h⟩ := h
        refine g_getI B fl_RX1_58 (by decide) dX1_burnCopy_67 h39 ?_
        refine g_iconst (v := 1) B dX1_burnCopy_70 (by decide) ?_
        refine g_isub B dX1_burnCopy_71 ?_
        replace h := bnP_s h
        obtain ⟨s42, h41, h⟩ := h
        refine g_putI B fl_RX1_58 (by decide) dX1_burnCopy_72 h41 ?_
        replace h := Option.some.inj h
        subst h
        exact g_vret B hE (Nat.zero_le _) (Nat.zero_le _) dX1_burnCopy_75
      clear h
      refine g_sub [1, 0] rfl ?_
      refine lpS_w (I := fun q14 s23 => GW Δ Γ (0) (0) 32 [(0, va_rf v0), (2, .int q14)] [] s23) (r := r15) (σr := s37) ?_ FUEL v1 s13 h16
      intro q14 s23 x21 s9 h hI19 hR20
      unfold fX1_burnCopy_l1 at h
      refine g_iload_n B 1 dX1_burnCopy_32 rfl rfl ?_
      refine g_iconst (v := 1) B dX1_burnCopy_33 (by decide) ?_
      refine g_iadd B dX1_burnCopy_34 ?_
      refine g_aload_n B 0 dX1_burnCopy_35 rfl rfl ?_
      replace h := bnP_s h
      obtain ⟨x24, h25, h⟩ := h
      refine g_getI B fl_RX1_58 (by decide) dX1_burnCopy_36 h25 ?_
      refine g_icmp_ge B 65 dX1_burnCopy_39 (by decide) (fun hc => ?_) (fun hc => ?_)
      · replace h := ifp hc h
        obtain ⟨w1, w2⟩ := inS h
        clear h
        subst w1
        subst w2
        obtain ⟨e8, e7⟩ := hR20 _ rfl
        subst e8
        subst e7
        exact g_sub [0] rfl kE17
      · replace h := ifn hc h
        refine g_aload_n B 0 dX1_burnCopy_42 rfl rfl ?_
        replace h := bnP_s h
        obtain ⟨x26, h27, h⟩ := h
        refine g_getR B fl_RX1_17 (by decide) dX1_burnCopy_43 h27 ?_
        refine g_iload_n B 1 dX1_burnCopy_46 rfl rfl ?_
        replace h := bnP_s h
        obtain ⟨x28, h29, h⟩ := h
        refine g_ralds B (κ := 26) (by decide) rfl dX1_burnCopy_47 h29 ?_
        refine g_aload_n B 0 dX1_burnCopy_48 rfl rfl ?_
        replace h := bnP_s h
        obtain ⟨x30, h31, h⟩ := h
        refine g_getR B fl_RX1_17 (by decide) dX1_burnCopy_49 h31 ?_
        refine g_iload_n B 1 dX1_burnCopy_52 rfl rfl ?_
        refine g_iconst (v := 1) B dX1_burnCopy_53 (by decide) ?_
        refine g_iadd B dX1_burnCopy_54 ?_
        replace h := bnP_s h
        obtain ⟨x32, h33, h⟩ := h
        refine g_ralds B (κ := 26) (by decide) rfl dX1_burnCopy_55 h33 ?_
        replace h := bnP_s h
        obtain ⟨s36, h35, h⟩ := h
        refine g_callVv0 (st := []) B (cX3_takec h35) (Nat.le_of_ble_eq_true rfl) rfl rfl mi_X3_take lk_RX1_71 ⟨Nat.le_of_ble_eq_true rfl, Nat.le_of_ble_eq_true rfl⟩ rfl rfl (Nat.le_of_ble_eq_true rfl) dX1_burnCopy_56 (Nat.zero_le _) (Nat.zero_le _) ?_
        refine g_iinc (v := (q14 + 1)) B 1 dX1_burnCopy_59 rfl (by first | rfl | (congr 1; decide)) (Nat.le_of_ble_eq_true rfl) (s1_c (f1_k rfl (f1_x f1_n))) ?_
        refine g_goto B 32 dX1_burnCopy_62 (by decide) ?_
        obtain ⟨w1, w2⟩ := inS h
        clear h
        subst w1
        subst w2
        exact g_sub [1, 0] rfl (hI19 _ rfl)
set_option maxRecDepth 100000 in
set_option maxHeartbeats 4000000 in
theorem cX4_fastenc {l : Launch} {v0 : Option Nat} {v1 : Int32} {σ : HpT} {σ' : HpT} (h : fX4_fasten v0 v1 σ = some σ') : IsK σ v0 4 ∧ Ct l yX4_fasten cX4_fasten 2 none 1 21 [va_rf v0, .int v1] σ (.ok none) σ' 0 0 := by
  unfold fX4_fasten at h
  replace h := bnP_s h
  obtain ⟨u, hk, h⟩ := h
  replace hk := isK_s hk
  refine ⟨hk, ?_⟩
  refine ct_start mi_X4_fasten.1 rfl (al_le (al_1 (rf_cat _) (al_1 rfl al_n)) (Nat.le_of_ble_eq_true rfl)) (ag_1 (rf_cat _) (ag_1 rfl ag_n)) (fun Δ Γ B hE hnm => ?_)
  refine g_aload_n B 0 dX4_fasten_0 rfl rfl ?_
  refine g_iload_n B 1 dX4_fasten_1 rfl rfl ?_
  replace h := bnP_s h
  obtain ⟨x1, h2, h⟩ := h
  refine g_callVs0 (st := []) B (cX4_isTherec h2) (Nat.le_of_ble_eq_true rfl) rfl rfl mi_X4_isThere lk_RX4_32 ⟨Nat.le_of_ble_eq_true rfl, Nat.le_of_ble_eq_true rfl⟩ rfl rfl (Nat.le_of_ble_eq_true rfl) dX4_fasten_2 (Nat.zero_le _) (Nat.zero_le _) ?_
  refine g_if_eq B 15 dX4_fasten_5 (by decide) (fun hc => ?_) (fun hc => ?_)
  · replace h := ifn (bI0 hc) h
    replace h := Option.some.inj h
    subst h
    exact g_vret B hE (Nat.zero_le _) (Nat.zero_le _) dX4_fasten_15
  · replace h := ifp (bI1 hc) h
    refine g_aload_n B 0 dX4_fasten_8 rfl rfl ?_
    replace h := bnP_s h
    obtain ⟨x3, h4, h⟩ := h
    refine g_getR B fl_RX4_11 (by decide) dX4_fasten_9 h4 ?_
    refine g_iload_n B 1 dX4_fasten_12 rfl rfl ?_
    refine g_iconst (v := 0) B dX4_fasten_13 (by decide) ?_
    replace h := bnP_s h
    obtain ⟨s7, h6, h⟩ := h
    refine g_iast B dX4_fasten_14 h6 ?_
    replace h := Option.some.inj h
    subst h
    exact g_vret B hE (Nat.zero_le _) (Nat.zero_le _) dX4_fasten_15
set_option maxRecDepth 100000 in
set_option maxHeartbeats 4000000 in
theorem cX4_gatheringOfc {l : Launch} {v0 : Option Nat} {v1 : Int32} {σ : HpT} {r : Int32} (h : fX4_gatheringOf v0 v1 σ = some r) : IsK σ v0 4 ∧ Ct l yX4_gatheringOf cX4_gatheringOf 2 (some .int) 0 0 [va_rf v0, .int v1] σ (.ok (some (.int r))) σ 0 0 := by
  unfold fX4_gatheringOf at h
  replace h := bnP_s h
  obtain ⟨u, hk, h⟩ := h
  replace hk := isK_s hk
  refine ⟨hk, ?_⟩
  refine ct_start mi_X4_gatheringOf.1 rfl (al_le (al_1 (rf_cat _) (al_1 rfl al_n)) (Nat.le_of_ble_eq_true rfl)) (ag_1 (rf_cat _) (ag_1 rfl ag_n)) (fun Δ Γ B hE hnm => ?_)
  refine g_aload_n B 0 dX4_gatheringOf_0 rfl rfl ?_
  replace h := bnP_s h
  obtain ⟨x1, h2, h⟩ := h
  refine g_getI B fl_RX4_19 (by decide) dX4_gatheringOf_1 h2 ?_
  refine g_if_le B 16 dX4_gatheringOf_4 (by decide) (fun hc => ?_) (fun hc => ?_)
  · replace h := ifp hc h
    refine g_iconst (v := 0) B dX4_gatheringOf_16 (by decide) ?_
    replace h := Option.some.inj h
    subst h
    exact g_iret B hE (Nat.zero_le _) (Nat.zero_le _) dX4_gatheringOf_17
  · replace h := ifn hc h
    refine g_iload_n B 1 dX4_gatheringOf_7 rfl rfl ?_
    refine g_aload_n B 0 dX4_gatheringOf_8 rfl rfl ?_
    replace h := bnP_s h
    obtain ⟨x3, h4, h⟩ := h
    refine g_getI B fl_RX4_19 (by decide) dX4_gatheringOf_9 h4 ?_
    replace h := bnP_s h
    obtain ⟨u5, h6, h⟩ := h
    refine g_idiv B dX4_gatheringOf_12 (nz_s h6) ?_
    refine g_goto B 17 dX4_gatheringOf_13 (by decide) ?_
    replace h := Option.some.inj h
    subst h
    exact g_iret B hE (Nat.zero_le _) (Nat.zero_le _) dX4_gatheringOf_17
