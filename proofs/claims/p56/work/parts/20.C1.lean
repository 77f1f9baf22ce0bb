theorem mi_X1_actsOn : MI yX1_actsOn cX1_actsOn 4 (some .int) 1 := ⟨by decide +kernel, (mw (i := 1037) (by decide +kernel) rfl), (mw (i := 38) (by decide +kernel) rfl), by decide +kernel, by decide +kernel⟩
theorem mi_X1_beginAct : MI yX1_beginAct cX1_beginAct 4 none 2 := ⟨by decide +kernel, (mw (i := 692) (by decide +kernel) rfl), (mw (i := 38) (by decide +kernel) rfl), by decide +kernel, by decide +kernel⟩
theorem mi_X1_canInsert : MI yX1_canInsert cX1_canInsert 3 (some .boolean) 1 := ⟨by decide +kernel, (mw (i := 798) (by decide +kernel) rfl), (mw (i := 38) (by decide +kernel) rfl), by decide +kernel, by decide +kernel⟩
theorem mi_X1_copiesOf : MI yX1_copiesOf cX1_copiesOf 4 (some .int) 1 := ⟨by decide +kernel, (mw (i := 1003) (by decide +kernel) rfl), (mw (i := 38) (by decide +kernel) rfl), by decide +kernel, by decide +kernel⟩
theorem mi_X1_copiesWith : MI yX1_copiesWith cX1_copiesWith 4 (some .int) 1 := ⟨by decide +kernel, (mw (i := 871) (by decide +kernel) rfl), (mw (i := 38) (by decide +kernel) rfl), by decide +kernel, by decide +kernel⟩
theorem mi_X1_copyReason : MI yX1_copyReason cX1_copyReason 4 (some .int) 2 := ⟨by decide +kernel, (mw (i := 850) (by decide +kernel) rfl), (mw (i := 38) (by decide +kernel) rfl), by decide +kernel, by decide +kernel⟩
theorem mi_X1_firstActOn : MI yX1_firstActOn cX1_firstActOn 3 (some .int) 1 := ⟨by decide +kernel, (mw (i := 1047) (by decide +kernel) rfl), (mw (i := 38) (by decide +kernel) rfl), by decide +kernel, by decide +kernel⟩
theorem mi_X1_isKnown : MI yX1_isKnown cX1_isKnown 2 (some .boolean) 1 := ⟨by decide +kernel, (mw (i := 863) (by decide +kernel) rfl), (mw (i := 38) (by decide +kernel) rfl), by decide +kernel, by decide +kernel⟩
theorem mi_X1_isOn : MI yX1_isOn cX1_isOn 3 (some .boolean) 2 := ⟨by decide +kernel, (mw (i := 1041) (by decide +kernel) rfl), (mw (i := 38) (by decide +kernel) rfl), by decide +kernel, by decide +kernel⟩
theorem mi_X1_knownByAlone : MI yX1_knownByAlone cX1_knownByAlone 4 (some .int) 1 := ⟨by decide +kernel, (mw (i := 1061) (by decide +kernel) rfl), (mw (i := 38) (by decide +kernel) rfl), by decide +kernel, by decide +kernel⟩
theorem mi_X1_makeCopy : MI yX1_makeCopy cX1_makeCopy 3 none 2 := ⟨by decide +kernel, (mw (i := 875) (by decide +kernel) rfl), (mw (i := 38) (by decide +kernel) rfl), by decide +kernel, by decide +kernel⟩
theorem mi_X1_strikeAround : MI yX1_strikeAround cX1_strikeAround 3 (some .int) 1 := ⟨by decide +kernel, (mw (i := 788) (by decide +kernel) rfl), (mw (i := 38) (by decide +kernel) rfl), by decide +kernel, by decide +kernel⟩
theorem mi_X1_strikeReason : MI yX1_strikeReason cX1_strikeReason 3 (some .int) 1 := ⟨by decide +kernel, (mw (i := 747) (by decide +kernel) rfl), (mw (i := 38) (by decide +kernel) rfl), by decide +kernel, by decide +kernel⟩
theorem mi_X1_strikeWord : MI yX1_strikeWord cX1_strikeWord 3 none 1 := ⟨by decide +kernel, (mw (i := 751) (by decide +kernel) rfl), (mw (i := 38) (by decide +kernel) rfl), by decide +kernel, by decide +kernel⟩
theorem mi_X1_unknownFrom : MI yX1_unknownFrom cX1_unknownFrom 5 (some .int) 2 := ⟨by decide +kernel, (mw (i := 980) (by decide +kernel) rfl), (mw (i := 38) (by decide +kernel) rfl), by decide +kernel, by decide +kernel⟩
theorem mi_X1_wordsOn : MI yX1_wordsOn cX1_wordsOn 2 (some .int) 1 := ⟨by decide +kernel, (mw (i := 705) (by decide +kernel) rfl), (mw (i := 38) (by decide +kernel) rfl), by decide +kernel, by decide +kernel⟩
theorem mi_X1_wouldBeUnknown : MI yX1_wouldBeUnknown cX1_wouldBeUnknown 6 (some .int) 1 := ⟨by decide +kernel, (mw (i := 1112) (by decide +kernel) rfl), (mw (i := 38) (by decide +kernel) rfl), by decide +kernel, by decide +kernel⟩
theorem mi_X3_draw : MI yX3_draw cX3_draw 5 none 3 := ⟨by decide +kernel, (mw (i := 854) (by decide +kernel) rfl), (mw (i := 42) (by decide +kernel) rfl), by decide +kernel, by decide +kernel⟩
theorem mi_X3_fee : MI yX3_fee cX3_fee 1 (some .int) 0 := ⟨by decide +kernel, (mw (i := 879) (by decide +kernel) rfl), (mw (i := 42) (by decide +kernel) rfl), by decide +kernel, by decide +kernel⟩
theorem mi_X3_holds : MI yX3_holds cX3_holds 3 (some .boolean) 2 := ⟨by decide +kernel, (mw (i := 858) (by decide +kernel) rfl), (mw (i := 42) (by decide +kernel) rfl), by decide +kernel, by decide +kernel⟩
theorem mi_X4_extendTo : MI yX4_extendTo cX4_extendTo 3 none 1 := ⟨by decide +kernel, (mw (i := 724) (by decide +kernel) rfl), (mw (i := 40) (by decide +kernel) rfl), by decide +kernel, by decide +kernel⟩
theorem mi_X4_fasten : MI yX4_fasten cX4_fasten 2 none 1 := ⟨by decide +kernel, (mw (i := 712) (by decide +kernel) rfl), (mw (i := 40) (by decide +kernel) rfl), by decide +kernel, by decide +kernel⟩
theorem mi_X4_gatheringOf : MI yX4_gatheringOf cX4_gatheringOf 2 (some .int) 1 := ⟨by decide +kernel, (mw (i := 732) (by decide +kernel) rfl), (mw (i := 40) (by decide +kernel) rfl), by decide +kernel, by decide +kernel⟩
theorem mi_X4_isLost : MI yX4_isLost cX4_isLost 2 (some .boolean) 1 := ⟨by decide +kernel, (mw (i := 697) (by decide +kernel) rfl), (mw (i := 40) (by decide +kernel) rfl), by decide +kernel, by decide +kernel⟩
theorem mi_X4_isThere : MI yX4_isThere cX4_isThere 2 (some .boolean) 1 := ⟨by decide +kernel, (mw (i := 701) (by decide +kernel) rfl), (mw (i := 40) (by decide +kernel) rfl), by decide +kernel, by decide +kernel⟩
theorem mi_X4_mateOf : MI yX4_mateOf cX4_mateOf 4 (some .int) 1 := ⟨by decide +kernel, (mw (i := 728) (by decide +kernel) rfl), (mw (i := 40) (by decide +kernel) rfl), by decide +kernel, by decide +kernel⟩
theorem mi_X8_insert : MI yX8_insert cX8_insert 4 none 2 := ⟨by decide +kernel, (mw (i := 807) (by decide +kernel) rfl), (mw (i := 39) (by decide +kernel) rfl), by decide +kernel, by decide +kernel⟩
theorem mi_X8_strikeFrom : MI yX8_strikeFrom cX8_strikeFrom 5 (some .int) 2 := ⟨by decide +kernel, (mw (i := 755) (by decide +kernel) rfl), (mw (i := 39) (by decide +kernel) rfl), by decide +kernel, by decide +kernel⟩
theorem fl_RX1_149 : Fl RX1 149 3 0 .int false := ⟨RX3, TX3, 5, tyX3, rfl, by decide, rfl, lay_3, (mw (i := 191) (by decide +kernel) rfl), tyX3_ok, nmX3, tyX3_ok 0 (by decide), rfl, by decide, by decide⟩
theorem fl_RX1_152 : Fl RX1 152 3 2 .int false := ⟨RX3, TX3, 5, tyX3, rfl, by decide, rfl, lay_3, (mw (i := 195) (by decide +kernel) rfl), tyX3_ok, nmX3, tyX3_ok 2 (by decide), rfl, by decide, by decide⟩
theorem fl_RX1_153 : Fl RX1 153 3 3 .int false := ⟨RX3, TX3, 5, tyX3, rfl, by decide, rfl, lay_3, (mw (i := 197) (by decide +kernel) rfl), tyX3_ok, nmX3, tyX3_ok 3 (by decide), rfl, by decide, by decide⟩
theorem fl_RX1_181 : Fg RX1 181 8 4 := ⟨RX8, TX8, 7, rfl, by decide, rfl, lay_8, (mw (i := 112) (by decide +kernel) rfl)⟩
theorem fl_RX1_191 : Fl RX1 191 2 0 .int false := ⟨RX2, TX2, 4, tyX2, rfl, by decide, rfl, lay_2, (mw (i := 169) (by decide +kernel) rfl), tyX2_ok, nmX2, tyX2_ok 0 (by decide), rfl, by decide, by decide⟩
theorem fl_RX1_192 : Fl RX1 192 2 1 .int false := ⟨RX2, TX2, 4, tyX2, rfl, by decide, rfl, lay_2, (mw (i := 172) (by decide +kernel) rfl), tyX2_ok, nmX2, tyX2_ok 1 (by decide), rfl, by decide, by decide⟩
theorem fl_RX1_193 : Fg RX1 193 8 5 := ⟨RX8, TX8, 7, rfl, by decide, rfl, lay_8, (mw (i := 116) (by decide +kernel) rfl)⟩
theorem fl_RX3_27 : Fl RX3 27 0 0 .int false := ⟨RX0, TX0, 8, tyX0, rfl, by decide, rfl, lay_0, (mw (i := 217) (by decide +kernel) rfl), tyX0_ok, nmX0, tyX0_ok 0 (by decide), rfl, by decide, by decide⟩
theorem fl_RX3_32 : Fl RX3 32 0 5 .int false := ⟨RX0, TX0, 8, tyX0, rfl, by decide, rfl, lay_0, (mw (i := 232) (by decide +kernel) rfl), tyX0_ok, nmX0, tyX0_ok 5 (by decide), rfl, by decide, by decide⟩
theorem fl_RX3_33 : Fl RX3 33 0 6 .int false := ⟨RX0, TX0, 8, tyX0, rfl, by decide, rfl, lay_0, (mw (i := 237) (by decide +kernel) rfl), tyX0_ok, nmX0, tyX0_ok 6 (by decide), rfl, by decide, by decide⟩
theorem fl_RX3_34 : Fg RX3 34 8 4 := ⟨RX8, TX8, 7, rfl, by decide, rfl, lay_8, (mw (i := 110) (by decide +kernel) rfl)⟩
theorem fl_RX3_44 : Fg RX3 44 8 5 := ⟨RX8, TX8, 7, rfl, by decide, rfl, lay_8, (mw (i := 114) (by decide +kernel) rfl)⟩
theorem lk_RX1_124 : LV RX1 124 yX1_leafOf := ⟨(mw (i := 864) (by decide +kernel) rfl), (mw (i := 865) (by decide +kernel) rfl), (mw (i := 866) (by decide +kernel) rfl)⟩
theorem lk_RX1_128 : LV RX1 128 yX1_isOn := ⟨(mw (i := 1038) (by decide +kernel) rfl), (mw (i := 1040) (by decide +kernel) rfl), (mw (i := 27) (by decide +kernel) rfl)⟩
theorem lk_RX1_132 : LV RX1 132 yX3_holds := ⟨(mw (i := 859) (by decide +kernel) rfl), (mw (i := 856) (by decide +kernel) rfl), (mw (i := 857) (by decide +kernel) rfl)⟩
theorem lk_RX1_136 : LV RX1 136 yX4_isLost := ⟨(mw (i := 694) (by decide +kernel) rfl), (mw (i := 695) (by decide +kernel) rfl), (mw (i := 696) (by decide +kernel) rfl)⟩
theorem lk_RX1_140 : LV RX1 140 yX1_copiesWith := ⟨(mw (i := 868) (by decide +kernel) rfl), (mw (i := 869) (by decide +kernel) rfl), (mw (i := 870) (by decide +kernel) rfl)⟩
theorem lk_RX1_143 : LV RX1 143 yX1_isKnown := ⟨(mw (i := 860) (by decide +kernel) rfl), (mw (i := 861) (by decide +kernel) rfl), (mw (i := 862) (by decide +kernel) rfl)⟩
theorem lk_RX1_146 : LV RX1 146 yX1_wordsOn := ⟨(mw (i := 702) (by decide +kernel) rfl), (mw (i := 703) (by decide +kernel) rfl), (mw (i := 704) (by decide +kernel) rfl)⟩
theorem lk_RX1_156 : LV RX1 156 yX3_draw := ⟨(mw (i := 851) (by decide +kernel) rfl), (mw (i := 852) (by decide +kernel) rfl), (mw (i := 853) (by decide +kernel) rfl)⟩
theorem lk_RX1_160 : LV RX1 160 yX3_fee := ⟨(mw (i := 876) (by decide +kernel) rfl), (mw (i := 877) (by decide +kernel) rfl), (mw (i := 878) (by decide +kernel) rfl)⟩
theorem lk_RX1_164 : LV RX1 164 yX1_mostWords := ⟨(mw (i := 693) (by decide +kernel) rfl), (mw (i := 677) (by decide +kernel) rfl), (mw (i := 678) (by decide +kernel) rfl)⟩
theorem lk_RX1_167 : LV RX1 167 yX4_fasten := ⟨(mw (i := 709) (by decide +kernel) rfl), (mw (i := 710) (by decide +kernel) rfl), (mw (i := 711) (by decide +kernel) rfl)⟩
theorem lk_RX1_171 : LV RX1 171 yX0_start := ⟨(mw (i := 713) (by decide +kernel) rfl), (mw (i := 714) (by decide +kernel) rfl), (mw (i := 715) (by decide +kernel) rfl)⟩
theorem lk_RX1_175 : LV RX1 175 yX1_leavesOf := ⟨(mw (i := 717) (by decide +kernel) rfl), (mw (i := 718) (by decide +kernel) rfl), (mw (i := 719) (by decide +kernel) rfl)⟩
theorem lk_RX1_178 : LV RX1 178 yX4_extendTo := ⟨(mw (i := 721) (by decide +kernel) rfl), (mw (i := 722) (by decide +kernel) rfl), (mw (i := 723) (by decide +kernel) rfl)⟩
theorem lk_RX1_185 : LV RX1 185 yX8_strikeFrom := ⟨(mw (i := 752) (by decide +kernel) rfl), (mw (i := 753) (by decide +kernel) rfl), (mw (i := 754) (by decide +kernel) rfl)⟩
theorem lk_RX1_188 : LV RX1 188 yX1_seekClauseAround := ⟨(mw (i := 789) (by decide +kernel) rfl), (mw (i := 766) (by decide +kernel) rfl), (mw (i := 767) (by decide +kernel) rfl)⟩
theorem lk_RX3_40 : LV RX3 40 yX3_holds := ⟨(mw (i := 855) (by decide +kernel) rfl), (mw (i := 856) (by decide +kernel) rfl), (mw (i := 857) (by decide +kernel) rfl)⟩
theorem lk_RX4_32 : LV RX4 32 yX4_isThere := ⟨(mw (i := 698) (by decide +kernel) rfl), (mw (i := 699) (by decide +kernel) rfl), (mw (i := 700) (by decide +kernel) rfl)⟩
theorem lk_RX4_36 : LV RX4 36 yX4_gatheringOf := ⟨(mw (i := 729) (by decide +kernel) rfl), (mw (i := 730) (by decide +kernel) rfl), (mw (i := 731) (by decide +kernel) rfl)⟩
theorem lk_RX4_44 : LV RX4 44 yX4_mateOf := ⟨(mw (i := 725) (by decide +kernel) rfl), (mw (i := 726) (by decide +kernel) rfl), (mw (i := 727) (by decide +kernel) rfl)⟩
theorem lk_RX4_53 : LV RX4 53 yX4_isLost := ⟨(mw (i := 733) (by decide +kernel) rfl), (mw (i := 695) (by decide +kernel) rfl), (mw (i := 696) (by decide +kernel) rfl)⟩
theorem mt_RX1_121 : MTW RX1 121 Lib.Math.max.name Lib.Math.max.code 2 := ⟨(mw (i := 706) (by decide +kernel) rfl), (mw (i := 707) (by decide +kernel) rfl), (mw (i := 56) (by decide +kernel) rfl), (mw (i := 708) (by decide +kernel) rfl)⟩
theorem dX1_wordsOn_0 : decode cX1_wordsOn 0 = .ok (.iconst 0, 1) := by decide +kernel
theorem dX1_wordsOn_1 : decode cX1_wordsOn 1 = .ok (.aload_n 0, 1) := by decide +kernel
theorem dX1_wordsOn_2 : decode cX1_wordsOn 2 = .ok (.getfield 48, 3) := by decide +kernel
theorem dX1_wordsOn_5 : decode cX1_wordsOn 5 = .ok (.aload_n 0, 1) := by decide +kernel
theorem dX1_wordsOn_6 : decode cX1_wordsOn 6 = .ok (.getfield 24, 3) := by decide +kernel
theorem dX1_wordsOn_9 : decode cX1_wordsOn 9 = .ok (.getfield 80, 3) := by decide +kernel
theorem dX1_wordsOn_12 : decode cX1_wordsOn 12 = .ok (.iload_n 1, 1) := by decide +kernel
theorem dX1_wordsOn_13 : decode cX1_wordsOn 13 = .ok (.aload_n 0, 1) := by decide +kernel
theorem dX1_wordsOn_14 : decode cX1_wordsOn 14 = .ok (.getfield 48, 3) := by decide +kernel
theorem dX1_wordsOn_17 : decode cX1_wordsOn 17 = .ok (.imul, 1) := by decide +kernel
theorem dX1_wordsOn_18 : decode cX1_wordsOn 18 = .ok (.isub, 1) := by decide +kernel
theorem dX1_wordsOn_19 : decode cX1_wordsOn 19 = .ok (.invokestatic 116, 3) := by decide +kernel
theorem dX1_wordsOn_22 : decode cX1_wordsOn 22 = .ok (.invokestatic 121, 3) := by decide +kernel
theorem dX1_wordsOn_25 : decode cX1_wordsOn 25 = .ok (.ireturn, 1) := by decide +kernel
theorem dX1_isOn_0 : decode cX1_isOn 0 = .ok (.aload_n 0, 1) := by decide +kernel
theorem dX1_isOn_1 : decode cX1_isOn 1 = .ok (.aload_n 1, 1) := by decide +kernel
theorem dX1_isOn_2 : decode cX1_isOn 2 = .ok (.getfield 92, 3) := by decide +kernel
theorem dX1_isOn_5 : decode cX1_isOn 5 = .ok (.invokevirtual 124, 3) := by decide +kernel
theorem dX1_isOn_8 : decode cX1_isOn 8 = .ok (.iload_n 2, 1) := by decide +kernel
theorem dX1_isOn_9 : decode cX1_isOn 9 = .ok (.if_icmp .gt 26, 3) := by decide +kernel
theorem dX1_isOn_12 : decode cX1_isOn 12 = .ok (.aload_n 0, 1) := by decide +kernel
theorem dX1_isOn_13 : decode cX1_isOn 13 = .ok (.aload_n 1, 1) := by decide +kernel
theorem dX1_isOn_14 : decode cX1_isOn 14 = .ok (.getfield 92, 3) := by decide +kernel
theorem dX1_isOn_17 : decode cX1_isOn 17 = .ok (.aload_n 1, 1) := by decide +kernel
theorem dX1_isOn_18 : decode cX1_isOn 18 = .ok (.getfield 91, 3) := by decide +kernel
theorem dX1_isOn_21 : decode cX1_isOn 21 = .ok (.iadd, 1) := by decide +kernel
theorem dX1_isOn_22 : decode cX1_isOn 22 = .ok (.iconst 1, 1) := by decide +kernel
theorem dX1_isOn_23 : decode cX1_isOn 23 = .ok (.isub, 1) := by decide +kernel
theorem dX1_isOn_24 : decode cX1_isOn 24 = .ok (.invokevirtual 124, 3) := by decide +kernel
theorem dX1_isOn_27 : decode cX1_isOn 27 = .ok (.iload_n 2, 1) := by decide +kernel
theorem dX1_isOn_28 : decode cX1_isOn 28 = .ok (.if_icmp .lt 7, 3) := by decide +kernel
theorem dX1_isOn_31 : decode cX1_isOn 31 = .ok (.iconst 1, 1) := by decide +kernel
theorem dX1_isOn_32 : decode cX1_isOn 32 = .ok (.goto 4, 3) := by decide +kernel
theorem dX1_isOn_35 : decode cX1_isOn 35 = .ok (.iconst 0, 1) := by decide +kernel
theorem dX1_isOn_36 : decode cX1_isOn 36 = .ok (.ireturn, 1) := by decide +kernel
theorem dX1_actsOn_0 : decode cX1_actsOn 0 = .ok (.iconst 0, 1) := by decide +kernel
theorem dX1_actsOn_1 : decode cX1_actsOn 1 = .ok (.istore_n 2, 1) := by decide +kernel
theorem dX1_actsOn_2 : decode cX1_actsOn 2 = .ok (.iconst 0, 1) := by decide +kernel
theorem dX1_actsOn_3 : decode cX1_actsOn 3 = .ok (.istore_n 3, 1) := by decide +kernel
theorem dX1_actsOn_4 : decode cX1_actsOn 4 = .ok (.iload_n 3, 1) := by decide +kernel
theorem dX1_actsOn_5 : decode cX1_actsOn 5 = .ok (.aload_n 0, 1) := by decide +kernel
theorem dX1_actsOn_6 : decode cX1_actsOn 6 = .ok (.getfield 55, 3) := by decide +kernel
theorem dX1_actsOn_9 : decode cX1_actsOn 9 = .ok (.if_icmp .ge 26, 3) := by decide +kernel
theorem dX1_actsOn_12 : decode cX1_actsOn 12 = .ok (.aload_n 0, 1) := by decide +kernel
theorem dX1_actsOn_13 : decode cX1_actsOn 13 = .ok (.aload_n 0, 1) := by decide +kernel
theorem dX1_actsOn_14 : decode cX1_actsOn 14 = .ok (.getfield 11, 3) := by decide +kernel
theorem dX1_actsOn_17 : decode cX1_actsOn 17 = .ok (.iload_n 3, 1) := by decide +kernel
theorem dX1_actsOn_18 : decode cX1_actsOn 18 = .ok (.aaload, 1) := by decide +kernel
theorem dX1_actsOn_19 : decode cX1_actsOn 19 = .ok (.iload_n 1, 1) := by decide +kernel
theorem dX1_actsOn_20 : decode cX1_actsOn 20 = .ok (.invokevirtual 128, 3) := by decide +kernel
theorem dX1_actsOn_23 : decode cX1_actsOn 23 = .ok (.ifCond .eq 6, 3) := by decide +kernel
theorem dX1_actsOn_26 : decode cX1_actsOn 26 = .ok (.iinc 2 1, 3) := by decide +kernel
theorem dX1_actsOn_29 : decode cX1_actsOn 29 = .ok (.iinc 3 1, 3) := by decide +kernel
theorem dX1_actsOn_32 : decode cX1_actsOn 32 = .ok (.goto (-28), 3) := by decide +kernel
theorem dX1_actsOn_35 : decode cX1_actsOn 35 = .ok (.iload_n 2, 1) := by decide +kernel
theorem dX1_actsOn_36 : decode cX1_actsOn 36 = .ok (.ireturn, 1) := by decide +kernel
theorem dX1_firstActOn_0 : decode cX1_firstActOn 0 = .ok (.iconst 0, 1) := by decide +kernel
theorem dX1_firstActOn_1 : decode cX1_firstActOn 1 = .ok (.istore_n 2, 1) := by decide +kernel
theorem dX1_firstActOn_2 : decode cX1_firstActOn 2 = .ok (.iload_n 2, 1) := by decide +kernel
theorem dX1_firstActOn_3 : decode cX1_firstActOn 3 = .ok (.aload_n 0, 1) := by decide +kernel
theorem dX1_firstActOn_4 : decode cX1_firstActOn 4 = .ok (.getfield 55, 3) := by decide +kernel
theorem dX1_firstActOn_7 : decode cX1_firstActOn 7 = .ok (.if_icmp .ge 27, 3) := by decide +kernel
theorem dX1_firstActOn_10 : decode cX1_firstActOn 10 = .ok (.aload_n 0, 1) := by decide +kernel
theorem dX1_firstActOn_11 : decode cX1_firstActOn 11 = .ok (.aload_n 0, 1) := by decide +kernel
theorem dX1_firstActOn_12 : decode cX1_firstActOn 12 = .ok (.getfield 11, 3) := by decide +kernel
theorem dX1_firstActOn_15 : decode cX1_firstActOn 15 = .ok (.iload_n 2, 1) := by decide +kernel
theorem dX1_firstActOn_16 : decode cX1_firstActOn 16 = .ok (.aaload, 1) := by decide +kernel
theorem dX1_firstActOn_17 : decode cX1_firstActOn 17 = .ok (.iload_n 1, 1) := by decide +kernel
theorem dX1_firstActOn_18 : decode cX1_firstActOn 18 = .ok (.invokevirtual 128, 3) := by decide +kernel
theorem dX1_firstActOn_21 : decode cX1_firstActOn 21 = .ok (.ifCond .eq 7, 3) := by decide +kernel
theorem dX1_firstActOn_24 : decode cX1_firstActOn 24 = .ok (.iload_n 2, 1) := by decide +kernel
theorem dX1_firstActOn_25 : decode cX1_firstActOn 25 = .ok (.iconst 1, 1) := by decide +kernel
theorem dX1_firstActOn_26 : decode cX1_firstActOn 26 = .ok (.iadd, 1) := by decide +kernel
theorem dX1_firstActOn_27 : decode cX1_firstActOn 27 = .ok (.ireturn, 1) := by decide +kernel
theorem dX1_firstActOn_28 : decode cX1_firstActOn 28 = .ok (.iinc 2 1, 3) := by decide +kernel
theorem dX1_firstActOn_31 : decode cX1_firstActOn 31 = .ok (.goto (-29), 3) := by decide +kernel
theorem dX1_firstActOn_34 : decode cX1_firstActOn 34 = .ok (.iconst 0, 1) := by decide +kernel
theorem dX1_firstActOn_35 : decode cX1_firstActOn 35 = .ok (.ireturn, 1) := by decide +kernel
theorem dX3_holds_0 : decode cX3_holds 0 = .ok (.iload_n 2, 1) := by decide +kernel
theorem dX3_holds_1 : decode cX3_holds 1 = .ok (.aload_n 0, 1) := by decide +kernel
theorem dX3_holds_2 : decode cX3_holds 2 = .ok (.getfield 18, 3) := by decide +kernel
theorem dX3_holds_5 : decode cX3_holds 5 = .ok (.if_icmp .lt 20, 3) := by decide +kernel
theorem dX3_holds_8 : decode cX3_holds 8 = .ok (.iload_n 2, 1) := by decide +kernel
theorem dX3_holds_9 : decode cX3_holds 9 = .ok (.aload_n 0, 1) := by decide +kernel
theorem dX3_holds_10 : decode cX3_holds 10 = .ok (.getfield 21, 3) := by decide +kernel
theorem dX3_holds_13 : decode cX3_holds 13 = .ok (.if_icmp .gt 12, 3) := by decide +kernel
theorem dX3_holds_16 : decode cX3_holds 16 = .ok (.aload_n 1, 1) := by decide +kernel
theorem dX3_holds_17 : decode cX3_holds 17 = .ok (.getfield 34, 3) := by decide +kernel
theorem dX3_holds_20 : decode cX3_holds 20 = .ok (.iload_n 2, 1) := by decide +kernel
theorem dX3_holds_21 : decode cX3_holds 21 = .ok (.baload, 1) := by decide +kernel
theorem dX3_holds_22 : decode cX3_holds 22 = .ok (.ifCond .eq 5, 3) := by decide +kernel
theorem dX3_holds_25 : decode cX3_holds 25 = .ok (.iconst 0, 1) := by decide +kernel
theorem dX3_holds_26 : decode cX3_holds 26 = .ok (.ireturn, 1) := by decide +kernel
theorem dX3_holds_27 : decode cX3_holds 27 = .ok (.aload_n 0, 1) := by decide +kernel
theorem dX3_holds_28 : decode cX3_holds 28 = .ok (.getfield 15, 3) := by decide +kernel
theorem dX3_holds_31 : decode cX3_holds 31 = .ok (.iconst 2, 1) := by decide +kernel
theorem dX3_holds_32 : decode cX3_holds 32 = .ok (.if_icmp .ne 19, 3) := by decide +kernel
theorem dX3_holds_35 : decode cX3_holds 35 = .ok (.iload_n 2, 1) := by decide +kernel
theorem dX3_holds_36 : decode cX3_holds 36 = .ok (.aload_n 0, 1) := by decide +kernel
theorem dX3_holds_37 : decode cX3_holds 37 = .ok (.getfield 18, 3) := by decide +kernel
theorem dX3_holds_40 : decode cX3_holds 40 = .ok (.if_icmp .eq 11, 3) := by decide +kernel
theorem dX3_holds_43 : decode cX3_holds 43 = .ok (.iload_n 2, 1) := by decide +kernel
theorem dX3_holds_44 : decode cX3_holds 44 = .ok (.aload_n 0, 1) := by decide +kernel
theorem dX3_holds_45 : decode cX3_holds 45 = .ok (.getfield 21, 3) := by decide +kernel
theorem dX3_holds_48 : decode cX3_holds 48 = .ok (.if_icmp .ne 7, 3) := by decide +kernel
theorem dX3_holds_51 : decode cX3_holds 51 = .ok (.iconst 1, 1) := by decide +kernel
theorem dX3_holds_52 : decode cX3_holds 52 = .ok (.goto 4, 3) := by decide +kernel
theorem dX3_holds_55 : decode cX3_holds 55 = .ok (.iconst 0, 1) := by decide +kernel
theorem dX3_holds_56 : decode cX3_holds 56 = .ok (.ireturn, 1) := by decide +kernel
theorem dX1_copiesWith_0 : decode cX1_copiesWith 0 = .ok (.iconst 0, 1) := by decide +kernel
theorem dX1_copiesWith_1 : decode cX1_copiesWith 1 = .ok (.istore_n 2, 1) := by decide +kernel
theorem dX1_copiesWith_2 : decode cX1_copiesWith 2 = .ok (.iconst 0, 1) := by decide +kernel
theorem dX1_copiesWith_3 : decode cX1_copiesWith 3 = .ok (.istore_n 3, 1) := by decide +kernel
theorem dX1_copiesWith_4 : decode cX1_copiesWith 4 = .ok (.iload_n 3, 1) := by decide +kernel
theorem dX1_copiesWith_5 : decode cX1_copiesWith 5 = .ok (.aload_n 0, 1) := by decide +kernel
theorem dX1_copiesWith_6 : decode cX1_copiesWith 6 = .ok (.getfield 58, 3) := by decide +kernel
theorem dX1_copiesWith_9 : decode cX1_copiesWith 9 = .ok (.if_icmp .ge 29, 3) := by decide +kernel
theorem dX1_copiesWith_12 : decode cX1_copiesWith 12 = .ok (.aload_n 0, 1) := by decide +kernel
theorem dX1_copiesWith_13 : decode cX1_copiesWith 13 = .ok (.getfield 17, 3) := by decide +kernel
theorem dX1_copiesWith_16 : decode cX1_copiesWith 16 = .ok (.iload_n 3, 1) := by decide +kernel
theorem dX1_copiesWith_17 : decode cX1_copiesWith 17 = .ok (.aaload, 1) := by decide +kernel
theorem dX1_copiesWith_18 : decode cX1_copiesWith 18 = .ok (.aload_n 0, 1) := by decide +kernel
theorem dX1_copiesWith_19 : decode cX1_copiesWith 19 = .ok (.getfield 24, 3) := by decide +kernel
theorem dX1_copiesWith_22 : decode cX1_copiesWith 22 = .ok (.iload_n 1, 1) := by decide +kernel
theorem dX1_copiesWith_23 : decode cX1_copiesWith 23 = .ok (.invokevirtual 132, 3) := by decide +kernel
theorem dX1_copiesWith_26 : decode cX1_copiesWith 26 = .ok (.ifCond .eq 6, 3) := by decide +kernel
theorem dX1_copiesWith_29 : decode cX1_copiesWith 29 = .ok (.iinc 2 1, 3) := by decide +kernel
theorem dX1_copiesWith_32 : decode cX1_copiesWith 32 = .ok (.iinc 3 1, 3) := by decide +kernel
theorem dX1_copiesWith_35 : decode cX1_copiesWith 35 = .ok (.goto (-31), 3) := by decide +kernel
theorem dX1_copiesWith_38 : decode cX1_copiesWith 38 = .ok (.iload_n 2, 1) := by decide +kernel
theorem dX1_copiesWith_39 : decode cX1_copiesWith 39 = .ok (.ireturn, 1) := by decide +kernel
theorem dX4_isThere_0 : decode cX4_isThere 0 = .ok (.iload_n 1, 1) := by decide +kernel
theorem dX4_isThere_1 : decode cX4_isThere 1 = .ok (.ifCond .lt 15, 3) := by decide +kernel
theorem dX4_isThere_4 : decode cX4_isThere 4 = .ok (.iload_n 1, 1) := by decide +kernel
theorem dX4_isThere_5 : decode cX4_isThere 5 = .ok (.aload_n 0, 1) := by decide +kernel
theorem dX4_isThere_6 : decode cX4_isThere 6 = .ok (.getfield 23, 3) := by decide +kernel
theorem dX4_isThere_9 : decode cX4_isThere 9 = .ok (.if_icmp .ge 7, 3) := by decide +kernel
theorem dX4_isThere_12 : decode cX4_isThere 12 = .ok (.iconst 1, 1) := by decide +kernel
theorem dX4_isThere_13 : decode cX4_isThere 13 = .ok (.goto 4, 3) := by decide +kernel
theorem dX4_isThere_16 : decode cX4_isThere 16 = .ok (.iconst 0, 1) := by decide +kernel
theorem dX4_isThere_17 : decode cX4_isThere 17 = .ok (.ireturn, 1) := by decide +kernel
theorem dX4_isLost_0 : decode cX4_isLost 0 = .ok (.aload_n 0, 1) := by decide +kernel
theorem dX4_isLost_1 : decode cX4_isLost 1 = .ok (.iload_n 1, 1) := by decide +kernel
theorem dX4_isLost_2 : decode cX4_isLost 2 = .ok (.invokevirtual 32, 3) := by decide +kernel
theorem dX4_isLost_5 : decode cX4_isLost 5 = .ok (.ifCond .eq 17, 3) := by decide +kernel
theorem dX4_isLost_8 : decode cX4_isLost 8 = .ok (.aload_n 0, 1) := by decide +kernel
theorem dX4_isLost_9 : decode cX4_isLost 9 = .ok (.getfield 11, 3) := by decide +kernel
theorem dX4_isLost_12 : decode cX4_isLost 12 = .ok (.iload_n 1, 1) := by decide +kernel
theorem dX4_isLost_13 : decode cX4_isLost 13 = .ok (.iaload, 1) := by decide +kernel
theorem dX4_isLost_14 : decode cX4_isLost 14 = .ok (.iconst 2, 1) := by decide +kernel
theorem dX4_isLost_15 : decode cX4_isLost 15 = .ok (.if_icmp .ne 7, 3) := by decide +kernel
theorem dX4_isLost_18 : decode cX4_isLost 18 = .ok (.iconst 1, 1) := by decide +kernel
theorem dX4_isLost_19 : decode cX4_isLost 19 = .ok (.goto 4, 3) := by decide +kernel
theorem dX4_isLost_22 : decode cX4_isLost 22 = .ok (.iconst 0, 1) := by decide +kernel
theorem dX4_isLost_23 : decode cX4_isLost 23 = .ok (.ireturn, 1) := by decide +kernel
theorem dX1_isKnown_0 : decode cX1_isKnown 0 = .ok (.aload_n 0, 1) := by decide +kernel
theorem dX1_isKnown_1 : decode cX1_isKnown 1 = .ok (.getfield 31, 3) := by decide +kernel
theorem dX1_isKnown_4 : decode cX1_isKnown 4 = .ok (.aload_n 0, 1) := by decide +kernel
theorem dX1_isKnown_5 : decode cX1_isKnown 5 = .ok (.iload_n 1, 1) := by decide +kernel
theorem dX1_isKnown_6 : decode cX1_isKnown 6 = .ok (.invokevirtual 124, 3) := by decide +kernel
theorem dX1_isKnown_9 : decode cX1_isKnown 9 = .ok (.invokevirtual 136, 3) := by decide +kernel
theorem dX1_isKnown_12 : decode cX1_isKnown 12 = .ok (.ifCond .eq 11, 3) := by decide +kernel
theorem dX1_isKnown_15 : decode cX1_isKnown 15 = .ok (.aload_n 0, 1) := by decide +kernel
theorem dX1_isKnown_16 : decode cX1_isKnown 16 = .ok (.iload_n 1, 1) := by decide +kernel
theorem dX1_isKnown_17 : decode cX1_isKnown 17 = .ok (.invokevirtual 140, 3) := by decide +kernel
theorem dX1_isKnown_20 : decode cX1_isKnown 20 = .ok (.ifCond .le 7, 3) := by decide +kernel
theorem dX1_isKnown_23 : decode cX1_isKnown 23 = .ok (.iconst 1, 1) := by decide +kernel
theorem dX1_isKnown_24 : decode cX1_isKnown 24 = .ok (.goto 4, 3) := by decide +kernel
theorem dX1_isKnown_27 : decode cX1_isKnown 27 = .ok (.iconst 0, 1) := by decide +kernel
theorem dX1_isKnown_28 : decode cX1_isKnown 28 = .ok (.ireturn, 1) := by decide +kernel
theorem dX1_unknownFrom_0 : decode cX1_unknownFrom 0 = .ok (.iconst 0, 1) := by decide +kernel
theorem dX1_unknownFrom_1 : decode cX1_unknownFrom 1 = .ok (.istore_n 3, 1) := by decide +kernel
theorem dX1_unknownFrom_2 : decode cX1_unknownFrom 2 = .ok (.iload_n 1, 1) := by decide +kernel
theorem dX1_unknownFrom_3 : decode cX1_unknownFrom 3 = .ok (.istore 4, 2) := by decide +kernel
theorem dX1_unknownFrom_5 : decode cX1_unknownFrom 5 = .ok (.iload 4, 2) := by decide +kernel
theorem dX1_unknownFrom_7 : decode cX1_unknownFrom 7 = .ok (.iload_n 1, 1) := by decide +kernel
theorem dX1_unknownFrom_8 : decode cX1_unknownFrom 8 = .ok (.iload_n 2, 1) := by decide +kernel
theorem dX1_unknownFrom_9 : decode cX1_unknownFrom 9 = .ok (.iadd, 1) := by decide +kernel
theorem dX1_unknownFrom_10 : decode cX1_unknownFrom 10 = .ok (.if_icmp .ge 21, 3) := by decide +kernel
theorem dX1_unknownFrom_13 : decode cX1_unknownFrom 13 = .ok (.aload_n 0, 1) := by decide +kernel
theorem dX1_unknownFrom_14 : decode cX1_unknownFrom 14 = .ok (.iload 4, 2) := by decide +kernel
theorem dX1_unknownFrom_16 : decode cX1_unknownFrom 16 = .ok (.invokevirtual 143, 3) := by decide +kernel
theorem dX1_unknownFrom_19 : decode cX1_unknownFrom 19 = .ok (.ifCond .ne 6, 3) := by decide +kernel
theorem dX1_unknownFrom_22 : decode cX1_unknownFrom 22 = .ok (.iinc 3 1, 3) := by decide +kernel
theorem dX1_unknownFrom_25 : decode cX1_unknownFrom 25 = .ok (.iinc 4 1, 3) := by decide +kernel
theorem dX1_unknownFrom_28 : decode cX1_unknownFrom 28 = .ok (.goto (-23), 3) := by decide +kernel
theorem dX1_unknownFrom_31 : decode cX1_unknownFrom 31 = .ok (.iload_n 3, 1) := by decide +kernel
theorem dX1_unknownFrom_32 : decode cX1_unknownFrom 32 = .ok (.ireturn, 1) := by decide +kernel
theorem dX1_wouldBeUnknown_0 : decode cX1_wouldBeUnknown 0 = .ok (.aload_n 0, 1) := by decide +kernel
theorem dX1_wouldBeUnknown_1 : decode cX1_wouldBeUnknown 1 = .ok (.getfield 31, 3) := by decide +kernel
theorem dX1_wouldBeUnknown_4 : decode cX1_wouldBeUnknown 4 = .ok (.iload_n 1, 1) := by decide +kernel
theorem dX1_wouldBeUnknown_5 : decode cX1_wouldBeUnknown 5 = .ok (.invokevirtual 136, 3) := by decide +kernel
theorem dX1_wouldBeUnknown_8 : decode cX1_wouldBeUnknown 8 = .ok (.ifCond .eq 5, 3) := by decide +kernel
theorem dX1_wouldBeUnknown_11 : decode cX1_wouldBeUnknown 11 = .ok (.iconst 0, 1) := by decide +kernel
theorem dX1_wouldBeUnknown_12 : decode cX1_wouldBeUnknown 12 = .ok (.ireturn, 1) := by decide +kernel
theorem dX1_wouldBeUnknown_13 : decode cX1_wouldBeUnknown 13 = .ok (.iconst 0, 1) := by decide +kernel
theorem dX1_wouldBeUnknown_14 : decode cX1_wouldBeUnknown 14 = .ok (.istore_n 2, 1) := by decide +kernel
theorem dX1_wouldBeUnknown_15 : decode cX1_wouldBeUnknown 15 = .ok (.iload_n 1, 1) := by decide +kernel
theorem dX1_wouldBeUnknown_16 : decode cX1_wouldBeUnknown 16 = .ok (.aload_n 0, 1) := by decide +kernel
theorem dX1_wouldBeUnknown_17 : decode cX1_wouldBeUnknown 17 = .ok (.getfield 48, 3) := by decide +kernel
theorem dX1_wouldBeUnknown_20 : decode cX1_wouldBeUnknown 20 = .ok (.imul, 1) := by decide +kernel
theorem dX1_wouldBeUnknown_21 : decode cX1_wouldBeUnknown 21 = .ok (.istore_n 3, 1) := by decide +kernel
theorem dX1_wouldBeUnknown_22 : decode cX1_wouldBeUnknown 22 = .ok (.iload_n 3, 1) := by decide +kernel
theorem dX1_wouldBeUnknown_23 : decode cX1_wouldBeUnknown 23 = .ok (.aload_n 0, 1) := by decide +kernel
theorem dX1_wouldBeUnknown_24 : decode cX1_wouldBeUnknown 24 = .ok (.iload_n 1, 1) := by decide +kernel
theorem dX1_wouldBeUnknown_25 : decode cX1_wouldBeUnknown 25 = .ok (.invokevirtual 146, 3) := by decide +kernel
theorem dX1_wouldBeUnknown_28 : decode cX1_wouldBeUnknown 28 = .ok (.iadd, 1) := by decide +kernel
theorem dX1_wouldBeUnknown_29 : decode cX1_wouldBeUnknown 29 = .ok (.istore 4, 2) := by decide +kernel
theorem dX1_wouldBeUnknown_31 : decode cX1_wouldBeUnknown 31 = .ok (.iload_n 3, 1) := by decide +kernel
theorem dX1_wouldBeUnknown_32 : decode cX1_wouldBeUnknown 32 = .ok (.istore 5, 2) := by decide +kernel
theorem dX1_wouldBeUnknown_34 : decode cX1_wouldBeUnknown 34 = .ok (.iload 5, 2) := by decide +kernel
theorem dX1_wouldBeUnknown_36 : decode cX1_wouldBeUnknown 36 = .ok (.iload 4, 2) := by decide +kernel
theorem dX1_wouldBeUnknown_38 : decode cX1_wouldBeUnknown 38 = .ok (.if_icmp .ge 21, 3) := by decide +kernel
theorem dX1_wouldBeUnknown_41 : decode cX1_wouldBeUnknown 41 = .ok (.aload_n 0, 1) := by decide +kernel
theorem dX1_wouldBeUnknown_42 : decode cX1_wouldBeUnknown 42 = .ok (.iload 5, 2) := by decide +kernel
theorem dX1_wouldBeUnknown_44 : decode cX1_wouldBeUnknown 44 = .ok (.invokevirtual 140, 3) := by decide +kernel
theorem dX1_wouldBeUnknown_47 : decode cX1_wouldBeUnknown 47 = .ok (.ifCond .ne 6, 3) := by decide +kernel
theorem dX1_wouldBeUnknown_50 : decode cX1_wouldBeUnknown 50 = .ok (.iinc 2 1, 3) := by decide +kernel
theorem dX1_wouldBeUnknown_53 : decode cX1_wouldBeUnknown 53 = .ok (.iinc 5 1, 3) := by decide +kernel
theorem dX1_wouldBeUnknown_56 : decode cX1_wouldBeUnknown 56 = .ok (.goto (-22), 3) := by decide +kernel
theorem dX1_wouldBeUnknown_59 : decode cX1_wouldBeUnknown 59 = .ok (.iload_n 2, 1) := by decide +kernel
theorem dX1_wouldBeUnknown_60 : decode cX1_wouldBeUnknown 60 = .ok (.ireturn, 1) := by decide +kernel
theorem dX1_copiesOf_0 : decode cX1_copiesOf 0 = .ok (.iconst 0, 1) := by decide +kernel
theorem dX1_copiesOf_1 : decode cX1_copiesOf 1 = .ok (.istore_n 2, 1) := by decide +kernel
theorem dX1_copiesOf_2 : decode cX1_copiesOf 2 = .ok (.iconst 0, 1) := by decide +kernel
theorem dX1_copiesOf_3 : decode cX1_copiesOf 3 = .ok (.istore_n 3, 1) := by decide +kernel
theorem dX1_copiesOf_4 : decode cX1_copiesOf 4 = .ok (.iload_n 3, 1) := by decide +kernel
theorem dX1_copiesOf_5 : decode cX1_copiesOf 5 = .ok (.aload_n 0, 1) := by decide +kernel
theorem dX1_copiesOf_6 : decode cX1_copiesOf 6 = .ok (.getfield 58, 3) := by decide +kernel
theorem dX1_copiesOf_9 : decode cX1_copiesOf 9 = .ok (.if_icmp .ge 25, 3) := by decide +kernel
theorem dX1_copiesOf_12 : decode cX1_copiesOf 12 = .ok (.aload_n 0, 1) := by decide +kernel
theorem dX1_copiesOf_13 : decode cX1_copiesOf 13 = .ok (.getfield 17, 3) := by decide +kernel
theorem dX1_copiesOf_16 : decode cX1_copiesOf 16 = .ok (.iload_n 3, 1) := by decide +kernel
theorem dX1_copiesOf_17 : decode cX1_copiesOf 17 = .ok (.aaload, 1) := by decide +kernel
theorem dX1_copiesOf_18 : decode cX1_copiesOf 18 = .ok (.getfield 149, 3) := by decide +kernel
theorem dX1_copiesOf_21 : decode cX1_copiesOf 21 = .ok (.iload_n 1, 1) := by decide +kernel
theorem dX1_copiesOf_22 : decode cX1_copiesOf 22 = .ok (.if_icmp .ne 6, 3) := by decide +kernel
theorem dX1_copiesOf_25 : decode cX1_copiesOf 25 = .ok (.iinc 2 1, 3) := by decide +kernel
theorem dX1_copiesOf_28 : decode cX1_copiesOf 28 = .ok (.iinc 3 1, 3) := by decide +kernel
theorem dX1_copiesOf_31 : decode cX1_copiesOf 31 = .ok (.goto (-27), 3) := by decide +kernel
theorem dX1_copiesOf_34 : decode cX1_copiesOf 34 = .ok (.iload_n 2, 1) := by decide +kernel
theorem dX1_copiesOf_35 : decode cX1_copiesOf 35 = .ok (.ireturn, 1) := by decide +kernel
theorem dX1_knownByAlone_0 : decode cX1_knownByAlone 0 = .ok (.iconst 0, 1) := by decide +kernel
theorem dX1_knownByAlone_1 : decode cX1_knownByAlone 1 = .ok (.istore_n 2, 1) := by decide +kernel
theorem dX1_knownByAlone_2 : decode cX1_knownByAlone 2 = .ok (.aload_n 1, 1) := by decide +kernel
theorem dX1_knownByAlone_3 : decode cX1_knownByAlone 3 = .ok (.getfield 152, 3) := by decide +kernel
theorem dX1_knownByAlone_6 : decode cX1_knownByAlone 6 = .ok (.istore_n 3, 1) := by decide +kernel
theorem dX1_knownByAlone_7 : decode cX1_knownByAlone 7 = .ok (.iload_n 3, 1) := by decide +kernel
theorem dX1_knownByAlone_8 : decode cX1_knownByAlone 8 = .ok (.aload_n 1, 1) := by decide +kernel
theorem dX1_knownByAlone_9 : decode cX1_knownByAlone 9 = .ok (.getfield 153, 3) := by decide +kernel
theorem dX1_knownByAlone_12 : decode cX1_knownByAlone 12 = .ok (.if_icmp .gt 48, 3) := by decide +kernel
theorem dX1_knownByAlone_15 : decode cX1_knownByAlone 15 = .ok (.aload_n 1, 1) := by decide +kernel
theorem dX1_knownByAlone_16 : decode cX1_knownByAlone 16 = .ok (.aload_n 0, 1) := by decide +kernel
theorem dX1_knownByAlone_17 : decode cX1_knownByAlone 17 = .ok (.getfield 24, 3) := by decide +kernel
theorem dX1_knownByAlone_20 : decode cX1_knownByAlone 20 = .ok (.iload_n 3, 1) := by decide +kernel
theorem dX1_knownByAlone_21 : decode cX1_knownByAlone 21 = .ok (.invokevirtual 132, 3) := by decide +kernel
theorem dX1_knownByAlone_24 : decode cX1_knownByAlone 24 = .ok (.ifCond .eq 30, 3) := by decide +kernel
theorem dX1_knownByAlone_27 : decode cX1_knownByAlone 27 = .ok (.aload_n 0, 1) := by decide +kernel
theorem dX1_knownByAlone_28 : decode cX1_knownByAlone 28 = .ok (.getfield 31, 3) := by decide +kernel
theorem dX1_knownByAlone_31 : decode cX1_knownByAlone 31 = .ok (.aload_n 0, 1) := by decide +kernel
theorem dX1_knownByAlone_32 : decode cX1_knownByAlone 32 = .ok (.iload_n 3, 1) := by decide +kernel
theorem dX1_knownByAlone_33 : decode cX1_knownByAlone 33 = .ok (.invokevirtual 124, 3) := by decide +kernel
theorem dX1_knownByAlone_36 : decode cX1_knownByAlone 36 = .ok (.invokevirtual 136, 3) := by decide +kernel
theorem dX1_knownByAlone_39 : decode cX1_knownByAlone 39 = .ok (.ifCond .eq 15, 3) := by decide +kernel
theorem dX1_knownByAlone_42 : decode cX1_knownByAlone 42 = .ok (.aload_n 0, 1) := by decide +kernel
theorem dX1_knownByAlone_43 : decode cX1_knownByAlone 43 = .ok (.iload_n 3, 1) := by decide +kernel
theorem dX1_knownByAlone_44 : decode cX1_knownByAlone 44 = .ok (.invokevirtual 140, 3) := by decide +kernel
theorem dX1_knownByAlone_47 : decode cX1_knownByAlone 47 = .ok (.iconst 1, 1) := by decide +kernel
theorem dX1_knownByAlone_48 : decode cX1_knownByAlone 48 = .ok (.if_icmp .ne 6, 3) := by decide +kernel
theorem dX1_knownByAlone_51 : decode cX1_knownByAlone 51 = .ok (.iinc 2 1, 3) := by decide +kernel
theorem dX1_knownByAlone_54 : decode cX1_knownByAlone 54 = .ok (.iinc 3 1, 3) := by decide +kernel
theorem dX1_knownByAlone_57 : decode cX1_knownByAlone 57 = .ok (.goto (-50), 3) := by decide +kernel
theorem dX1_knownByAlone_60 : decode cX1_knownByAlone 60 = .ok (.iload_n 2, 1) := by decide +kernel
theorem dX1_knownByAlone_61 : decode cX1_knownByAlone 61 = .ok (.ireturn, 1) := by decide +kernel
theorem dX3_draw_0 : decode cX3_draw 0 = .ok (.aload_n 0, 1) := by decide +kernel
theorem dX3_draw_1 : decode cX3_draw 1 = .ok (.aload_n 2, 1) := by decide +kernel
theorem dX3_draw_2 : decode cX3_draw 2 = .ok (.getfield 27, 3) := by decide +kernel
theorem dX3_draw_5 : decode cX3_draw 5 = .ok (.putfield 9, 3) := by decide +kernel
theorem dX3_draw_8 : decode cX3_draw 8 = .ok (.aload_n 0, 1) := by decide +kernel
theorem dX3_draw_9 : decode cX3_draw 9 = .ok (.iload_n 3, 1) := by decide +kernel
theorem dX3_draw_10 : decode cX3_draw 10 = .ok (.putfield 15, 3) := by decide +kernel
theorem dX3_draw_13 : decode cX3_draw 13 = .ok (.aload_n 0, 1) := by decide +kernel
theorem dX3_draw_14 : decode cX3_draw 14 = .ok (.iconst 0, 1) := by decide +kernel
theorem dX3_draw_15 : decode cX3_draw 15 = .ok (.putfield 18, 3) := by decide +kernel
theorem dX3_draw_18 : decode cX3_draw 18 = .ok (.aload_n 0, 1) := by decide +kernel
theorem dX3_draw_19 : decode cX3_draw 19 = .ok (.iconst (-1), 1) := by decide +kernel
theorem dX3_draw_20 : decode cX3_draw 20 = .ok (.putfield 21, 3) := by decide +kernel
theorem dX3_draw_23 : decode cX3_draw 23 = .ok (.aload_n 0, 1) := by decide +kernel
theorem dX3_draw_24 : decode cX3_draw 24 = .ok (.iconst 0, 1) := by decide +kernel
theorem dX3_draw_25 : decode cX3_draw 25 = .ok (.putfield 24, 3) := by decide +kernel
theorem dX3_draw_28 : decode cX3_draw 28 = .ok (.aload_n 2, 1) := by decide +kernel
theorem dX3_draw_29 : decode cX3_draw 29 = .ok (.getfield 32, 3) := by decide +kernel
theorem dX3_draw_32 : decode cX3_draw 32 = .ok (.istore 4, 2) := by decide +kernel
theorem dX3_draw_34 : decode cX3_draw 34 = .ok (.iload 4, 2) := by decide +kernel
theorem dX3_draw_36 : decode cX3_draw 36 = .ok (.aload_n 2, 1) := by decide +kernel
theorem dX3_draw_37 : decode cX3_draw 37 = .ok (.getfield 32, 3) := by decide +kernel
theorem dX3_draw_40 : decode cX3_draw 40 = .ok (.aload_n 2, 1) := by decide +kernel
theorem dX3_draw_41 : decode cX3_draw 41 = .ok (.getfield 33, 3) := by decide +kernel
theorem dX3_draw_44 : decode cX3_draw 44 = .ok (.iadd, 1) := by decide +kernel
theorem dX3_draw_45 : decode cX3_draw 45 = .ok (.if_icmp .ge 46, 3) := by decide +kernel
theorem dX3_draw_48 : decode cX3_draw 48 = .ok (.aload_n 1, 1) := by decide +kernel
theorem dX3_draw_49 : decode cX3_draw 49 = .ok (.getfield 34, 3) := by decide +kernel
theorem dX3_draw_52 : decode cX3_draw 52 = .ok (.iload 4, 2) := by decide +kernel
theorem dX3_draw_54 : decode cX3_draw 54 = .ok (.baload, 1) := by decide +kernel
theorem dX3_draw_55 : decode cX3_draw 55 = .ok (.ifCond .ne 30, 3) := by decide +kernel
theorem dX3_draw_58 : decode cX3_draw 58 = .ok (.aload_n 0, 1) := by decide +kernel
theorem dX3_draw_59 : decode cX3_draw 59 = .ok (.aload_n 0, 1) := by decide +kernel
theorem dX3_draw_60 : decode cX3_draw 60 = .ok (.getfield 21, 3) := by decide +kernel
theorem dX3_draw_63 : decode cX3_draw 63 = .ok (.iconst (-1), 1) := by decide +kernel
theorem dX3_draw_64 : decode cX3_draw 64 = .ok (.if_icmp .ne 8, 3) := by decide +kernel
theorem dX3_draw_67 : decode cX3_draw 67 = .ok (.iload 4, 2) := by decide +kernel
theorem dX3_draw_69 : decode cX3_draw 69 = .ok (.goto 7, 3) := by decide +kernel
theorem dX3_draw_72 : decode cX3_draw 72 = .ok (.aload_n 0, 1) := by decide +kernel
theorem dX3_draw_73 : decode cX3_draw 73 = .ok (.getfield 18, 3) := by decide +kernel
theorem dX3_draw_76 : decode cX3_draw 76 = .ok (.putfield 18, 3) := by decide +kernel
theorem dX3_draw_79 : decode cX3_draw 79 = .ok (.aload_n 0, 1) := by decide +kernel
theorem dX3_draw_80 : decode cX3_draw 80 = .ok (.iload 4, 2) := by decide +kernel
theorem dX3_draw_82 : decode cX3_draw 82 = .ok (.putfield 21, 3) := by decide +kernel
theorem dX3_draw_85 : decode cX3_draw 85 = .ok (.iinc 4 1, 3) := by decide +kernel
theorem dX3_draw_88 : decode cX3_draw 88 = .ok (.goto (-54), 3) := by decide +kernel
theorem dX3_draw_91 : decode cX3_draw 91 = .ok (.aload_n 2, 1) := by decide +kernel
theorem dX3_draw_92 : decode cX3_draw 92 = .ok (.getfield 32, 3) := by decide +kernel
theorem dX3_draw_95 : decode cX3_draw 95 = .ok (.istore 4, 2) := by decide +kernel
theorem dX3_draw_97 : decode cX3_draw 97 = .ok (.iload 4, 2) := by decide +kernel
theorem dX3_draw_99 : decode cX3_draw 99 = .ok (.aload_n 2, 1) := by decide +kernel
theorem dX3_draw_100 : decode cX3_draw 100 = .ok (.getfield 32, 3) := by decide +kernel
theorem dX3_draw_103 : decode cX3_draw 103 = .ok (.aload_n 2, 1) := by decide +kernel
theorem dX3_draw_104 : decode cX3_draw 104 = .ok (.getfield 33, 3) := by decide +kernel
theorem dX3_draw_107 : decode cX3_draw 107 = .ok (.iadd, 1) := by decide +kernel
theorem dX3_draw_108 : decode cX3_draw 108 = .ok (.if_icmp .ge 60, 3) := by decide +kernel
theorem dX3_draw_111 : decode cX3_draw 111 = .ok (.aload_n 0, 1) := by decide +kernel
theorem dX3_draw_112 : decode cX3_draw 112 = .ok (.dup, 1) := by decide +kernel
theorem dX3_draw_113 : decode cX3_draw 113 = .ok (.getfield 24, 3) := by decide +kernel
theorem dX3_draw_116 : decode cX3_draw 116 = .ok (.aload_n 0, 1) := by decide +kernel
theorem dX3_draw_117 : decode cX3_draw 117 = .ok (.aload_n 1, 1) := by decide +kernel
theorem dX3_draw_118 : decode cX3_draw 118 = .ok (.iload 4, 2) := by decide +kernel
theorem dX3_draw_120 : decode cX3_draw 120 = .ok (.invokevirtual 40, 3) := by decide +kernel
theorem dX3_draw_123 : decode cX3_draw 123 = .ok (.ifCond .eq 7, 3) := by decide +kernel
theorem dX3_draw_126 : decode cX3_draw 126 = .ok (.iconst 1, 1) := by decide +kernel
theorem dX3_draw_127 : decode cX3_draw 127 = .ok (.goto 4, 3) := by decide +kernel
theorem dX3_draw_130 : decode cX3_draw 130 = .ok (.iconst 0, 1) := by decide +kernel
theorem dX3_draw_131 : decode cX3_draw 131 = .ok (.iadd, 1) := by decide +kernel
theorem dX3_draw_132 : decode cX3_draw 132 = .ok (.putfield 24, 3) := by decide +kernel
theorem dX3_draw_135 : decode cX3_draw 135 = .ok (.aload_n 0, 1) := by decide +kernel
theorem dX3_draw_136 : decode cX3_draw 136 = .ok (.dup, 1) := by decide +kernel
theorem dX3_draw_137 : decode cX3_draw 137 = .ok (.getfield 24, 3) := by decide +kernel
theorem dX3_draw_140 : decode cX3_draw 140 = .ok (.aload_n 0, 1) := by decide +kernel
theorem dX3_draw_141 : decode cX3_draw 141 = .ok (.getfield 15, 3) := by decide +kernel
theorem dX3_draw_144 : decode cX3_draw 144 = .ok (.ifCond .ne 13, 3) := by decide +kernel
theorem dX3_draw_147 : decode cX3_draw 147 = .ok (.aload_n 1, 1) := by decide +kernel
theorem dX3_draw_148 : decode cX3_draw 148 = .ok (.getfield 44, 3) := by decide +kernel
theorem dX3_draw_151 : decode cX3_draw 151 = .ok (.iload 4, 2) := by decide +kernel
theorem dX3_draw_153 : decode cX3_draw 153 = .ok (.iaload, 1) := by decide +kernel
theorem dX3_draw_154 : decode cX3_draw 154 = .ok (.goto 4, 3) := by decide +kernel
theorem dX3_draw_157 : decode cX3_draw 157 = .ok (.iconst 0, 1) := by decide +kernel
theorem dX3_draw_158 : decode cX3_draw 158 = .ok (.iadd, 1) := by decide +kernel
theorem dX3_draw_159 : decode cX3_draw 159 = .ok (.putfield 24, 3) := by decide +kernel
theorem dX3_draw_162 : decode cX3_draw 162 = .ok (.iinc 4 1, 3) := by decide +kernel
theorem dX3_draw_165 : decode cX3_draw 165 = .ok (.goto (-68), 3) := by decide +kernel
theorem dX3_draw_168 : decode cX3_draw 168 = .ok (.return_, 1) := by decide +kernel
theorem dX1_copyReason_0 : decode cX1_copyReason 0 = .ok (.iload_n 1, 1) := by decide +kernel
theorem dX1_copyReason_1 : decode cX1_copyReason 1 = .ok (.iconst 1, 1) := by decide +kernel
theorem dX1_copyReason_2 : decode cX1_copyReason 2 = .ok (.if_icmp .lt 26, 3) := by decide +kernel
theorem dX1_copyReason_5 : decode cX1_copyReason 5 = .ok (.iload_n 1, 1) := by decide +kernel
theorem dX1_copyReason_6 : decode cX1_copyReason 6 = .ok (.aload_n 0, 1) := by decide +kernel
theorem dX1_copyReason_7 : decode cX1_copyReason 7 = .ok (.getfield 55, 3) := by decide +kernel
theorem dX1_copyReason_10 : decode cX1_copyReason 10 = .ok (.if_icmp .gt 18, 3) := by decide +kernel
theorem dX1_copyReason_13 : decode cX1_copyReason 13 = .ok (.aload_n 0, 1) := by decide +kernel
theorem dX1_copyReason_14 : decode cX1_copyReason 14 = .ok (.getfield 11, 3) := by decide +kernel
theorem dX1_copyReason_17 : decode cX1_copyReason 17 = .ok (.iload_n 1, 1) := by decide +kernel
theorem dX1_copyReason_18 : decode cX1_copyReason 18 = .ok (.iconst 1, 1) := by decide +kernel
theorem dX1_copyReason_19 : decode cX1_copyReason 19 = .ok (.isub, 1) := by decide +kernel
theorem dX1_copyReason_20 : decode cX1_copyReason 20 = .ok (.aaload, 1) := by decide +kernel
theorem dX1_copyReason_21 : decode cX1_copyReason 21 = .ok (.getfield 84, 3) := by decide +kernel
theorem dX1_copyReason_24 : decode cX1_copyReason 24 = .ok (.iconst 1, 1) := by decide +kernel
theorem dX1_copyReason_25 : decode cX1_copyReason 25 = .ok (.if_icmp .eq 5, 3) := by decide +kernel
theorem dX1_copyReason_28 : decode cX1_copyReason 28 = .ok (.iconst 1, 1) := by decide +kernel
theorem dX1_copyReason_29 : decode cX1_copyReason 29 = .ok (.ireturn, 1) := by decide +kernel
theorem dX1_copyReason_30 : decode cX1_copyReason 30 = .ok (.aload_n 0, 1) := by decide +kernel
theorem dX1_copyReason_31 : decode cX1_copyReason 31 = .ok (.getfield 43, 3) := by decide +kernel
theorem dX1_copyReason_34 : decode cX1_copyReason 34 = .ok (.aload_n 0, 1) := by decide +kernel
theorem dX1_copyReason_35 : decode cX1_copyReason 35 = .ok (.getfield 24, 3) := by decide +kernel
theorem dX1_copyReason_38 : decode cX1_copyReason 38 = .ok (.aload_n 0, 1) := by decide +kernel
theorem dX1_copyReason_39 : decode cX1_copyReason 39 = .ok (.getfield 11, 3) := by decide +kernel
theorem dX1_copyReason_42 : decode cX1_copyReason 42 = .ok (.iload_n 1, 1) := by decide +kernel
theorem dX1_copyReason_43 : decode cX1_copyReason 43 = .ok (.iconst 1, 1) := by decide +kernel
theorem dX1_copyReason_44 : decode cX1_copyReason 44 = .ok (.isub, 1) := by decide +kernel
theorem dX1_copyReason_45 : decode cX1_copyReason 45 = .ok (.aaload, 1) := by decide +kernel
theorem dX1_copyReason_46 : decode cX1_copyReason 46 = .ok (.iload_n 2, 1) := by decide +kernel
theorem dX1_copyReason_47 : decode cX1_copyReason 47 = .ok (.invokevirtual 156, 3) := by decide +kernel
theorem dX1_copyReason_50 : decode cX1_copyReason 50 = .ok (.aload_n 0, 1) := by decide +kernel
theorem dX1_copyReason_51 : decode cX1_copyReason 51 = .ok (.getfield 43, 3) := by decide +kernel
theorem dX1_copyReason_54 : decode cX1_copyReason 54 = .ok (.getfield 152, 3) := by decide +kernel
theorem dX1_copyReason_57 : decode cX1_copyReason 57 = .ok (.istore_n 3, 1) := by decide +kernel
theorem dX1_copyReason_58 : decode cX1_copyReason 58 = .ok (.iload_n 3, 1) := by decide +kernel
theorem dX1_copyReason_59 : decode cX1_copyReason 59 = .ok (.aload_n 0, 1) := by decide +kernel
theorem dX1_copyReason_60 : decode cX1_copyReason 60 = .ok (.getfield 43, 3) := by decide +kernel
theorem dX1_copyReason_63 : decode cX1_copyReason 63 = .ok (.getfield 153, 3) := by decide +kernel
theorem dX1_copyReason_66 : decode cX1_copyReason 66 = .ok (.if_icmp .gt 34, 3) := by decide +kernel
theorem dX1_copyReason_69 : decode cX1_copyReason 69 = .ok (.aload_n 0, 1) := by decide +kernel
theorem dX1_copyReason_70 : decode cX1_copyReason 70 = .ok (.getfield 43, 3) := by decide +kernel
theorem dX1_copyReason_73 : decode cX1_copyReason 73 = .ok (.aload_n 0, 1) := by decide +kernel
theorem dX1_copyReason_74 : decode cX1_copyReason 74 = .ok (.getfield 24, 3) := by decide +kernel
theorem dX1_copyReason_77 : decode cX1_copyReason 77 = .ok (.iload_n 3, 1) := by decide +kernel
theorem dX1_copyReason_78 : decode cX1_copyReason 78 = .ok (.invokevirtual 132, 3) := by decide +kernel
theorem dX1_copyReason_81 : decode cX1_copyReason 81 = .ok (.ifCond .eq 13, 3) := by decide +kernel
theorem dX1_copyReason_84 : decode cX1_copyReason 84 = .ok (.aload_n 0, 1) := by decide +kernel
theorem dX1_copyReason_85 : decode cX1_copyReason 85 = .ok (.iload_n 3, 1) := by decide +kernel
theorem dX1_copyReason_86 : decode cX1_copyReason 86 = .ok (.invokevirtual 143, 3) := by decide +kernel
theorem dX1_copyReason_89 : decode cX1_copyReason 89 = .ok (.ifCond .ne 5, 3) := by decide +kernel
theorem dX1_copyReason_92 : decode cX1_copyReason 92 = .ok (.iconst 2, 1) := by decide +kernel
theorem dX1_copyReason_93 : decode cX1_copyReason 93 = .ok (.ireturn, 1) := by decide +kernel
theorem dX1_copyReason_94 : decode cX1_copyReason 94 = .ok (.iinc 3 1, 3) := by decide +kernel
theorem dX1_copyReason_97 : decode cX1_copyReason 97 = .ok (.goto (-39), 3) := by decide +kernel
theorem dX1_copyReason_100 : decode cX1_copyReason 100 = .ok (.aload_n 0, 1) := by decide +kernel
theorem dX1_copyReason_101 : decode cX1_copyReason 101 = .ok (.getfield 58, 3) := by decide +kernel
theorem dX1_copyReason_104 : decode cX1_copyReason 104 = .ok (.bipush 8, 2) := by decide +kernel
theorem dX1_copyReason_106 : decode cX1_copyReason 106 = .ok (.if_icmp .lt 7, 3) := by decide +kernel
theorem dX1_copyReason_109 : decode cX1_copyReason 109 = .ok (.iconst 3, 1) := by decide +kernel
theorem dX1_copyReason_110 : decode cX1_copyReason 110 = .ok (.goto 4, 3) := by decide +kernel
theorem dX1_copyReason_113 : decode cX1_copyReason 113 = .ok (.iconst 0, 1) := by decide +kernel
theorem dX1_copyReason_114 : decode cX1_copyReason 114 = .ok (.ireturn, 1) := by decide +kernel
theorem dX3_fee_0 : decode cX3_fee 0 = .ok (.iconst 3, 1) := by decide +kernel
theorem dX3_fee_1 : decode cX3_fee 1 = .ok (.aload_n 0, 1) := by decide +kernel
theorem dX3_fee_2 : decode cX3_fee 2 = .ok (.getfield 15, 3) := by decide +kernel
theorem dX3_fee_5 : decode cX3_fee 5 = .ok (.isub, 1) := by decide +kernel
theorem dX3_fee_6 : decode cX3_fee 6 = .ok (.ireturn, 1) := by decide +kernel
theorem dX1_makeCopy_0 : decode cX1_makeCopy 0 = .ok (.aload_n 0, 1) := by decide +kernel
theorem dX1_makeCopy_1 : decode cX1_makeCopy 1 = .ok (.getfield 58, 3) := by decide +kernel
theorem dX1_makeCopy_4 : decode cX1_makeCopy 4 = .ok (.bipush 8, 2) := by decide +kernel
theorem dX1_makeCopy_6 : decode cX1_makeCopy 6 = .ok (.if_icmp .ge 72, 3) := by decide +kernel
theorem dX1_makeCopy_9 : decode cX1_makeCopy 9 = .ok (.iload_n 1, 1) := by decide +kernel
theorem dX1_makeCopy_10 : decode cX1_makeCopy 10 = .ok (.iconst 1, 1) := by decide +kernel
theorem dX1_makeCopy_11 : decode cX1_makeCopy 11 = .ok (.if_icmp .lt 67, 3) := by decide +kernel
theorem dX1_makeCopy_14 : decode cX1_makeCopy 14 = .ok (.iload_n 1, 1) := by decide +kernel
theorem dX1_makeCopy_15 : decode cX1_makeCopy 15 = .ok (.aload_n 0, 1) := by decide +kernel
theorem dX1_makeCopy_16 : decode cX1_makeCopy 16 = .ok (.getfield 55, 3) := by decide +kernel
theorem dX1_makeCopy_19 : decode cX1_makeCopy 19 = .ok (.if_icmp .gt 59, 3) := by decide +kernel
theorem dX1_makeCopy_22 : decode cX1_makeCopy 22 = .ok (.aload_n 0, 1) := by decide +kernel
theorem dX1_makeCopy_23 : decode cX1_makeCopy 23 = .ok (.getfield 17, 3) := by decide +kernel
theorem dX1_makeCopy_26 : decode cX1_makeCopy 26 = .ok (.aload_n 0, 1) := by decide +kernel
theorem dX1_makeCopy_27 : decode cX1_makeCopy 27 = .ok (.getfield 58, 3) := by decide +kernel
theorem dX1_makeCopy_30 : decode cX1_makeCopy 30 = .ok (.aaload, 1) := by decide +kernel
theorem dX1_makeCopy_31 : decode cX1_makeCopy 31 = .ok (.aload_n 0, 1) := by decide +kernel
theorem dX1_makeCopy_32 : decode cX1_makeCopy 32 = .ok (.getfield 24, 3) := by decide +kernel
theorem dX1_makeCopy_35 : decode cX1_makeCopy 35 = .ok (.aload_n 0, 1) := by decide +kernel
theorem dX1_makeCopy_36 : decode cX1_makeCopy 36 = .ok (.getfield 11, 3) := by decide +kernel
theorem dX1_makeCopy_39 : decode cX1_makeCopy 39 = .ok (.iload_n 1, 1) := by decide +kernel
theorem dX1_makeCopy_40 : decode cX1_makeCopy 40 = .ok (.iconst 1, 1) := by decide +kernel
theorem dX1_makeCopy_41 : decode cX1_makeCopy 41 = .ok (.isub, 1) := by decide +kernel
theorem dX1_makeCopy_42 : decode cX1_makeCopy 42 = .ok (.aaload, 1) := by decide +kernel
theorem dX1_makeCopy_43 : decode cX1_makeCopy 43 = .ok (.iload_n 2, 1) := by decide +kernel
theorem dX1_makeCopy_44 : decode cX1_makeCopy 44 = .ok (.invokevirtual 156, 3) := by decide +kernel
theorem dX1_makeCopy_47 : decode cX1_makeCopy 47 = .ok (.aload_n 0, 1) := by decide +kernel
theorem dX1_makeCopy_48 : decode cX1_makeCopy 48 = .ok (.dup, 1) := by decide +kernel
theorem dX1_makeCopy_49 : decode cX1_makeCopy 49 = .ok (.getfield 61, 3) := by decide +kernel
theorem dX1_makeCopy_52 : decode cX1_makeCopy 52 = .ok (.aload_n 0, 1) := by decide +kernel
theorem dX1_makeCopy_53 : decode cX1_makeCopy 53 = .ok (.getfield 17, 3) := by decide +kernel
theorem dX1_makeCopy_56 : decode cX1_makeCopy 56 = .ok (.aload_n 0, 1) := by decide +kernel
theorem dX1_makeCopy_57 : decode cX1_makeCopy 57 = .ok (.getfield 58, 3) := by decide +kernel
theorem dX1_makeCopy_60 : decode cX1_makeCopy 60 = .ok (.aaload, 1) := by decide +kernel
theorem dX1_makeCopy_61 : decode cX1_makeCopy 61 = .ok (.invokevirtual 160, 3) := by decide +kernel
theorem dX1_makeCopy_64 : decode cX1_makeCopy 64 = .ok (.iadd, 1) := by decide +kernel
theorem dX1_makeCopy_65 : decode cX1_makeCopy 65 = .ok (.putfield 61, 3) := by decide +kernel
theorem dX1_makeCopy_68 : decode cX1_makeCopy 68 = .ok (.aload_n 0, 1) := by decide +kernel
theorem dX1_makeCopy_69 : decode cX1_makeCopy 69 = .ok (.dup, 1) := by decide +kernel
theorem dX1_makeCopy_70 : decode cX1_makeCopy 70 = .ok (.getfield 58, 3) := by decide +kernel
theorem dX1_makeCopy_73 : decode cX1_makeCopy 73 = .ok (.iconst 1, 1) := by decide +kernel
theorem dX1_makeCopy_74 : decode cX1_makeCopy 74 = .ok (.iadd, 1) := by decide +kernel
theorem dX1_makeCopy_75 : decode cX1_makeCopy 75 = .ok (.putfield 58, 3) := by decide +kernel
theorem dX1_makeCopy_78 : decode cX1_makeCopy 78 = .ok (.return_, 1) := by decide +kernel
theorem dX4_fasten_0 : decode cX4_fasten 0 = .ok (.aload_n 0, 1) := by decide +kernel
theorem dX4_fasten_1 : decode cX4_fasten 1 = .ok (.iload_n 1, 1) := by decide +kernel
theorem dX4_fasten_2 : decode cX4_fasten 2 = .ok (.invokevirtual 32, 3) := by decide +kernel
theorem dX4_fasten_5 : decode cX4_fasten 5 = .ok (.ifCond .eq 10, 3) := by decide +kernel
theorem dX4_fasten_8 : decode cX4_fasten 8 = .ok (.aload_n 0, 1) := by decide +kernel
theorem dX4_fasten_9 : decode cX4_fasten 9 = .ok (.getfield 11, 3) := by decide +kernel
theorem dX4_fasten_12 : decode cX4_fasten 12 = .ok (.iload_n 1, 1) := by decide +kernel
theorem dX4_fasten_13 : decode cX4_fasten 13 = .ok (.iconst 0, 1) := by decide +kernel
theorem dX4_fasten_14 : decode cX4_fasten 14 = .ok (.iastore, 1) := by decide +kernel
theorem dX4_fasten_15 : decode cX4_fasten 15 = .ok (.return_, 1) := by decide +kernel
theorem dX4_gatheringOf_0 : decode cX4_gatheringOf 0 = .ok (.aload_n 0, 1) := by decide +kernel
theorem dX4_gatheringOf_1 : decode cX4_gatheringOf 1 = .ok (.getfield 19, 3) := by decide +kernel
theorem dX4_gatheringOf_4 : decode cX4_gatheringOf 4 = .ok (.ifCond .le 12, 3) := by decide +kernel
theorem dX4_gatheringOf_7 : decode cX4_gatheringOf 7 = .ok (.iload_n 1, 1) := by decide +kernel
theorem dX4_gatheringOf_8 : decode cX4_gatheringOf 8 = .ok (.aload_n 0, 1) := by decide +kernel
theorem dX4_gatheringOf_9 : decode cX4_gatheringOf 9 = .ok (.getfield 19, 3) := by decide +kernel
theorem dX4_gatheringOf_12 : decode cX4_gatheringOf 12 = .ok (.idiv, 1) := by decide +kernel
theorem dX4_gatheringOf_13 : decode cX4_gatheringOf 13 = .ok (.goto 4, 3) := by decide +kernel
theorem dX4_gatheringOf_16 : decode cX4_gatheringOf 16 = .ok (.iconst 0, 1) := by decide +kernel
theorem dX4_gatheringOf_17 : decode cX4_gatheringOf 17 = .ok (.ireturn, 1) := by decide +kernel
theorem dX4_mateOf_0 : decode cX4_mateOf 0 = .ok (.aload_n 0, 1) := by decide +kernel
theorem dX4_mateOf_1 : decode cX4_mateOf 1 = .ok (.iload_n 1, 1) := by decide +kernel
theorem dX4_mateOf_2 : decode cX4_mateOf 2 = .ok (.invokevirtual 36, 3) := by decide +kernel
theorem dX4_mateOf_5 : decode cX4_mateOf 5 = .ok (.aload_n 0, 1) := by decide +kernel
theorem dX4_mateOf_6 : decode cX4_mateOf 6 = .ok (.getfield 19, 3) := by decide +kernel
theorem dX4_mateOf_9 : decode cX4_mateOf 9 = .ok (.imul, 1) := by decide +kernel
theorem dX4_mateOf_10 : decode cX4_mateOf 10 = .ok (.istore_n 2, 1) := by decide +kernel
theorem dX4_mateOf_11 : decode cX4_mateOf 11 = .ok (.iload_n 2, 1) := by decide +kernel
theorem dX4_mateOf_12 : decode cX4_mateOf 12 = .ok (.aload_n 0, 1) := by decide +kernel
theorem dX4_mateOf_13 : decode cX4_mateOf 13 = .ok (.getfield 19, 3) := by decide +kernel
theorem dX4_mateOf_16 : decode cX4_mateOf 16 = .ok (.iadd, 1) := by decide +kernel
theorem dX4_mateOf_17 : decode cX4_mateOf 17 = .ok (.iconst 1, 1) := by decide +kernel
theorem dX4_mateOf_18 : decode cX4_mateOf 18 = .ok (.isub, 1) := by decide +kernel
theorem dX4_mateOf_19 : decode cX4_mateOf 19 = .ok (.iload_n 1, 1) := by decide +kernel
theorem dX4_mateOf_20 : decode cX4_mateOf 20 = .ok (.iload_n 2, 1) := by decide +kernel
theorem dX4_mateOf_21 : decode cX4_mateOf 21 = .ok (.isub, 1) := by decide +kernel
theorem dX4_mateOf_22 : decode cX4_mateOf 22 = .ok (.isub, 1) := by decide +kernel
theorem dX4_mateOf_23 : decode cX4_mateOf 23 = .ok (.istore_n 3, 1) := by decide +kernel
theorem dX4_mateOf_24 : decode cX4_mateOf 24 = .ok (.iload_n 3, 1) := by decide +kernel
theorem dX4_mateOf_25 : decode cX4_mateOf 25 = .ok (.iload_n 1, 1) := by decide +kernel
theorem dX4_mateOf_26 : decode cX4_mateOf 26 = .ok (.if_icmp .eq 15, 3) := by decide +kernel
theorem dX4_mateOf_29 : decode cX4_mateOf 29 = .ok (.aload_n 0, 1) := by decide +kernel
theorem dX4_mateOf_30 : decode cX4_mateOf 30 = .ok (.iload_n 3, 1) := by decide +kernel
theorem dX4_mateOf_31 : decode cX4_mateOf 31 = .ok (.invokevirtual 32, 3) := by decide +kernel
theorem dX4_mateOf_34 : decode cX4_mateOf 34 = .ok (.ifCond .eq 7, 3) := by decide +kernel
theorem dX4_mateOf_37 : decode cX4_mateOf 37 = .ok (.iload_n 3, 1) := by decide +kernel
theorem dX4_mateOf_38 : decode cX4_mateOf 38 = .ok (.goto 4, 3) := by decide +kernel
theorem dX4_mateOf_41 : decode cX4_mateOf 41 = .ok (.iconst (-1), 1) := by decide +kernel
theorem dX4_mateOf_42 : decode cX4_mateOf 42 = .ok (.ireturn, 1) := by decide +kernel
theorem dX4_extendTo_0 : decode cX4_extendTo 0 = .ok (.aload_n 0, 1) := by decide +kernel
theorem dX4_extendTo_1 : decode cX4_extendTo 1 = .ok (.getfield 23, 3) := by decide +kernel
theorem dX4_extendTo_4 : decode cX4_extendTo 4 = .ok (.iload_n 1, 1) := by decide +kernel
theorem dX4_extendTo_5 : decode cX4_extendTo 5 = .ok (.if_icmp .ge 60, 3) := by decide +kernel
theorem dX4_extendTo_8 : decode cX4_extendTo 8 = .ok (.aload_n 0, 1) := by decide +kernel
theorem dX4_extendTo_9 : decode cX4_extendTo 9 = .ok (.getfield 23, 3) := by decide +kernel
theorem dX4_extendTo_12 : decode cX4_extendTo 12 = .ok (.bipush 12, 2) := by decide +kernel
theorem dX4_extendTo_14 : decode cX4_extendTo 14 = .ok (.if_icmp .ge 51, 3) := by decide +kernel
theorem dX4_extendTo_17 : decode cX4_extendTo 17 = .ok (.aload_n 0, 1) := by decide +kernel
theorem dX4_extendTo_18 : decode cX4_extendTo 18 = .ok (.dup, 1) := by decide +kernel
theorem dX4_extendTo_19 : decode cX4_extendTo 19 = .ok (.getfield 23, 3) := by decide +kernel
theorem dX4_extendTo_22 : decode cX4_extendTo 22 = .ok (.iconst 1, 1) := by decide +kernel
theorem dX4_extendTo_23 : decode cX4_extendTo 23 = .ok (.iadd, 1) := by decide +kernel
theorem dX4_extendTo_24 : decode cX4_extendTo 24 = .ok (.putfield 23, 3) := by decide +kernel
theorem dX4_extendTo_27 : decode cX4_extendTo 27 = .ok (.aload_n 0, 1) := by decide +kernel
theorem dX4_extendTo_28 : decode cX4_extendTo 28 = .ok (.aload_n 0, 1) := by decide +kernel
theorem dX4_extendTo_29 : decode cX4_extendTo 29 = .ok (.aload_n 0, 1) := by decide +kernel
theorem dX4_extendTo_30 : decode cX4_extendTo 30 = .ok (.getfield 23, 3) := by decide +kernel
theorem dX4_extendTo_33 : decode cX4_extendTo 33 = .ok (.iconst 1, 1) := by decide +kernel
theorem dX4_extendTo_34 : decode cX4_extendTo 34 = .ok (.isub, 1) := by decide +kernel
theorem dX4_extendTo_35 : decode cX4_extendTo 35 = .ok (.invokevirtual 44, 3) := by decide +kernel
theorem dX4_extendTo_38 : decode cX4_extendTo 38 = .ok (.invokevirtual 53, 3) := by decide +kernel
theorem dX4_extendTo_41 : decode cX4_extendTo 41 = .ok (.istore_n 2, 1) := by decide +kernel
theorem dX4_extendTo_42 : decode cX4_extendTo 42 = .ok (.aload_n 0, 1) := by decide +kernel
theorem dX4_extendTo_43 : decode cX4_extendTo 43 = .ok (.getfield 11, 3) := by decide +kernel
theorem dX4_extendTo_46 : decode cX4_extendTo 46 = .ok (.aload_n 0, 1) := by decide +kernel
theorem dX4_extendTo_47 : decode cX4_extendTo 47 = .ok (.getfield 23, 3) := by decide +kernel
theorem dX4_extendTo_50 : decode cX4_extendTo 50 = .ok (.iconst 1, 1) := by decide +kernel
theorem dX4_extendTo_51 : decode cX4_extendTo 51 = .ok (.isub, 1) := by decide +kernel
theorem dX4_extendTo_52 : decode cX4_extendTo 52 = .ok (.iload_n 2, 1) := by decide +kernel
theorem dX4_extendTo_53 : decode cX4_extendTo 53 = .ok (.ifCond .eq 7, 3) := by decide +kernel
theorem dX4_extendTo_56 : decode cX4_extendTo 56 = .ok (.iconst 1, 1) := by decide +kernel
theorem dX4_extendTo_57 : decode cX4_extendTo 57 = .ok (.goto 4, 3) := by decide +kernel
theorem dX4_extendTo_60 : decode cX4_extendTo 60 = .ok (.iconst 0, 1) := by decide +kernel
theorem dX4_extendTo_61 : decode cX4_extendTo 61 = .ok (.iastore, 1) := by decide +kernel
theorem dX4_extendTo_62 : decode cX4_extendTo 62 = .ok (.goto (-62), 3) := by decide +kernel
theorem dX4_extendTo_65 : decode cX4_extendTo 65 = .ok (.return_, 1) := by decide +kernel
theorem dX1_beginAct_0 : decode cX1_beginAct 0 = .ok (.aload_n 0, 1) := by decide +kernel
theorem dX1_beginAct_1 : decode cX1_beginAct 1 = .ok (.getfield 55, 3) := by decide +kernel
theorem dX1_beginAct_4 : decode cX1_beginAct 4 = .ok (.bipush 10, 2) := by decide +kernel
theorem dX1_beginAct_6 : decode cX1_beginAct 6 = .ok (.if_icmp .ge 19, 3) := by decide +kernel
theorem dX1_beginAct_9 : decode cX1_beginAct 9 = .ok (.aload_n 0, 1) := by decide +kernel
theorem dX1_beginAct_10 : decode cX1_beginAct 10 = .ok (.getfield 24, 3) := by decide +kernel
theorem dX1_beginAct_13 : decode cX1_beginAct 13 = .ok (.getfield 80, 3) := by decide +kernel
theorem dX1_beginAct_16 : decode cX1_beginAct 16 = .ok (.iload_n 2, 1) := by decide +kernel
theorem dX1_beginAct_17 : decode cX1_beginAct 17 = .ok (.iadd, 1) := by decide +kernel
theorem dX1_beginAct_18 : decode cX1_beginAct 18 = .ok (.aload_n 0, 1) := by decide +kernel
theorem dX1_beginAct_19 : decode cX1_beginAct 19 = .ok (.invokevirtual 164, 3) := by decide +kernel
theorem dX1_beginAct_22 : decode cX1_beginAct 22 = .ok (.if_icmp .le 4, 3) := by decide +kernel
theorem dX1_beginAct_25 : decode cX1_beginAct 25 = .ok (.return_, 1) := by decide +kernel
theorem dX1_beginAct_26 : decode cX1_beginAct 26 = .ok (.aload_n 0, 1) := by decide +kernel
theorem dX1_beginAct_27 : decode cX1_beginAct 27 = .ok (.getfield 31, 3) := by decide +kernel
theorem dX1_beginAct_30 : decode cX1_beginAct 30 = .ok (.getfield 83, 3) := by decide +kernel
theorem dX1_beginAct_33 : decode cX1_beginAct 33 = .ok (.iconst 1, 1) := by decide +kernel
theorem dX1_beginAct_34 : decode cX1_beginAct 34 = .ok (.isub, 1) := by decide +kernel
theorem dX1_beginAct_35 : decode cX1_beginAct 35 = .ok (.istore_n 3, 1) := by decide +kernel
theorem dX1_beginAct_36 : decode cX1_beginAct 36 = .ok (.aload_n 0, 1) := by decide +kernel
theorem dX1_beginAct_37 : decode cX1_beginAct 37 = .ok (.getfield 31, 3) := by decide +kernel
theorem dX1_beginAct_40 : decode cX1_beginAct 40 = .ok (.iload_n 3, 1) := by decide +kernel
theorem dX1_beginAct_41 : decode cX1_beginAct 41 = .ok (.invokevirtual 136, 3) := by decide +kernel
theorem dX1_beginAct_44 : decode cX1_beginAct 44 = .ok (.ifCond .eq 23, 3) := by decide +kernel
theorem dX1_beginAct_47 : decode cX1_beginAct 47 = .ok (.aload_n 0, 1) := by decide +kernel
theorem dX1_beginAct_48 : decode cX1_beginAct 48 = .ok (.iload_n 3, 1) := by decide +kernel
theorem dX1_beginAct_49 : decode cX1_beginAct 49 = .ok (.invokevirtual 146, 3) := by decide +kernel
theorem dX1_beginAct_52 : decode cX1_beginAct 52 = .ok (.aload_n 0, 1) := by decide +kernel
theorem dX1_beginAct_53 : decode cX1_beginAct 53 = .ok (.getfield 48, 3) := by decide +kernel
theorem dX1_beginAct_56 : decode cX1_beginAct 56 = .ok (.if_icmp .ge 11, 3) := by decide +kernel
theorem dX1_beginAct_59 : decode cX1_beginAct 59 = .ok (.aload_n 0, 1) := by decide +kernel
theorem dX1_beginAct_60 : decode cX1_beginAct 60 = .ok (.getfield 31, 3) := by decide +kernel
theorem dX1_beginAct_63 : decode cX1_beginAct 63 = .ok (.iload_n 3, 1) := by decide +kernel
theorem dX1_beginAct_64 : decode cX1_beginAct 64 = .ok (.invokevirtual 167, 3) := by decide +kernel
theorem dX1_beginAct_67 : decode cX1_beginAct 67 = .ok (.aload_n 0, 1) := by decide +kernel
theorem dX1_beginAct_68 : decode cX1_beginAct 68 = .ok (.getfield 11, 3) := by decide +kernel
theorem dX1_beginAct_71 : decode cX1_beginAct 71 = .ok (.aload_n 0, 1) := by decide +kernel
theorem dX1_beginAct_72 : decode cX1_beginAct 72 = .ok (.getfield 55, 3) := by decide +kernel
theorem dX1_beginAct_75 : decode cX1_beginAct 75 = .ok (.aaload, 1) := by decide +kernel
theorem dX1_beginAct_76 : decode cX1_beginAct 76 = .ok (.aload_n 0, 1) := by decide +kernel
theorem dX1_beginAct_77 : decode cX1_beginAct 77 = .ok (.getfield 55, 3) := by decide +kernel
theorem dX1_beginAct_80 : decode cX1_beginAct 80 = .ok (.iconst 1, 1) := by decide +kernel
theorem dX1_beginAct_81 : decode cX1_beginAct 81 = .ok (.iadd, 1) := by decide +kernel
theorem dX1_beginAct_82 : decode cX1_beginAct 82 = .ok (.iload_n 1, 1) := by decide +kernel
theorem dX1_beginAct_83 : decode cX1_beginAct 83 = .ok (.aload_n 0, 1) := by decide +kernel
theorem dX1_beginAct_84 : decode cX1_beginAct 84 = .ok (.getfield 24, 3) := by decide +kernel
theorem dX1_beginAct_87 : decode cX1_beginAct 87 = .ok (.getfield 80, 3) := by decide +kernel
theorem dX1_beginAct_90 : decode cX1_beginAct 90 = .ok (.iload_n 2, 1) := by decide +kernel
theorem dX1_beginAct_91 : decode cX1_beginAct 91 = .ok (.invokevirtual 171, 3) := by decide +kernel
theorem dX1_beginAct_94 : decode cX1_beginAct 94 = .ok (.aload_n 0, 1) := by decide +kernel
theorem dX1_beginAct_95 : decode cX1_beginAct 95 = .ok (.dup, 1) := by decide +kernel
theorem dX1_beginAct_96 : decode cX1_beginAct 96 = .ok (.getfield 55, 3) := by decide +kernel
theorem dX1_beginAct_99 : decode cX1_beginAct 99 = .ok (.iconst 1, 1) := by decide +kernel
theorem dX1_beginAct_100 : decode cX1_beginAct 100 = .ok (.iadd, 1) := by decide +kernel
theorem dX1_beginAct_101 : decode cX1_beginAct 101 = .ok (.putfield 55, 3) := by decide +kernel
theorem dX1_beginAct_104 : decode cX1_beginAct 104 = .ok (.aload_n 0, 1) := by decide +kernel
theorem dX1_beginAct_105 : decode cX1_beginAct 105 = .ok (.getfield 24, 3) := by decide +kernel
theorem dX1_beginAct_108 : decode cX1_beginAct 108 = .ok (.dup, 1) := by decide +kernel
theorem dX1_beginAct_109 : decode cX1_beginAct 109 = .ok (.getfield 80, 3) := by decide +kernel
theorem dX1_beginAct_112 : decode cX1_beginAct 112 = .ok (.iload_n 2, 1) := by decide +kernel
theorem dX1_beginAct_113 : decode cX1_beginAct 113 = .ok (.iadd, 1) := by decide +kernel
theorem dX1_beginAct_114 : decode cX1_beginAct 114 = .ok (.putfield 80, 3) := by decide +kernel
theorem dX1_beginAct_117 : decode cX1_beginAct 117 = .ok (.aload_n 0, 1) := by decide +kernel
theorem dX1_beginAct_118 : decode cX1_beginAct 118 = .ok (.getfield 31, 3) := by decide +kernel
theorem dX1_beginAct_121 : decode cX1_beginAct 121 = .ok (.aload_n 0, 1) := by decide +kernel
theorem dX1_beginAct_122 : decode cX1_beginAct 122 = .ok (.aload_n 0, 1) := by decide +kernel
theorem dX1_beginAct_123 : decode cX1_beginAct 123 = .ok (.getfield 24, 3) := by decide +kernel
theorem dX1_beginAct_126 : decode cX1_beginAct 126 = .ok (.getfield 80, 3) := by decide +kernel
theorem dX1_beginAct_129 : decode cX1_beginAct 129 = .ok (.invokevirtual 175, 3) := by decide +kernel
theorem dX1_beginAct_132 : decode cX1_beginAct 132 = .ok (.invokevirtual 178, 3) := by decide +kernel
theorem dX1_beginAct_135 : decode cX1_beginAct 135 = .ok (.return_, 1) := by decide +kernel
theorem dX1_strikeReason_0 : decode cX1_strikeReason 0 = .ok (.aload_n 0, 1) := by decide +kernel
theorem dX1_strikeReason_1 : decode cX1_strikeReason 1 = .ok (.invokevirtual 87, 3) := by decide +kernel
theorem dX1_strikeReason_4 : decode cX1_strikeReason 4 = .ok (.astore_n 2, 1) := by decide +kernel
theorem dX1_strikeReason_5 : decode cX1_strikeReason 5 = .ok (.aload_n 2, 1) := by decide +kernel
theorem dX1_strikeReason_6 : decode cX1_strikeReason 6 = .ok (.ifnonnull 5, 3) := by decide +kernel
theorem dX1_strikeReason_9 : decode cX1_strikeReason 9 = .ok (.iconst 1, 1) := by decide +kernel
theorem dX1_strikeReason_10 : decode cX1_strikeReason 10 = .ok (.ireturn, 1) := by decide +kernel
theorem dX1_strikeReason_11 : decode cX1_strikeReason 11 = .ok (.iload_n 1, 1) := by decide +kernel
theorem dX1_strikeReason_12 : decode cX1_strikeReason 12 = .ok (.ifCond .lt 11, 3) := by decide +kernel
theorem dX1_strikeReason_15 : decode cX1_strikeReason 15 = .ok (.iload_n 1, 1) := by decide +kernel
theorem dX1_strikeReason_16 : decode cX1_strikeReason 16 = .ok (.aload_n 2, 1) := by decide +kernel
theorem dX1_strikeReason_17 : decode cX1_strikeReason 17 = .ok (.getfield 91, 3) := by decide +kernel
theorem dX1_strikeReason_20 : decode cX1_strikeReason 20 = .ok (.if_icmp .lt 5, 3) := by decide +kernel
theorem dX1_strikeReason_23 : decode cX1_strikeReason 23 = .ok (.iconst 2, 1) := by decide +kernel
theorem dX1_strikeReason_24 : decode cX1_strikeReason 24 = .ok (.ireturn, 1) := by decide +kernel
theorem dX1_strikeReason_25 : decode cX1_strikeReason 25 = .ok (.aload_n 0, 1) := by decide +kernel
theorem dX1_strikeReason_26 : decode cX1_strikeReason 26 = .ok (.getfield 24, 3) := by decide +kernel
theorem dX1_strikeReason_29 : decode cX1_strikeReason 29 = .ok (.getfield 181, 3) := by decide +kernel
theorem dX1_strikeReason_32 : decode cX1_strikeReason 32 = .ok (.aload_n 2, 1) := by decide +kernel
theorem dX1_strikeReason_33 : decode cX1_strikeReason 33 = .ok (.getfield 92, 3) := by decide +kernel
theorem dX1_strikeReason_36 : decode cX1_strikeReason 36 = .ok (.iload_n 1, 1) := by decide +kernel
theorem dX1_strikeReason_37 : decode cX1_strikeReason 37 = .ok (.iadd, 1) := by decide +kernel
theorem dX1_strikeReason_38 : decode cX1_strikeReason 38 = .ok (.baload, 1) := by decide +kernel
theorem dX1_strikeReason_39 : decode cX1_strikeReason 39 = .ok (.ifCond .eq 7, 3) := by decide +kernel
theorem dX1_strikeReason_42 : decode cX1_strikeReason 42 = .ok (.iconst 3, 1) := by decide +kernel
theorem dX1_strikeReason_43 : decode cX1_strikeReason 43 = .ok (.goto 4, 3) := by decide +kernel
theorem dX1_strikeReason_46 : decode cX1_strikeReason 46 = .ok (.iconst 0, 1) := by decide +kernel
theorem dX1_strikeReason_47 : decode cX1_strikeReason 47 = .ok (.ireturn, 1) := by decide +kernel
theorem dX8_strikeFrom_0 : decode cX8_strikeFrom 0 = .ok (.aload_n 0, 1) := by decide +kernel
theorem dX8_strikeFrom_1 : decode cX8_strikeFrom 1 = .ok (.iload_n 1, 1) := by decide +kernel
theorem dX8_strikeFrom_2 : decode cX8_strikeFrom 2 = .ok (.iload_n 2, 1) := by decide +kernel
theorem dX8_strikeFrom_3 : decode cX8_strikeFrom 3 = .ok (.invokevirtual 42, 3) := by decide +kernel
theorem dX8_strikeFrom_6 : decode cX8_strikeFrom 6 = .ok (.istore_n 3, 1) := by decide +kernel
theorem dX8_strikeFrom_7 : decode cX8_strikeFrom 7 = .ok (.iload_n 1, 1) := by decide +kernel
theorem dX8_strikeFrom_8 : decode cX8_strikeFrom 8 = .ok (.istore 4, 2) := by decide +kernel
theorem dX8_strikeFrom_10 : decode cX8_strikeFrom 10 = .ok (.iload 4, 2) := by decide +kernel
theorem dX8_strikeFrom_12 : decode cX8_strikeFrom 12 = .ok (.iload_n 1, 1) := by decide +kernel
theorem dX8_strikeFrom_13 : decode cX8_strikeFrom 13 = .ok (.iload_n 2, 1) := by decide +kernel
theorem dX8_strikeFrom_14 : decode cX8_strikeFrom 14 = .ok (.iadd, 1) := by decide +kernel
theorem dX8_strikeFrom_15 : decode cX8_strikeFrom 15 = .ok (.if_icmp .ge 17, 3) := by decide +kernel
theorem dX8_strikeFrom_18 : decode cX8_strikeFrom 18 = .ok (.aload_n 0, 1) := by decide +kernel
theorem dX8_strikeFrom_19 : decode cX8_strikeFrom 19 = .ok (.getfield 22, 3) := by decide +kernel
theorem dX8_strikeFrom_22 : decode cX8_strikeFrom 22 = .ok (.iload 4, 2) := by decide +kernel
theorem dX8_strikeFrom_24 : decode cX8_strikeFrom 24 = .ok (.iconst 1, 1) := by decide +kernel
theorem dX8_strikeFrom_25 : decode cX8_strikeFrom 25 = .ok (.bastore, 1) := by decide +kernel
theorem dX8_strikeFrom_26 : decode cX8_strikeFrom 26 = .ok (.iinc 4 1, 3) := by decide +kernel
theorem dX8_strikeFrom_29 : decode cX8_strikeFrom 29 = .ok (.goto (-19), 3) := by decide +kernel
theorem dX8_strikeFrom_32 : decode cX8_strikeFrom 32 = .ok (.iload_n 3, 1) := by decide +kernel
theorem dX8_strikeFrom_33 : decode cX8_strikeFrom 33 = .ok (.ireturn, 1) := by decide +kernel
theorem dX1_strikeWord_0 : decode cX1_strikeWord 0 = .ok (.aload_n 0, 1) := by decide +kernel
theorem dX1_strikeWord_1 : decode cX1_strikeWord 1 = .ok (.invokevirtual 87, 3) := by decide +kernel
theorem dX1_strikeWord_4 : decode cX1_strikeWord 4 = .ok (.astore_n 2, 1) := by decide +kernel
theorem dX1_strikeWord_5 : decode cX1_strikeWord 5 = .ok (.aload_n 2, 1) := by decide +kernel
theorem dX1_strikeWord_6 : decode cX1_strikeWord 6 = .ok (.ifnull 40, 3) := by decide +kernel
theorem dX1_strikeWord_9 : decode cX1_strikeWord 9 = .ok (.iload_n 1, 1) := by decide +kernel
theorem dX1_strikeWord_10 : decode cX1_strikeWord 10 = .ok (.ifCond .lt 36, 3) := by decide +kernel
theorem dX1_strikeWord_13 : decode cX1_strikeWord 13 = .ok (.iload_n 1, 1) := by decide +kernel
theorem dX1_strikeWord_14 : decode cX1_strikeWord 14 = .ok (.aload_n 2, 1) := by decide +kernel
theorem dX1_strikeWord_15 : decode cX1_strikeWord 15 = .ok (.getfield 91, 3) := by decide +kernel
theorem dX1_strikeWord_18 : decode cX1_strikeWord 18 = .ok (.if_icmp .ge 28, 3) := by decide +kernel
theorem dX1_strikeWord_21 : decode cX1_strikeWord 21 = .ok (.aload_n 0, 1) := by decide +kernel
theorem dX1_strikeWord_22 : decode cX1_strikeWord 22 = .ok (.getfield 24, 3) := by decide +kernel
theorem dX1_strikeWord_25 : decode cX1_strikeWord 25 = .ok (.aload_n 2, 1) := by decide +kernel
theorem dX1_strikeWord_26 : decode cX1_strikeWord 26 = .ok (.getfield 92, 3) := by decide +kernel
theorem dX1_strikeWord_29 : decode cX1_strikeWord 29 = .ok (.iload_n 1, 1) := by decide +kernel
theorem dX1_strikeWord_30 : decode cX1_strikeWord 30 = .ok (.iadd, 1) := by decide +kernel
theorem dX1_strikeWord_31 : decode cX1_strikeWord 31 = .ok (.iconst 1, 1) := by decide +kernel
theorem dX1_strikeWord_32 : decode cX1_strikeWord 32 = .ok (.invokevirtual 185, 3) := by decide +kernel
theorem dX1_strikeWord_35 : decode cX1_strikeWord 35 = .ok (.pop, 1) := by decide +kernel
theorem dX1_strikeWord_36 : decode cX1_strikeWord 36 = .ok (.aload_n 2, 1) := by decide +kernel
theorem dX1_strikeWord_37 : decode cX1_strikeWord 37 = .ok (.dup, 1) := by decide +kernel
theorem dX1_strikeWord_38 : decode cX1_strikeWord 38 = .ok (.getfield 99, 3) := by decide +kernel
theorem dX1_strikeWord_41 : decode cX1_strikeWord 41 = .ok (.iconst 1, 1) := by decide +kernel
theorem dX1_strikeWord_42 : decode cX1_strikeWord 42 = .ok (.iadd, 1) := by decide +kernel
theorem dX1_strikeWord_43 : decode cX1_strikeWord 43 = .ok (.putfield 99, 3) := by decide +kernel
theorem dX1_strikeWord_46 : decode cX1_strikeWord 46 = .ok (.return_, 1) := by decide +kernel
theorem dX1_strikeAround_0 : decode cX1_strikeAround 0 = .ok (.aload_n 0, 1) := by decide +kernel
theorem dX1_strikeAround_1 : decode cX1_strikeAround 1 = .ok (.invokevirtual 87, 3) := by decide +kernel
theorem dX1_strikeAround_4 : decode cX1_strikeAround 4 = .ok (.astore_n 2, 1) := by decide +kernel
theorem dX1_strikeAround_5 : decode cX1_strikeAround 5 = .ok (.aload_n 2, 1) := by decide +kernel
theorem dX1_strikeAround_6 : decode cX1_strikeAround 6 = .ok (.ifnull 11, 3) := by decide +kernel
theorem dX1_strikeAround_9 : decode cX1_strikeAround 9 = .ok (.aload_n 0, 1) := by decide +kernel
theorem dX1_strikeAround_10 : decode cX1_strikeAround 10 = .ok (.iload_n 1, 1) := by decide +kernel
theorem dX1_strikeAround_11 : decode cX1_strikeAround 11 = .ok (.invokevirtual 188, 3) := by decide +kernel
theorem dX1_strikeAround_14 : decode cX1_strikeAround 14 = .ok (.ifCond .ne 5, 3) := by decide +kernel
theorem dX1_strikeAround_17 : decode cX1_strikeAround 17 = .ok (.iconst 0, 1) := by decide +kernel
theorem dX1_strikeAround_18 : decode cX1_strikeAround 18 = .ok (.ireturn, 1) := by decide +kernel
theorem dX1_strikeAround_19 : decode cX1_strikeAround 19 = .ok (.aload_n 2, 1) := by decide +kernel
theorem dX1_strikeAround_20 : decode cX1_strikeAround 20 = .ok (.dup, 1) := by decide +kernel
theorem dX1_strikeAround_21 : decode cX1_strikeAround 21 = .ok (.getfield 99, 3) := by decide +kernel
theorem dX1_strikeAround_24 : decode cX1_strikeAround 24 = .ok (.iconst 1, 1) := by decide +kernel
theorem dX1_strikeAround_25 : decode cX1_strikeAround 25 = .ok (.iadd, 1) := by decide +kernel
theorem dX1_strikeAround_26 : decode cX1_strikeAround 26 = .ok (.putfield 99, 3) := by decide +kernel
theorem dX1_strikeAround_29 : decode cX1_strikeAround 29 = .ok (.aload_n 0, 1) := by decide +kernel
theorem dX1_strikeAround_30 : decode cX1_strikeAround 30 = .ok (.getfield 24, 3) := by decide +kernel
theorem dX1_strikeAround_33 : decode cX1_strikeAround 33 = .ok (.aload_n 0, 1) := by decide +kernel
theorem dX1_strikeAround_34 : decode cX1_strikeAround 34 = .ok (.getfield 38, 3) := by decide +kernel
theorem dX1_strikeAround_37 : decode cX1_strikeAround 37 = .ok (.getfield 191, 3) := by decide +kernel
theorem dX1_strikeAround_40 : decode cX1_strikeAround 40 = .ok (.aload_n 0, 1) := by decide +kernel
theorem dX1_strikeAround_41 : decode cX1_strikeAround 41 = .ok (.getfield 38, 3) := by decide +kernel
theorem dX1_strikeAround_44 : decode cX1_strikeAround 44 = .ok (.getfield 192, 3) := by decide +kernel
theorem dX1_strikeAround_47 : decode cX1_strikeAround 47 = .ok (.invokevirtual 185, 3) := by decide +kernel
theorem dX1_strikeAround_50 : decode cX1_strikeAround 50 = .ok (.ireturn, 1) := by decide +kernel
theorem dX1_canInsert_0 : decode cX1_canInsert 0 = .ok (.aload_n 0, 1) := by decide +kernel
theorem dX1_canInsert_1 : decode cX1_canInsert 1 = .ok (.invokevirtual 87, 3) := by decide +kernel
theorem dX1_canInsert_4 : decode cX1_canInsert 4 = .ok (.astore_n 2, 1) := by decide +kernel
theorem dX1_canInsert_5 : decode cX1_canInsert 5 = .ok (.aload_n 2, 1) := by decide +kernel
theorem dX1_canInsert_6 : decode cX1_canInsert 6 = .ok (.ifnull 37, 3) := by decide +kernel
theorem dX1_canInsert_9 : decode cX1_canInsert 9 = .ok (.iload_n 1, 1) := by decide +kernel
theorem dX1_canInsert_10 : decode cX1_canInsert 10 = .ok (.ifCond .lt 33, 3) := by decide +kernel
theorem dX1_canInsert_13 : decode cX1_canInsert 13 = .ok (.iload_n 1, 1) := by decide +kernel
theorem dX1_canInsert_14 : decode cX1_canInsert 14 = .ok (.aload_n 2, 1) := by decide +kernel
theorem dX1_canInsert_15 : decode cX1_canInsert 15 = .ok (.getfield 91, 3) := by decide +kernel
theorem dX1_canInsert_18 : decode cX1_canInsert 18 = .ok (.if_icmp .ge 25, 3) := by decide +kernel
theorem dX1_canInsert_21 : decode cX1_canInsert 21 = .ok (.aload_n 0, 1) := by decide +kernel
theorem dX1_canInsert_22 : decode cX1_canInsert 22 = .ok (.getfield 24, 3) := by decide +kernel
theorem dX1_canInsert_25 : decode cX1_canInsert 25 = .ok (.getfield 193, 3) := by decide +kernel
theorem dX1_canInsert_28 : decode cX1_canInsert 28 = .ok (.aload_n 2, 1) := by decide +kernel
theorem dX1_canInsert_29 : decode cX1_canInsert 29 = .ok (.getfield 92, 3) := by decide +kernel
theorem dX1_canInsert_32 : decode cX1_canInsert 32 = .ok (.iload_n 1, 1) := by decide +kernel
theorem dX1_canInsert_33 : decode cX1_canInsert 33 = .ok (.iadd, 1) := by decide +kernel
theorem dX1_canInsert_34 : decode cX1_canInsert 34 = .ok (.iaload, 1) := by decide +kernel
theorem dX1_canInsert_35 : decode cX1_canInsert 35 = .ok (.iconst 4, 1) := by decide +kernel
theorem dX1_canInsert_36 : decode cX1_canInsert 36 = .ok (.if_icmp .ge 7, 3) := by decide +kernel
theorem dX1_canInsert_39 : decode cX1_canInsert 39 = .ok (.iconst 1, 1) := by decide +kernel
theorem dX1_canInsert_40 : decode cX1_canInsert 40 = .ok (.goto 4, 3) := by decide +kernel
theorem dX1_canInsert_43 : decode cX1_canInsert 43 = .ok (.iconst 0, 1) := by decide +kernel
theorem dX1_canInsert_44 : decode cX1_canInsert 44 = .ok (.ireturn, 1) := by decide +kernel
theorem dX8_insert_0 : decode cX8_insert 0 = .ok (.aload_n 0, 1) := by decide +kernel
theorem dX8_insert_1 : decode cX8_insert 1 = .ok (.getfield 26, 3) := by decide +kernel
theorem dX8_insert_4 : decode cX8_insert 4 = .ok (.iload_n 1, 1) := by decide +kernel
theorem dX8_insert_5 : decode cX8_insert 5 = .ok (.iaload, 1) := by decide +kernel
theorem dX8_insert_6 : decode cX8_insert 6 = .ok (.iconst 4, 1) := by decide +kernel
theorem dX8_insert_7 : decode cX8_insert 7 = .ok (.if_icmp .ge 29, 3) := by decide +kernel
theorem dX8_insert_10 : decode cX8_insert 10 = .ok (.aload_n 0, 1) := by decide +kernel
theorem dX8_insert_11 : decode cX8_insert 11 = .ok (.getfield 29, 3) := by decide +kernel
theorem dX8_insert_14 : decode cX8_insert 14 = .ok (.iload_n 1, 1) := by decide +kernel
theorem dX8_insert_15 : decode cX8_insert 15 = .ok (.iconst 4, 1) := by decide +kernel
theorem dX8_insert_16 : decode cX8_insert 16 = .ok (.imul, 1) := by decide +kernel
theorem dX8_insert_17 : decode cX8_insert 17 = .ok (.aload_n 0, 1) := by decide +kernel
theorem dX8_insert_18 : decode cX8_insert 18 = .ok (.getfield 26, 3) := by decide +kernel
theorem dX8_insert_21 : decode cX8_insert 21 = .ok (.iload_n 1, 1) := by decide +kernel
theorem dX8_insert_22 : decode cX8_insert 22 = .ok (.iaload, 1) := by decide +kernel
theorem dX8_insert_23 : decode cX8_insert 23 = .ok (.iadd, 1) := by decide +kernel
theorem dX8_insert_24 : decode cX8_insert 24 = .ok (.lload_n 2, 1) := by decide +kernel
theorem dX8_insert_25 : decode cX8_insert 25 = .ok (.lastore, 1) := by decide +kernel
theorem dX8_insert_26 : decode cX8_insert 26 = .ok (.aload_n 0, 1) := by decide +kernel
theorem dX8_insert_27 : decode cX8_insert 27 = .ok (.getfield 26, 3) := by decide +kernel
theorem dX8_insert_30 : decode cX8_insert 30 = .ok (.iload_n 1, 1) := by decide +kernel
theorem dX8_insert_31 : decode cX8_insert 31 = .ok (.dup2, 1) := by decide +kernel
theorem dX8_insert_32 : decode cX8_insert 32 = .ok (.iaload, 1) := by decide +kernel
theorem dX8_insert_33 : decode cX8_insert 33 = .ok (.iconst 1, 1) := by decide +kernel
theorem dX8_insert_34 : decode cX8_insert 34 = .ok (.iadd, 1) := by decide +kernel
theorem dX8_insert_35 : decode cX8_insert 35 = .ok (.iastore, 1) := by decide +kernel
theorem dX8_insert_36 : decode cX8_insert 36 = .ok (.return_, 1) := by decide +kernel
set_option maxRecDepth 100000 in
set_option maxHeartbeats 4000000 in
theorem cX1_wordsOnc {l : Launch} {v0 : Option Nat} {v1 : Int32} {σ : HpT} {r : Int32} (h : fX1_wordsOn v0 v1 σ = some r) : IsK σ v0 1 ∧ Ct l yX1_wordsOn cX1_wordsOn 2 (some .int) 1 21 [va_rf v0, .int v1] σ (.ok (some (.int r))) σ 0 0 := by
  unfold fX1_wordsOn at h
  replace h := bnP_s h
  obtain ⟨u, hk, h⟩ := h
  replace hk := isK_s hk
  refine ⟨hk, ?_⟩
  refine ct_start mi_X1_wordsOn.1 rfl (al_le (al_1 (rf_cat _) (al_1 rfl al_n)) (Nat.le_of_ble_eq_true rfl)) (ag_1 (rf_cat _) (ag_1 rfl ag_n)) (fun Δ Γ B hE hnm => ?_)
  refine g_iconst (v := 0) B dX1_wordsOn_0 (by decide) ?_
  refine g_aload_n B 0 dX1_wordsOn_1 rfl rfl ?_
  replace h := bnP_s h
  obtain ⟨x1, h2, h⟩ := h
  refine g_getI B fl_RX1_48 (by decide) dX1_wordsOn_2 h2 ?_
  refine g_aload_n B 0 dX1_wordsOn_5 rfl rfl ?_
  replace h := bnP_s h
  obtain ⟨x3, h4, h⟩ := h
  refine g_getR B fl_RX1_24 (by decide) dX1_wordsOn_6 h4 ?_
  replace h := bnP_s h
  obtain ⟨x5, h6, h⟩ := h
  refine g_getI B fl_RX1_80 (by decide) dX1_wordsOn_9 h6 ?_
  refine g_iload_n B 1 dX1_wordsOn_12 rfl rfl ?_
  refine g_aload_n B 0 dX1_wordsOn_13 rfl rfl ?_
  replace h := bnP_s h
  obtain ⟨x7, h8, h⟩ := h
  refine g_getI B fl_RX1_48 (by decide) dX1_wordsOn_14 h8 ?_
  refine g_imul B dX1_wordsOn_17 ?_
  refine g_isub B dX1_wordsOn_18 ?_
  refine g_mmin B mt_RX1_116 (by decide) (Nat.le_of_ble_eq_true rfl) dX1_wordsOn_19 (Nat.zero_le _) (Nat.zero_le _) ?_
  refine g_mmax B mt_RX1_121 (by decide) (Nat.le_of_ble_eq_true rfl) dX1_wordsOn_22 (Nat.zero_le _) (Nat.zero_le _) ?_
  replace h := Option.some.inj h
  subst h
  exact g_iret B hE (Nat.zero_le _) (Nat.zero_le _) dX1_wordsOn_25
set_option maxRecDepth 100000 in
set_option maxHeartbeats 4000000 in
theorem cX1_isOnc {l : Launch} {v0 : Option Nat} {v1 : Option Nat} {v2 : Int32} {σ : HpT} {r : Bool} (h : fX1_isOn v0 v1 v2 σ = some r) : IsK σ v0 1 ∧ Ct l yX1_isOn cX1_isOn 3 (some .boolean) 1 21 [va_rf v0, va_rf v1, .int v2] σ (.ok (some (.int (bI r)))) σ 0 0 := by
  unfold fX1_isOn at h
  replace h := bnP_s h
  obtain ⟨u, hk, h⟩ := h
  replace hk := isK_s hk
  refine ⟨hk, ?_⟩
  refine ct_start mi_X1_isOn.1 rfl (al_le (al_1 (rf_cat _) (al_1 (rf_cat _) (al_1 rfl al_n))) (Nat.le_of_ble_eq_true rfl)) (ag_1 (rf_cat _) (ag_1 (rf_cat _) (ag_1 rfl ag_n))) (fun Δ Γ B hE hnm => ?_)
  refine g_aload_n B 0 dX1_isOn_0 rfl rfl ?_
  refine g_aload_n B 1 dX1_isOn_1 rfl rfl ?_
  replace h := bnP_s h
  obtain ⟨x1, h2, h⟩ := h
  refine g_getI B fl_RX1_92 (by decide) dX1_isOn_2 h2 ?_
  replace h := bnP_s h
  obtain ⟨x3, h4, h⟩ := h
  refine g_callVs0 (st := []) B (cX1_leafOfc h4) (Nat.le_of_ble_eq_true rfl) rfl rfl mi_X1_leafOf lk_RX1_124 ⟨Nat.le_of_ble_eq_true rfl, Nat.le_of_ble_eq_true rfl⟩ rfl rfl (Nat.le_of_ble_eq_true rfl) dX1_isOn_5 (Nat.zero_le _) (Nat.zero_le _) ?_
  refine g_iload_n B 2 dX1_isOn_8 rfl rfl ?_
  refine g_icmp_gt B 35 dX1_isOn_9 (by decide) (fun hc => ?_) (fun hc => ?_)
  · replace h := ifp hc h
    refine g_iconst (v := 0) B dX1_isOn_35 (by decide) ?_
    replace h := Option.some.inj h
    subst h
    exact g_zret B hE rfl (Nat.zero_le _) (Nat.zero_le _) dX1_isOn_36
  · replace h := ifn hc h
    refine g_aload_n B 0 dX1_isOn_12 rfl rfl ?_
    refine g_aload_n B 1 dX1_isOn_13 rfl rfl ?_
    replace h := bnP_s h
    obtain ⟨x5, h6, h⟩ := h
    refine g_getI B fl_RX1_92 (by decide) dX1_isOn_14 h6 ?_
    refine g_aload_n B 1 dX1_isOn_17 rfl rfl ?_
    replace h := bnP_s h
    obtain ⟨x7, h8, h⟩ := h
    refine g_getI B fl_RX1_91 (by decide) dX1_isOn_18 h8 ?_
    refine g_iadd B dX1_isOn_21 ?_
    refine g_iconst (v := 1) B dX1_isOn_22 (by decide) ?_
    refine g_isub B dX1_isOn_23 ?_
    replace h := bnP_s h
    obtain ⟨x9, h10, h⟩ := h
    refine g_callVs0 (st := []) B (cX1_leafOfc h10) (Nat.le_of_ble_eq_true rfl) rfl rfl mi_X1_leafOf lk_RX1_124 ⟨Nat.le_of_ble_eq_true rfl, Nat.le_of_ble_eq_true rfl⟩ rfl rfl (Nat.le_of_ble_eq_true rfl) dX1_isOn_24 (Nat.zero_le _) (Nat.zero_le _) ?_
    refine g_iload_n B 2 dX1_isOn_27 rfl rfl ?_
    refine g_icmp_lt B 35 dX1_isOn_28 (by decide) (fun hc => ?_) (fun hc => ?_)
    · replace h := ifp hc h
      refine g_iconst (v := 0) B dX1_isOn_35 (by decide) ?_
      replace h := Option.some.inj h
      subst h
      exact g_zret B hE rfl (Nat.zero_le _) (Nat.zero_le _) dX1_isOn_36
    · replace h := ifn hc h
      refine g_iconst (v := 1) B dX1_isOn_31 (by decide) ?_
      refine g_goto B 36 dX1_isOn_32 (by decide) ?_
      replace h := Option.some.inj h
      subst h
      exact g_zret B hE rfl (Nat.zero_le _) (Nat.zero_le _) dX1_isOn_36
set_option maxRecDepth 100000 in
set_option maxHeartbeats 4000000 in
theorem cX1_actsOnc {l : Launch} {v0 : Option Nat} {v1 : Int32} {σ : HpT} {r : Int32} (h : fX1_actsOn v0 v1 σ = some r) : IsK σ v0 1 ∧ Ct l yX1_actsOn cX1_actsOn 4 (some .int) 2 43 [va_rf v0, .int v1] σ (.ok (some (.int r))) σ 0 0 := by
  unfold fX1_actsOn at h
  replace h := bnP_s h
  obtain ⟨u, hk, h⟩ := h
  replace hk := isK_s hk
  refine ⟨hk, ?_⟩
  refine ct_start mi_X1_actsOn.1 rfl (al_le (al_1 (rf_cat _) (al_1 rfl al_n)) (Nat.le_of_ble_eq_true rfl)) (ag_1 (rf_cat _) (ag_1 rfl ag_n)) (fun Δ Γ B hE hnm => ?_)
  refine g_iconst (v := 0) B dX1_actsOn_0 (by decide) ?_
  refine g_istore_n B dX1_actsOn_1 rfl (Nat.le_of_ble_eq_true rfl) (s1_c (f1_k rfl (f1_1 rfl rfl f1_n))) ?_
  refine g_iconst (v := 0) B dX1_actsOn_2 (by decide) ?_
  refine g_istore_n B dX1_actsOn_3 rfl (Nat.le_of_ble_eq_true rfl) (s1_c (f1_1 rfl rfl (f1_k rfl (f1_k rfl f1_n)))) ?_
  replace h := bnP_s h
  obtain ⟨r2, h3, h⟩ := h
  have kE4 : GW Δ Γ (0) (0) 35 [(2, .int r2)] [] σ := by
    refine g_iload_n B 0 dX1_actsOn_35 rfl rfl ?_
    replace h := Option.some.inj h
    subst h
    exact g_iret B hE (Nat.zero_le _) (Nat.zero_le _) dX1_actsOn_36
  clear h
  refine g_sub [2, 3, 1, 0] rfl ?_
  refine lpP_w (I := fun q1 => GW Δ Γ (0) (0) 4 [(0, va_rf v0), (1, .int v1), (2, .int q1.1), (3, .int q1.2)] [] σ) (r := r2) ?_ FUEL (0, 0) h3
  intro q1 x8 h hI6 hR7
  unfold fX1_actsOn_l1 at h
  obtain ⟨qv10, qv11⟩ := q1
  show GW Δ Γ (0) (0) 4 [(0, va_rf v0), (1, .int v1), (2, .int qv10), (3, .int qv11)] [] σ
  dsimp only at h
  refine g_iload_n B 3 dX1_actsOn_4 rfl rfl ?_
  refine g_aload_n B 0 dX1_actsOn_5 rfl rfl ?_
  replace h := bnP_s h
  obtain ⟨x12, h13, h⟩ := h
  refine g_getI B fl_RX1_55 (by decide) dX1_actsOn_6 h13 ?_
  refine g_icmp_ge B 35 dX1_actsOn_9 (by decide) (fun hc => ?_) (fun hc => ?_)
  · replace h := ifp hc h
    replace h := Option.some.inj h
    subst h
    have e8 := hR7 _ rfl
    subst e8
    exact g_sub [2] rfl kE4
  · replace h := ifn hc h
    refine g_aload_n B 0 dX1_actsOn_12 rfl rfl ?_
    refine g_aload_n B 0 dX1_actsOn_13 rfl rfl ?_
    replace h := bnP_s h
    obtain ⟨x14, h15, h⟩ := h
    refine g_getR B fl_RX1_11 (by decide) dX1_actsOn_14 h15 ?_
    refine g_iload_n B 3 dX1_actsOn_17 rfl rfl ?_
    replace h := bnP_s h
    obtain ⟨x16, h17, h⟩ := h
    refine g_ralds B (κ := 25) (by decide) rfl dX1_actsOn_18 h17 ?_
    refine g_iload_n B 1 dX1_actsOn_19 rfl rfl ?_
    replace h := bnP_s h
    obtain ⟨x18, h19, h⟩ := h
    refine g_callVs0 (st := []) B (cX1_isOnc h19) (Nat.le_of_ble_eq_true rfl) rfl rfl mi_X1_isOn lk_RX1_128 ⟨Nat.le_of_ble_eq_true rfl, Nat.le_of_ble_eq_true rfl⟩ rfl rfl (Nat.le_of_ble_eq_true rfl) dX1_actsOn_20 (Nat.zero_le _) (Nat.zero_le _) ?_
    refine g_if_eq B 29 dX1_actsOn_23 (by decide) (fun hc => ?_) (fun hc => ?_)
    · replace h := ifn (bI0 hc) h
      refine g_iinc (v := (qv11 + 1)) B 3 dX1_actsOn_29 rfl (by first | rfl | (congr 1; decide)) (Nat.le_of_ble_eq_true rfl) (s1_c (f1_k rfl (f1_k rfl (f1_1 rfl rfl (f1_x f1_n))))) ?_
      refine g_goto B 4 dX1_actsOn_32 (by decide) ?_
      replace h := Option.some.inj h
      subst h
      exact g_sub [1, 2, 3, 0] rfl (hI6 (qv10, (qv11 + 1)) rfl)
    · replace h := ifp (bI1 hc) h
      refine g_iinc (v := (qv10 + 1)) B 2 dX1_actsOn_26 rfl (by first | rfl | (congr 1; decide)) (Nat.le_of_ble_eq_true rfl) (s1_c (f1_k rfl (f1_1 rfl rfl (f1_x (f1_k rfl f1_n))))) ?_
      refine g_iinc (v := (qv11 + 1)) B 3 dX1_actsOn_29 rfl (by first | rfl | (congr 1; decide)) (Nat.le_of_ble_eq_true rfl) (s1_c (f1_1 rfl rfl (f1_k rfl (f1_k rfl (f1_x f1_n))))) ?_
      refine g_goto B 4 dX1_actsOn_32 (by decide) ?_
      replace h := Option.some.inj h
      subst h
      exact g_sub [2, 3, 1, 0] rfl (hI6 ((qv10 + 1), (qv11 + 1)) rfl)
set_option maxRecDepth 100000 in
set_option maxHeartbeats 4000000 in
theorem cX1_firstActOnc {l : Launch} {v0 : Option Nat} {v1 : Int32} {σ : HpT} {r : Int32} (h : fX1_firstActOn v0 v1 σ = some r) : IsK σ v0 1 ∧ Ct l yX1_firstActOn cX1_firstActOn 3 (some .int) 2 43 [va_rf v0, .int v1] σ (.ok (some (.int r))) σ 0 0 := by
  unfold fX1_firstActOn at h
  replace h := bnP_s h
  obtain ⟨u, hk, h⟩ := h
  replace hk := isK_s hk
  refine ⟨hk, ?_⟩
  refine ct_start mi_X1_firstActOn.1 rfl (al_le (al_1 (rf_cat _) (al_1 rfl al_n)) (Nat.le_of_ble_eq_true rfl)) (ag_1 (rf_cat _) (ag_1 rfl ag_n)) (fun Δ Γ B hE hnm => ?_)
  refine g_iconst (v := 0) B dX1_firstActOn_0 (by decide) ?_
  refine g_istore_n B dX1_firstActOn_1 rfl (Nat.le_of_ble_eq_true rfl) (s1_c (f1_k rfl (f1_1 rfl rfl f1_n))) ?_
  replace h := bnP_s h
  obtain ⟨r2, h3, h⟩ := h
  have kE4 : ∀ y18, r2 = .inl y18 → GW Δ Γ (0) (0) 34 [] [] σ := by
    intro y18 er
    subst er
    dsimp only at h
    refine g_iconst (v := 0) B dX1_firstActOn_34 (by decide) ?_
    replace h := Option.some.inj h
    subst h
    exact g_iret B hE (Nat.zero_le _) (Nat.zero_le _) dX1_firstActOn_35
  have kR5 : ∀ vv, r2 = .inr vv → En Δ Γ (.ok (some (.int vv))) σ 0 0 (some .int) ∧ 0 ≤ 0 ∧ 0 ≤ 0 := by
    intro vv er
    subst er
    dsimp only at h
    replace h := Option.some.inj h
    subst h
    exact ⟨hE, Nat.zero_le _, Nat.zero_le _⟩
  clear h
  refine g_sub [1, 2, 0] rfl ?_
  refine lpP_w (I := fun q1 => GW Δ Γ (0) (0) 2 [(0, va_rf v0), (1, .int v1), (2, .int q1)] [] σ) (r := r2) ?_ FUEL 0 h3
  intro q1 x8 h hI6 hR7
  unfold fX1_firstActOn_l1 at h
  refine g_iload_n B 2 dX1_firstActOn_2 rfl rfl ?_
  refine g_aload_n B 0 dX1_firstActOn_3 rfl rfl ?_
  replace h := bnP_s h
  obtain ⟨x10, h11, h⟩ := h
  refine g_getI B fl_RX1_55 (by decide) dX1_firstActOn_4 h11 ?_
  refine g_icmp_ge B 34 dX1_firstActOn_7 (by decide) (fun hc => ?_) (fun hc => ?_)
  · replace h := ifp hc h
    replace h := Option.some.inj h
    subst h
    have e8 := hR7 _ rfl
    subst e8
    exact g_sub [] rfl (kE4 _ rfl)
  · replace h := ifn hc h
    refine g_aload_n B 0 dX1_firstActOn_10 rfl rfl ?_
    refine g_aload_n B 0 dX1_firstActOn_11 rfl rfl ?_
    replace h := bnP_s h
    obtain ⟨x12, h13, h⟩ := h
    refine g_getR B fl_RX1_11 (by decide) dX1_firstActOn_12 h13 ?_
    refine g_iload_n B 2 dX1_firstActOn_15 rfl rfl ?_
    replace h := bnP_s h
    obtain ⟨x14, h15, h⟩ := h
    refine g_ralds B (κ := 25) (by decide) rfl dX1_firstActOn_16 h15 ?_
    refine g_iload_n B 1 dX1_firstActOn_17 rfl rfl ?_
    replace h := bnP_s h
    obtain ⟨x16, h17, h⟩ := h
    refine g_callVs0 (st := []) B (cX1_isOnc h17) (Nat.le_of_ble_eq_true rfl) rfl rfl mi_X1_isOn lk_RX1_128 ⟨Nat.le_of_ble_eq_true rfl, Nat.le_of_ble_eq_true rfl⟩ rfl rfl (Nat.le_of_ble_eq_true rfl) dX1_firstActOn_18 (Nat.zero_le _) (Nat.zero_le _) ?_
    refine g_if_eq B 28 dX1_firstActOn_21 (by decide) (fun hc => ?_) (fun hc => ?_)
    · replace h := ifn (bI0 hc) h
      refine g_iinc (v := (q1 + 1)) B 2 dX1_firstActOn_28 rfl (by first | rfl | (congr 1; decide)) (Nat.le_of_ble_eq_true rfl) (s1_c (f1_k rfl (f1_1 rfl rfl (f1_x f1_n)))) ?_
      refine g_goto B 2 dX1_firstActOn_31 (by decide) ?_
      replace h := Option.some.inj h
      subst h
      exact g_sub [1, 2, 0] rfl (hI6 _ rfl)
    · replace h := ifp (bI1 hc) h
      refine g_iload_n B 2 dX1_firstActOn_24 rfl rfl ?_
      refine g_iconst (v := 1) B dX1_firstActOn_25 (by decide) ?_
      refine g_iadd B dX1_firstActOn_26 ?_
      replace h := Option.some.inj h
      subst h
      have e8 := hR7 _ rfl
      obtain ⟨hE, hc9, hs9⟩ := kR5 _ e8.symm
      exact g_iret B hE hc9 hs9 dX1_firstActOn_27
set_option maxRecDepth 100000 in
set_option maxHeartbeats 4000000 in
theorem cX3_holdsc {l : Launch} {v0 : Option Nat} {v1 : Option Nat} {v2 : Int32} {σ : HpT} {r : Bool} (h : fX3_holds v0 v1 v2 σ = some r) : IsK σ v0 3 ∧ Ct l yX3_holds cX3_holds 3 (some .boolean) 0 0 [va_rf v0, va_rf v1, .int v2] σ (.ok (some (.int (bI r)))) σ 0 0 := by
  unfold fX3_holds at h
  replace h := bnP_s h
  obtain ⟨u, hk, h⟩ := h
  replace hk := isK_s hk
  refine ⟨hk, ?_⟩
  refine ct_start mi_X3_holds.1 rfl (al_le (al_1 (rf_cat _) (al_1 (rf_cat _) (al_1 rfl al_n))) (Nat.le_of_ble_eq_true rfl)) (ag_1 (rf_cat _) (ag_1 (rf_cat _) (ag_1 rfl ag_n))) (fun Δ Γ B hE hnm => ?_)
  refine g_iload_n B 2 dX3_holds_0 rfl rfl ?_
  refine g_aload_n B 0 dX3_holds_1 rfl rfl ?_
  replace h := bnP_s h
  obtain ⟨x1, h2, h⟩ := h
  refine g_getI B fl_RX3_18 (by decide) dX3_holds_2 h2 ?_
  refine g_icmp_lt B 25 dX3_holds_5 (by decide) (fun hc => ?_) (fun hc => ?_)
  · replace h := ifp hc h
    refine g_iconst (v := 0) B dX3_holds_25 (by decide) ?_
    replace h := Option.some.inj h
    subst h
    exact g_zret B hE rfl (Nat.zero_le _) (Nat.zero_le _) dX3_holds_26
  · replace h := ifn hc h
    refine g_iload_n B 2 dX3_holds_8 rfl rfl ?_
    refine g_aload_n B 0 dX3_holds_9 rfl rfl ?_
    replace h := bnP_s h
    obtain ⟨x3, h4, h⟩ := h
    refine g_getI B fl_RX3_21 (by decide) dX3_holds_10 h4 ?_
    refine g_icmp_gt B 25 dX3_holds_13 (by decide) (fun hc => ?_) (fun hc => ?_)
    · replace h := ifp hc h
      refine g_iconst (v := 0) B dX3_holds_25 (by decide) ?_
      replace h := Option.some.inj h
      subst h
      exact g_zret B hE rfl (Nat.zero_le _) (Nat.zero_le _) dX3_holds_26
    · replace h := ifn hc h
      refine g_aload_n B 1 dX3_holds_16 rfl rfl ?_
      replace h := bnP_s h
      obtain ⟨x5, h6, h⟩ := h
      refine g_getRg B fl_RX3_34 (by decide) dX3_holds_17 h6 ?_
      refine g_iload_n B 2 dX3_holds_20 rfl rfl ?_
      replace h := bnP_s h
      obtain ⟨x7, h8, h⟩ := h
      refine g_zald B dX3_holds_21 h8 ?_
      refine g_if_eq B 27 dX3_holds_22 (by decide) (fun hc => ?_) (fun hc => ?_)
      · replace h := ifp hc h
        refine g_aload_n B 0 dX3_holds_27 rfl rfl ?_
        replace h := bnP_s h
        obtain ⟨x9, h10, h⟩ := h
        refine g_getI B fl_RX3_15 (by decide) dX3_holds_28 h10 ?_
        refine g_iconst (v := 2) B dX3_holds_31 (by decide) ?_
        refine g_icmp_ne B 51 dX3_holds_32 (by decide) (fun hc => ?_) (fun hc => ?_)
        · replace h := ifn hc h
          refine g_iconst (v := 1) B dX3_holds_51 (by decide) ?_
          refine g_goto B 56 dX3_holds_52 (by decide) ?_
          replace h := Option.some.inj h
          subst h
          exact g_zret B hE rfl (Nat.zero_le _) (Nat.zero_le _) dX3_holds_56
        · replace h := ifp hc h
          refine g_iload_n B 2 dX3_holds_35 rfl rfl ?_
          refine g_aload_n B 0 dX3_holds_36 rfl rfl ?_
          replace h := bnP_s h
          obtain ⟨x11, h12, h⟩ := h
          refine g_getI B fl_RX3_18 (by decide) dX3_holds_37 h12 ?_
          refine g_icmp_eq B 51 dX3_holds_40 (by decide) (fun hc => ?_) (fun hc => ?_)
          · replace h := ifp hc h
            refine g_iconst (v := 1) B dX3_holds_51 (by decide) ?_
            refine g_goto B 56 dX3_holds_52 (by decide) ?_
            replace h := Option.some.inj h
            subst h
            exact g_zret B hE rfl (Nat.zero_le _) (Nat.zero_le _) dX3_holds_56
          · replace h := ifn hc h
            refine g_iload_n B 2 dX3_holds_43 rfl rfl ?_
            refine g_aload_n B 0 dX3_holds_44 rfl rfl ?_
            replace h := bnP_s h
            obtain ⟨x13, h14, h⟩ := h
            refine g_getI B fl_RX3_21 (by decide) dX3_holds_45 h14 ?_
            refine g_icmp_ne B 55 dX3_holds_48 (by decide) (fun hc => ?_) (fun hc => ?_)
            · replace h := ifn hc h
              refine g_iconst (v := 0) B dX3_holds_55 (by decide) ?_
              replace h := Option.some.inj h
              subst h
              exact g_zret B hE rfl (Nat.zero_le _) (Nat.zero_le _) dX3_holds_56
            · replace h := ifp hc h
              refine g_iconst (v := 1) B dX3_holds_51 (by decide) ?_
              refine g_goto B 56 dX3_holds_52 (by decide) ?_
              replace h := Option.some.inj h
              subst h
              exact g_zret B hE rfl (Nat.zero_le _) (Nat.zero_le _) dX3_holds_56
      · replace h := ifn hc h
        refine g_iconst (v := 0) B dX3_holds_25 (by decide) ?_
        replace h := Option.some.inj h
        subst h
        exact g_zret B hE rfl (Nat.zero_le _) (Nat.zero_le _) dX3_holds_26
set_option maxRecDepth 100000 in
set_option maxHeartbeats 4000000 in
theorem cX1_copiesWithc {l : Launch} {v0 : Option Nat} {v1 : Int32} {σ : HpT} {r : Int32} (h : fX1_copiesWith v0 v1 σ = some r) : IsK σ v0 1 ∧ Ct l yX1_copiesWith cX1_copiesWith 4 (some .int) 1 22 [va_rf v0, .int v1] σ (.ok (some (.int r))) σ 0 0 := by
  unfold fX1_copiesWith at h
  replace h := bnP_s h
  obtain ⟨u, hk, h⟩ := h
  replace hk := isK_s hk
  refine ⟨hk, ?_⟩
  refine ct_start mi_X1_copiesWith.1 rfl (al_le (al_1 (rf_cat _) (al_1 rfl al_n)) (Nat.le_of_ble_eq_true rfl)) (ag_1 (rf_cat _) (ag_1 rfl ag_n)) (fun Δ Γ B hE hnm => ?_)
  refine g_iconst (v := 0) B dX1_copiesWith_0 (by decide) ?_
  refine g_istore_n B dX1_copiesWith_1 rfl (Nat.le_of_ble_eq_true rfl) (s1_c (f1_k rfl (f1_1 rfl rfl f1_n))) ?_
  refine g_iconst (v := 0) B dX1_copiesWith_2 (by decide) ?_
  refine g_istore_n B dX1_copiesWith_3 rfl (Nat.le_of_ble_eq_true rfl) (s1_c (f1_1 rfl rfl (f1_k rfl (f1_k rfl f1_n)))) ?_
  replace h := bnP_s h
  obtain ⟨r2, h3, h⟩ := h
  have kE4 : GW Δ Γ (0) (0) 38 [(2, .int r2)] [] σ := by
    refine g_iload_n B 0 dX1_copiesWith_38 rfl rfl ?_
    replace h := Option.some.inj h
    subst h
    exact g_iret B hE (Nat.zero_le _) (Nat.zero_le _) dX1_copiesWith_39
  clear h
  refine g_sub [2, 3, 1, 0] rfl ?_
  refine lpP_w (I := fun q1 => GW Δ Γ (0) (0) 4 [(0, va_rf v0), (1, .int v1), (2, .int q1.1), (3, .int q1.2)] [] σ) (r := r2) ?_ FUEL (0, 0) h3
  intro q1 x8 h hI6 hR7
  unfold fX1_copiesWith_l1 at h
  obtain ⟨qv10, qv11⟩ := q1
  show GW Δ Γ (0) (0) 4 [(0, va_rf v0), (1, .int v1), (2, .int qv10), (3, .int qv11)] [] σ
  dsimp only at h
  refine g_iload_n B 3 dX1_copiesWith_4 rfl rfl ?_
  refine g_aload_n B 0 dX1_copiesWith_5 rfl rfl ?_
  replace h := bnP_s h
  obtain ⟨x12, h13, h⟩ := h
  refine g_getI B fl_RX1_58 (by decide) dX1_copiesWith_6 h13 ?_
  refine g_icmp_ge B 38 dX1_copiesWith_9 (by decide) (fun hc => ?_) (fun hc => ?_)
  · replace h := ifp hc h
    replace h := Option.some.inj h
    subst h
    have e8 := hR7 _ rfl
    subst e8
    exact g_sub [2] rfl kE4
  · replace h := ifn hc h
    refine g_aload_n B 0 dX1_copiesWith_12 rfl rfl ?_
    replace h := bnP_s h
    obtain ⟨x14, h15, h⟩ := h
    refine g_getR B fl_RX1_17 (by decide) dX1_copiesWith_13 h15 ?_
    refine g_iload_n B 3 dX1_copiesWith_16 rfl rfl ?_
    replace h := bnP_s h
    obtain ⟨x16, h17, h⟩ := h
    refine g_ralds B (κ := 26) (by decide) rfl dX1_copiesWith_17 h17 ?_
    refine g_aload_n B 0 dX1_copiesWith_18 rfl rfl ?_
    replace h := bnP_s h
    obtain ⟨x18, h19, h⟩ := h
    refine g_getR B fl_RX1_24 (by decide) dX1_copiesWith_19 h19 ?_
    refine g_iload_n B 1 dX1_copiesWith_22 rfl rfl ?_
    replace h := bnP_s h
    obtain ⟨x20, h21, h⟩ := h
    refine g_callVs0 (st := []) B (cX3_holdsc h21) (Nat.le_of_ble_eq_true rfl) rfl rfl mi_X3_holds lk_RX1_132 ⟨Nat.le_of_ble_eq_true rfl, Nat.le_of_ble_eq_true rfl⟩ rfl rfl (Nat.le_of_ble_eq_true rfl) dX1_copiesWith_23 (Nat.zero_le _) (Nat.zero_le _) ?_
    refine g_if_eq B 32 dX1_copiesWith_26 (by decide) (fun hc => ?_) (fun hc => ?_)
    · replace h := ifn (bI0 hc) h
      refine g_iinc (v := (qv11 + 1)) B 3 dX1_copiesWith_32 rfl (by first | rfl | (congr 1; decide)) (Nat.le_of_ble_eq_true rfl) (s1_c (f1_k rfl (f1_k rfl (f1_1 rfl rfl (f1_x f1_n))))) ?_
      refine g_goto B 4 dX1_copiesWith_35 (by decide) ?_
      replace h := Option.some.inj h
      subst h
      exact g_sub [1, 2, 3, 0] rfl (hI6 (qv10, (qv11 + 1)) rfl)
    · replace h := ifp (bI1 hc) h
      refine g_iinc (v := (qv10 + 1)) B 2 dX1_copiesWith_29 rfl (by first | rfl | (congr 1; decide)) (Nat.le_of_ble_eq_true rfl) (s1_c (f1_k rfl (f1_1 rfl rfl (f1_x (f1_k rfl f1_n))))) ?_
      refine g_iinc (v := (qv11 + 1)) B 3 dX1_copiesWith_32 rfl (by first | rfl | (congr 1; decide)) (Nat.le_of_ble_eq_true rfl) (s1_c (f1_1 rfl rfl (f1_k rfl (f1_k rfl (f1_x f1_n))))) ?_
      refine g_goto B 4 dX1_copiesWith_35 (by decide) ?_
      replace h := Option.some.inj h
      subst h
      exact g_sub [2, 3, 1, 0] rfl (hI6 ((qv10 + 1), (qv11 + 1)) rfl)
set_option maxRecDepth 100000 in
set_option maxHeartbeats 4000000 in
theorem cX4_isTherec {l : Launch} {v0 : Option Nat} {v1 : Int32} {σ : HpT} {r : Bool} (h : fX4_isThere v0 v1 σ = some r) : IsK σ v0 4 ∧ Ct l yX4_isThere cX4_isThere 2 (some .boolean) 0 0 [va_rf v0, .int v1] σ (.ok (some (.int (bI r)))) σ 0 0 := by
  unfold fX4_isThere at h
  replace h := bnP_s h
  obtain ⟨u, hk, h⟩ := h
  replace hk := isK_s hk
  refine ⟨hk, ?_⟩
  refine ct_start mi_X4_isThere.1 rfl (al_le (al_1 (rf_cat _) (al_1 rfl al_n)) (Nat.le_of_ble_eq_true rfl)) (ag_1 (rf_cat _) (ag_1 rfl ag_n)) (fun Δ Γ B hE hnm => ?_)
  refine g_iload_n B 1 dX4_isThere_0 rfl rfl ?_
  refine g_if_lt B 16 dX4_isThere_1 (by decide) (fun hc => ?_) (fun hc => ?_)
  · replace h := ifp hc h
    refine g_iconst (v := 0) B dX4_isThere_16 (by decide) ?_
    replace h := Option.some.inj h
    subst h
    exact g_zret B hE rfl (Nat.zero_le _) (Nat.zero_le _) dX4_isThere_17
  · replace h := ifn hc h
    refine g_iload_n B 1 dX4_isThere_4 rfl rfl ?_
    refine g_aload_n B 0 dX4_isThere_5 rfl rfl ?_
    replace h := bnP_s h
    obtain ⟨x1, h2, h⟩ := h
    refine g_getI B fl_RX4_23 (by decide) dX4_isThere_6 h2 ?_
    refine g_icmp_ge B 16 dX4_isThere_9 (by decide) (fun hc => ?_) (fun hc => ?_)
    · replace h := ifp hc h
      refine g_iconst (v := 0) B dX4_isThere_16 (by decide) ?_
      replace h := Option.some.inj h
      subst h
      exact g_zret B hE rfl (Nat.zero_le _) (Nat.zero_le _) dX4_isThere_17
    · replace h := ifn hc h
      refine g_iconst (v := 1) B dX4_isThere_12 (by decide) ?_
      refine g_goto B 17 dX4_isThere_13 (by decide) ?_
      replace h := Option.some.inj h
      subst h
      exact g_zret B hE rfl (Nat.zero_le _) (Nat.zero_le _) dX4_isThere_17
set_option maxRecDepth 100000 in
set_option maxHeartbeats 4000000 in
theorem cX4_isLostc {l : Launch} {v0 : Option Nat} {v1 : Int32} {σ : HpT} {r : Bool} (h : fX4_isLost v0 v1 σ = some r) : IsK σ v0 4 ∧ Ct l yX4_isLost cX4_isLost 2 (some .boolean) 1 21 [va_rf v0, .int v1] σ (.ok (some (.int (bI r)))) σ 0 0 := by
  unfold fX4_isLost at h
  replace h := bnP_s h
  obtain ⟨u, hk, h⟩ := h
  replace hk := isK_s hk
  refine ⟨hk, ?_⟩
  refine ct_start mi_X4_isLost.1 rfl (al_le (al_1 (rf_cat _) (al_1 rfl al_n)) (Nat.le_of_ble_eq_true rfl)) (ag_1 (rf_cat _) (ag_1 rfl ag_n)) (fun Δ Γ B hE hnm => ?_)
  refine g_aload_n B 0 dX4_isLost_0 rfl rfl ?_
  refine g_iload_n B 1 dX4_isLost_1 rfl rfl ?_
  replace h := bnP_s h
  obtain ⟨x1, h2, h⟩ := h
  refine g_callVs0 (st := []) B (cX4_isTherec h2) (Nat.le_of_ble_eq_true rfl) rfl rfl mi_X4_isThere lk_RX4_32 ⟨Nat.le_of_ble_eq_true rfl, Nat.le_of_ble_eq_true rfl⟩ rfl rfl (Nat.le_of_ble_eq_true rfl) dX4_isLost_2 (Nat.zero_le _) (Nat.zero_le _) ?_
  refine g_if_eq B 22 dX4_isLost_5 (by decide) (fun hc => ?_) (fun hc => ?_)
  · replace h := ifn (bI0 hc) h
    refine g_iconst (v := 0) B dX4_isLost_22 (by decide) ?_
    replace h := Option.some.inj h
    subst h
    exact g_zret B hE rfl (Nat.zero_le _) (Nat.zero_le _) dX4_isLost_23
  · replace h := ifp (bI1 hc) h
    refine g_aload_n B 0 dX4_isLost_8 rfl rfl ?_
    replace h := bnP_s h
    obtain ⟨x3, h4, h⟩ := h
    refine g_getR B fl_RX4_11 (by decide) dX4_isLost_9 h4 ?_
    refine g_iload_n B 1 dX4_isLost_12 rfl rfl ?_
    replace h := bnP_s h
    obtain ⟨x5, h6, h⟩ := h
    refine g_iald B dX4_isLost_13 h6 ?_
    refine g_iconst (v := 2) B dX4_isLost_14 (by decide) ?_
    refine g_icmp_ne B 22 dX4_isLost_15 (by decide) (fun hc => ?_) (fun hc => ?_)
    · replace h := ifn hc h
      refine g_iconst (v := 0) B dX4_isLost_22 (by decide) ?_
      replace h := Option.some.inj h
      subst h
      exact g_zret B hE rfl (Nat.zero_le _) (Nat.zero_le _) dX4_isLost_23
    · replace h := ifp hc h
      refine g_iconst (v := 1) B dX4_isLost_18 (by decide) ?_
      refine g_goto B 23 dX4_isLost_19 (by decide) ?_
      replace h := Option.some.inj h
      subst h
      exact g_zret B hE rfl (Nat.zero_le _) (Nat.zero_le _) dX4_isLost_23
set_option maxRecDepth 100000 in
set_option maxHeartbeats 4000000 in
theorem cX1_isKnownc {l : Launch} {v0 : Option Nat} {v1 : Int32} {σ : HpT} {r : Bool} (h : fX1_isKnown v0 v1 σ = some r) : IsK σ v0 1 ∧ Ct l yX1_isKnown cX1_isKnown 2 (some .boolean) 2 45 [va_rf v0, .int v1] σ (.ok (some (.int (bI r)))) σ 0 0 := by
  unfold fX1_isKnown at h
  replace h := bnP_s h
  obtain ⟨u, hk, h⟩ := h
  replace hk := isK_s hk
  refine ⟨hk, ?_⟩
  refine ct_start mi_X1_isKnown.1 rfl (al_le (al_1 (rf_cat _) (al_1 rfl al_n)) (Nat.le_of_ble_eq_true rfl)) (ag_1 (rf_cat _) (ag_1 rfl ag_n)) (fun Δ Γ B hE hnm => ?_)
  refine g_aload_n B 0 dX1_isKnown_0 rfl rfl ?_
  replace h := bnP_s h
  obtain ⟨x1, h2, h⟩ := h
  refine g_getR B fl_RX1_31 (by decide) dX1_isKnown_1 h2 ?_
  refine g_aload_n B 0 dX1_isKnown_4 rfl rfl ?_
  refine g_iload_n B 1 dX1_isKnown_5 rfl rfl ?_
  replace h := bnP_s h
  obtain ⟨x3, h4, h⟩ := h
  refine g_callVs0 (st := [va_rf x1]) B (cX1_leafOfc h4) (Nat.le_of_ble_eq_true rfl) rfl rfl mi_X1_leafOf lk_RX1_124 ⟨Nat.le_of_ble_eq_true rfl, Nat.le_of_ble_eq_true rfl⟩ rfl rfl (Nat.le_of_ble_eq_true rfl) dX1_isKnown_6 (Nat.zero_le _) (Nat.zero_le _) ?_
  replace h := bnP_s h
  obtain ⟨x5, h6, h⟩ := h
  refine g_callVs0 (st := []) B (cX4_isLostc h6) (Nat.le_of_ble_eq_true rfl) rfl rfl mi_X4_isLost lk_RX1_136 ⟨Nat.le_of_ble_eq_true rfl, Nat.le_of_ble_eq_true rfl⟩ rfl rfl (Nat.le_of_ble_eq_true rfl) dX1_isKnown_9 (Nat.zero_le _) (Nat.zero_le _) ?_
  refine g_if_eq B 23 dX1_isKnown_12 (by decide) (fun hc => ?_) (fun hc => ?_)
  · replace h := ifn (bI0 hc) h
    refine g_iconst (v := 1) B dX1_isKnown_23 (by decide) ?_
    refine g_goto B 28 dX1_isKnown_24 (by decide) ?_
    replace h := Option.some.inj h
    subst h
    exact g_zret B hE rfl (Nat.zero_le _) (Nat.zero_le _) dX1_isKnown_28
  · replace h := ifp (bI1 hc) h
    refine g_aload_n B 0 dX1_isKnown_15 rfl rfl ?_
    refine g_iload_n B 1 dX1_isKnown_16 rfl rfl ?_
    replace h := bnP_s h
    obtain ⟨x7, h8, h⟩ := h
    refine g_callVs0 (st := []) B (cX1_copiesWithc h8) (Nat.le_of_ble_eq_true rfl) rfl rfl mi_X1_copiesWith lk_RX1_140 ⟨Nat.le_of_ble_eq_true rfl, Nat.le_of_ble_eq_true rfl⟩ rfl rfl (Nat.le_of_ble_eq_true rfl) dX1_isKnown_17 (Nat.zero_le _) (Nat.zero_le _) ?_
    refine g_if_le B 27 dX1_isKnown_20 (by decide) (fun hc => ?_) (fun hc => ?_)
    · replace h := ifp hc h
      refine g_iconst (v := 0) B dX1_isKnown_27 (by decide) ?_
      replace h := Option.some.inj h
      subst h
      exact g_zret B hE rfl (Nat.zero_le _) (Nat.zero_le _) dX1_isKnown_28
    · replace h := ifn hc h
      refine g_iconst (v := 1) B dX1_isKnown_23 (by decide) ?_
      refine g_goto B 28 dX1_isKnown_24 (by decide) ?_
      replace h := Option.some.inj h
      subst h
      exact g_zret B hE rfl (Nat.zero_le _) (Nat.zero_le _) dX1_isKnown_28
set_option maxRecDepth 100000 in
set_option maxHeartbeats 4000000 in
theorem cX1_unknownFromc {l : Launch} {v0 : Option Nat} {v1 : Int32} {v2 : Int32} {σ : HpT} {r : Int32} (h : fX1_unknownFrom v0 v1 v2 σ = some r) : IsK σ v0 1 ∧ Ct l yX1_unknownFrom cX1_unknownFrom 5 (some .int) 3 66 [va_rf v0, .int v1, .int v2] σ (.ok (some (.int r))) σ 0 0 := by
  unfold fX1_unknownFrom at h
  replace h := bnP_s h
  obtain ⟨u, hk, h⟩ := h
  replace hk := isK_s hk
  refine ⟨hk, ?_⟩
  refine ct_start mi_X1_unknownFrom.1 rfl (al_le (al_1 (rf_cat _) (al_1 rfl (al_1 rfl al_n))) (Nat.le_of_ble_eq_true rfl)) (ag_1 (rf_cat _) (ag_1 rfl (ag_1 rfl ag_n))) (fun Δ Γ B hE hnm => ?_)
  refine g_iconst (v := 0) B dX1_unknownFrom_0 (by decide) ?_
  refine g_istore_n B dX1_unknownFrom_1 rfl (Nat.le_of_ble_eq_true rfl) (s1_c (f1_k rfl (f1_k rfl (f1_1 rfl rfl f1_n)))) ?_
  refine g_iload_n B 2 dX1_unknownFrom_2 rfl rfl ?_
  refine g_istore B dX1_unknownFrom_3 (Nat.le_of_ble_eq_true rfl) (s1_c (f1_1 rfl rfl (f1_k rfl (f1_k rfl (f1_k rfl f1_n))))) ?_
  replace h := bnP_s h
  obtain ⟨r2, h3, h⟩ := h
  have kE4 : GW Δ Γ (0) (0) 31 [(3, .int r2)] [] σ := by
    refine g_iload_n B 0 dX1_unknownFrom_31 rfl rfl ?_
    replace h := Option.some.inj h
    subst h
    exact g_iret B hE (Nat.zero_le _) (Nat.zero_le _) dX1_unknownFrom_32
  clear h
  refine g_sub [2, 3, 4, 1, 0] rfl ?_
  refine lpP_w (I := fun q1 => GW Δ Γ (0) (0) 5 [(0, va_rf v0), (1, .int v1), (2, .int v2), (3, .int q1.1), (4, .int q1.2)] [] σ) (r := r2) ?_ FUEL (0, v1) h3
  intro q1 x8 h hI6 hR7
  unfold fX1_unknownFrom_l1 at h
  obtain ⟨qv10, qv11⟩ := q1
  show GW Δ Γ (0) (0) 5 [(0, va_rf v0), (1, .int v1), (2, .int v2), (3, .int qv10), (4, .int qv11)] [] σ
  dsimp only at h
  refine g_iload B 4 dX1_unknownFrom_5 rfl ?_
  refine g_iload_n B 1 dX1_unknownFrom_7 rfl rfl ?_
  refine g_iload_n B 2 dX1_unknownFrom_8 rfl rfl ?_
  refine g_iadd B dX1_unknownFrom_9 ?_
  refine g_icmp_ge B 31 dX1_unknownFrom_10 (by decide) (fun hc => ?_) (fun hc => ?_)
  · replace h := ifp hc h
    replace h := Option.some.inj h
    subst h
    have e8 := hR7 _ rfl
    subst e8
    exact g_sub [3] rfl kE4
  · replace h := ifn hc h
    refine g_aload_n B 0 dX1_unknownFrom_13 rfl rfl ?_
    refine g_iload B 4 dX1_unknownFrom_14 rfl ?_
    replace h := bnP_s h
    obtain ⟨x12, h13, h⟩ := h
    refine g_callVs0 (st := []) B (cX1_isKnownc h13) (Nat.le_of_ble_eq_true rfl) rfl rfl mi_X1_isKnown lk_RX1_143 ⟨Nat.le_of_ble_eq_true rfl, Nat.le_of_ble_eq_true rfl⟩ rfl rfl (Nat.le_of_ble_eq_true rfl) dX1_unknownFrom_16 (Nat.zero_le _) (Nat.zero_le _) ?_
    refine g_if_ne B 25 dX1_unknownFrom_19 (by decide) (fun hc => ?_) (fun hc => ?_)
    · replace h := ifp (bI1 hc) h
      refine g_iinc (v := (qv11 + 1)) B 4 dX1_unknownFrom_25 rfl (by first | rfl | (congr 1; decide)) (Nat.le_of_ble_eq_true rfl) (s1_c (f1_k rfl (f1_k rfl (f1_k rfl (f1_1 rfl rfl (f1_x f1_n)))))) ?_
      refine g_goto B 5 dX1_unknownFrom_28 (by decide) ?_
      replace h := Option.some.inj h
      subst h
      exact g_sub [1, 2, 3, 4, 0] rfl (hI6 (qv10, (qv11 + 1)) rfl)
    · replace h := ifn (bI0 hc) h
      refine g_iinc (v := (qv10 + 1)) B 3 dX1_unknownFrom_22 rfl (by first | rfl | (congr 1; decide)) (Nat.le_of_ble_eq_true rfl) (s1_c (f1_k rfl (f1_k rfl (f1_1 rfl rfl (f1_x (f1_k rfl f1_n)))))) ?_
      refine g_iinc (v := (qv11 + 1)) B 4 dX1_unknownFrom_25 rfl (by first | rfl | (congr 1; decide)) (Nat.le_of_ble_eq_true rfl) (s1_c (f1_1 rfl rfl (f1_k rfl (f1_k rfl (f1_k rfl (f1_x f1_n)))))) ?_
      refine g_goto B 5 dX1_unknownFrom_28 (by decide) ?_
      replace h := Option.some.inj h
      subst h
      exact g_sub [2, 3, 4, 1, 0] rfl (hI6 ((qv10 + 1), (qv11 + 1)) rfl)
set_option maxRecDepth 100000 in
set_option maxHeartbeats 4000000 in
theorem cX1_wouldBeUnknownc {l : Launch} {v0 : Option Nat} {v1 : Int32} {σ : HpT} {r : Int32} (h : fX1_wouldBeUnknown v0 v1 σ = some r) : IsK σ v0 1 ∧ Ct l yX1_wouldBeUnknown cX1_wouldBeUnknown 6 (some .int) 2 45 [va_rf v0, .int v1] σ (.ok (some (.int r))) σ 0 0 := by
  unfold fX1_wouldBeUnknown at h
  replace h := bnP_s h
  obtain ⟨u, hk, h⟩ := h
  replace hk := isK_s hk
  refine ⟨hk, ?_⟩
  refine ct_start mi_X1_wouldBeUnknown.1 rfl (al_le (al_1 (rf_cat _) (al_1 rfl al_n)) (Nat.le_of_ble_eq_true rfl)) (ag_1 (rf_cat _) (ag_1 rfl ag_n)) (fun Δ Γ B hE hnm => ?_)
  refine g_aload_n B 0 dX1_wouldBeUnknown_0 rfl rfl ?_
  replace h := bnP_s h
  obtain ⟨x1, h2, h⟩ := h
  refine g_getR B fl_RX1_31 (by decide) dX1_wouldBeUnknown_1 h2 ?_
  refine g_iload_n B 1 dX1_wouldBeUnknown_4 rfl rfl ?_
  replace h := bnP_s h
  obtain ⟨x3, h4, h⟩ := h
  refine g_callVs0 (st := []) B (cX4_isLostc h4) (Nat.le_of_ble_eq_true rfl) rfl rfl mi_X4_isLost lk_RX1_136 ⟨Nat.le_of_ble_eq_true rfl, Nat.le_of_ble_eq_true rfl⟩ rfl rfl (Nat.le_of_ble_eq_true rfl) dX1_wouldBeUnknown_5 (Nat.zero_le _) (Nat.zero_le _) ?_
  refine g_if_eq B 13 dX1_wouldBeUnknown_8 (by decide) (fun hc => ?_) (fun hc => ?_)
  · replace h := ifn (bI0 hc) h
    refine g_iconst (v := 0) B dX1_wouldBeUnknown_13 (by decide) ?_
    refine g_istore_n B dX1_wouldBeUnknown_14 rfl (Nat.le_of_ble_eq_true rfl) (s1_c (f1_k rfl (f1_1 rfl rfl f1_n))) ?_
    refine g_iload_n B 2 dX1_wouldBeUnknown_15 rfl rfl ?_
    refine g_aload_n B 1 dX1_wouldBeUnknown_16 rfl rfl ?_
    replace h := bnP_s h
    obtain ⟨x5, h6, h⟩ := h
    refine g_getI B fl_RX1_48 (by decide) dX1_wouldBeUnknown_17 h6 ?_
    refine g_imul B dX1_wouldBeUnknown_20 ?_
    refine g_istore_n B dX1_wouldBeUnknown_21 rfl (Nat.le_of_ble_eq_true rfl) (s1_c (f1_1 rfl rfl (f1_k rfl (f1_k rfl f1_n)))) ?_
    refine g_iload_n B 0 dX1_wouldBeUnknown_22 rfl rfl ?_
    refine g_aload_n B 2 dX1_wouldBeUnknown_23 rfl rfl ?_
    refine g_iload_n B 3 dX1_wouldBeUnknown_24 rfl rfl ?_
    replace h := bnP_s h
    obtain ⟨x7, h8, h⟩ := h
    refine g_callVs0 (st := [.int (v1 * x5)]) B (cX1_wordsOnc h8) (Nat.le_of_ble_eq_true rfl) rfl rfl mi_X1_wordsOn lk_RX1_146 ⟨Nat.le_of_ble_eq_true rfl, Nat.le_of_ble_eq_true rfl⟩ rfl rfl (Nat.le_of_ble_eq_true rfl) dX1_wouldBeUnknown_25 (Nat.zero_le _) (Nat.zero_le _) ?_
    refine g_iadd B dX1_wouldBeUnknown_28 ?_
    refine g_istore B dX1_wouldBeUnknown_29 (Nat.le_of_ble_eq_true rfl) (s1_c (f1_1 rfl rfl (f1_k rfl (f1_k rfl (f1_k rfl f1_n))))) ?_
    refine g_iload_n B 1 dX1_wouldBeUnknown_31 rfl rfl ?_
    refine g_istore B dX1_wouldBeUnknown_32 (Nat.le_of_ble_eq_true rfl) (s1_c (f1_1 rfl rfl (f1_k rfl (f1_k rfl (f1_k rfl (f1_k rfl f1_n)))))) ?_
    replace h := bnP_s h
    obtain ⟨r10, h11, h⟩ := h
    have kE12 : GW Δ Γ (0) (0) 59 [(2, .int r10)] [] σ := by
      refine g_iload_n B 0 dX1_wouldBeUnknown_59 rfl rfl ?_
      replace h := Option.some.inj h
      subst h
      exact g_iret B hE (Nat.zero_le _) (Nat.zero_le _) dX1_wouldBeUnknown_60
    clear h
    refine g_sub [4, 3, 1, 0] rfl ?_
    refine lpP_w (I := fun q9 => GW Δ Γ (0) (0) 34 [(0, va_rf v0), (2, .int q9.1), (4, .int ((v1 * x5) + x7)), (5, .int q9.2)] [] σ) (r := r10) ?_ FUEL (0, (v1 * x5)) h11
    intro q9 x16 h hI14 hR15
    unfold fX1_wouldBeUnknown_l1 at h
    obtain ⟨qv18, qv19⟩ := q9
    show GW Δ Γ (0) (0) 34 [(0, va_rf v0), (2, .int qv18), (4, .int ((v1 * x5) + x7)), (5, .int qv19)] [] σ
    dsimp only at h
    refine g_iload B 3 dX1_wouldBeUnknown_34 rfl ?_
    refine g_iload B 2 dX1_wouldBeUnknown_36 rfl ?_
    refine g_icmp_ge B 59 dX1_wouldBeUnknown_38 (by decide) (fun hc => ?_) (fun hc => ?_)
    · replace h := ifp hc h
      replace h := Option.some.inj h
      subst h
      have e8 := hR15 _ rfl
      subst e8
      exact g_sub [1] rfl kE12
    · replace h := ifn hc h
      refine g_aload_n B 0 dX1_wouldBeUnknown_41 rfl rfl ?_
      refine g_iload B 3 dX1_wouldBeUnknown_42 rfl ?_
      replace h := bnP_s h
      obtain ⟨x20, h21, h⟩ := h
      refine g_callVs0 (st := []) B (cX1_copiesWithc h21) (Nat.le_of_ble_eq_true rfl) rfl rfl mi_X1_copiesWith lk_RX1_140 ⟨Nat.le_of_ble_eq_true rfl, Nat.le_of_ble_eq_true rfl⟩ rfl rfl (Nat.le_of_ble_eq_true rfl) dX1_wouldBeUnknown_44 (Nat.zero_le _) (Nat.zero_le _) ?_
      refine g_if_ne B 53 dX1_wouldBeUnknown_47 (by decide) (fun hc => ?_) (fun hc => ?_)
      · replace h := ifn hc h
        refine g_iinc (v := (qv19 + 1)) B 3 dX1_wouldBeUnknown_53 rfl (by first | rfl | (congr 1; decide)) (Nat.le_of_ble_eq_true rfl) (s1_c (f1_k rfl (f1_k rfl (f1_1 rfl rfl (f1_x f1_n))))) ?_
        refine g_goto B 34 dX1_wouldBeUnknown_56 (by decide) ?_
        replace h := Option.some.inj h
        subst h
        exact g_sub [1, 2, 3, 0] rfl (hI14 (qv18, (qv19 + 1)) rfl)
      · replace h := ifp hc h
        refine g_iinc (v := (qv18 + 1)) B 1 dX1_wouldBeUnknown_50 rfl (by first | rfl | (congr 1; decide)) (Nat.le_of_ble_eq_true rfl) (s1_c (f1_k rfl (f1_x (f1_k rfl (f1_k rfl f1_n))))) ?_
        refine g_iinc (v := (qv19 + 1)) B 3 dX1_wouldBeUnknown_53 rfl (by first | rfl | (congr 1; decide)) (Nat.le_of_ble_eq_true rfl) (s1_c (f1_k rfl (f1_k rfl (f1_1 rfl rfl (f1_x f1_n))))) ?_
        refine g_goto B 34 dX1_wouldBeUnknown_56 (by decide) ?_
        replace h := Option.some.inj h
        subst h
        exact g_sub [2, 1, 3, 0] rfl (hI14 ((qv18 + 1), (qv19 + 1)) rfl)
  · replace h := ifp (bI1 hc) h
    refine g_iconst (v := 0) B dX1_wouldBeUnknown_11 (by decide) ?_
    replace h := Option.some.inj h
    subst h
    exact g_iret B hE (Nat.zero_le _) (Nat.zero_le _) dX1_wouldBeUnknown_12
set_option maxRecDepth 100000 in
set_option maxHeartbeats 4000000 in
theorem cX1_copiesOfc {l : Launch} {v0 : Option Nat} {v1 : Int32} {σ : HpT} {r : Int32} (h : fX1_copiesOf v0 v1 σ = some r) : IsK σ v0 1 ∧ Ct l yX1_copiesOf cX1_copiesOf 4 (some .int) 0 0 [va_rf v0, .int v1] σ (.ok (some (.int r))) σ 0 0 := by
  unfold fX1_copiesOf at h
  replace h := bnP_s h
  obtain ⟨u, hk, h⟩ := h
  replace hk := isK_s hk
  refine ⟨hk, ?_⟩
  refine ct_start mi_X1_copiesOf.1 rfl (al_le (al_1 (rf_cat _) (al_1 rfl al_n)) (Nat.le_of_ble_eq_true rfl)) (ag_1 (rf_cat _) (ag_1 rfl ag_n)) (fun Δ Γ B hE hnm => ?_)
  refine g_iconst (v := 0) B dX1_copiesOf_0 (by decide) ?_
  refine g_istore_n B dX1_copiesOf_1 rfl (Nat.le_of_ble_eq_true rfl) (s1_c (f1_k rfl (f1_1 rfl rfl f1_n))) ?_
  refine g_iconst (v := 0) B dX1_copiesOf_2 (by decide) ?_
  refine g_istore_n B dX1_copiesOf_3 rfl (Nat.le_of_ble_eq_true rfl) (s1_c (f1_1 rfl rfl (f1_k rfl (f1_k rfl f1_n)))) ?_
  replace h := bnP_s h
  obtain ⟨r2, h3, h⟩ := h
  have kE4 : GW Δ Γ (0) (0) 34 [(2, .int r2)] [] σ := by
    refine g_iload_n B 0 dX1_copiesOf_34 rfl rfl ?_
    replace h := Option.some.inj h
    subst h
    exact g_iret B hE (Nat.zero_le _) (Nat.zero_le _) dX1_copiesOf_35
  clear h
  refine g_sub [2, 3, 1, 0] rfl ?_
  refine lpP_w (I := fun q1 => GW Δ Γ (0) (0) 4 [(0, va_rf v0), (1, .int v1), (2, .int q1.1), (3, .int q1.2)] [] σ) (r := r2) ?_ FUEL (0, 0) h3
  intro q1 x8 h hI6 hR7
  unfold fX1_copiesOf_l1 at h
  obtain ⟨qv10, qv11⟩ := q1
  show GW Δ Γ (0) (0) 4 [(0, va_rf v0), (1, .int v1), (2, .int qv10), (3, .int qv11)] [] σ
  dsimp only at h
  refine g_iload_n B 3 dX1_copiesOf_4 rfl rfl ?_
  refine g_aload_n B 0 dX1_copiesOf_5 rfl rfl ?_
  replace h := bnP_s h
  obtain ⟨x12, h13, h⟩ := h
  refine g_getI B fl_RX1_58 (by decide) dX1_copiesOf_6 h13 ?_
  refine g_icmp_ge B 34 dX1_copiesOf_9 (by decide) (fun hc => ?_) (fun hc => ?_)
  · replace h := ifp hc h
    replace h := Option.some.inj h
    subst h
    have e8 := hR7 _ rfl
    subst e8
    exact g_sub [2] rfl kE4
  · replace h := ifn hc h
    refine g_aload_n B 0 dX1_copiesOf_12 rfl rfl ?_
    replace h := bnP_s h
    obtain ⟨x14, h15, h⟩ := h
    refine g_getR B fl_RX1_17 (by decide) dX1_copiesOf_13 h15 ?_
    refine g_iload_n B 3 dX1_copiesOf_16 rfl rfl ?_
    replace h := bnP_s h
    obtain ⟨x16, h17, h⟩ := h
    refine g_ralds B (κ := 26) (by decide) rfl dX1_copiesOf_17 h17 ?_
    replace h := bnP_s h
    obtain ⟨x18, h19, h⟩ := h
    refine g_getI B fl_RX1_149 (by decide) dX1_copiesOf_18 h19 ?_
    refine g_iload_n B 1 dX1_copiesOf_21 rfl rfl ?_
    refine g_icmp_ne B 28 dX1_copiesOf_22 (by decide) (fun hc => ?_) (fun hc => ?_)
    · replace h := ifn hc h
      refine g_iinc (v := (qv11 + 1)) B 3 dX1_copiesOf_28 rfl (by first | rfl | (congr 1; decide)) (Nat.le_of_ble_eq_true rfl) (s1_c (f1_k rfl (f1_k rfl (f1_1 rfl rfl (f1_x f1_n))))) ?_
      refine g_goto B 4 dX1_copiesOf_31 (by decide) ?_
      replace h := Option.some.inj h
      subst h
      exact g_sub [1, 2, 3, 0] rfl (hI6 (qv10, (qv11 + 1)) rfl)
    · replace h := ifp hc h
      refine g_iinc (v := (qv10 + 1)) B 2 dX1_copiesOf_25 rfl (by first | rfl | (congr 1; decide)) (Nat.le_of_ble_eq_true rfl) (s1_c (f1_k rfl (f1_1 rfl rfl (f1_x (f1_k rfl f1_n))))) ?_
      refine g_iinc (v := (qv11 + 1)) B 3 dX1_copiesOf_28 rfl (by first | rfl | (congr 1; decide)) (Nat.le_of_ble_eq_true rfl) (s1_c (f1_1 rfl rfl (f1_k rfl (f1_k rfl (f1_x f1_n))))) ?_
      refine g_goto B 4 dX1_copiesOf_31 (by decide) ?_
      replace h := Option.some.inj h
      subst h
      exact g_sub [2, 3, 1, 0] rfl (hI6 ((qv10 + 1), (qv11 + 1)) rfl)
set_option maxRecDepth 100000 in
set_option maxHeartbeats 4000000 in
theorem cX1_knownByAlonec {l : Launch} {v0 : Option Nat} {v1 : Option Nat} {σ : HpT} {r : Int32} (h : fX1_knownByAlone v0 v1 σ = some r) : IsK σ v0 1 ∧ Ct l yX1_knownByAlone cX1_knownByAlone 4 (some .int) 2 45 [va_rf v0, va_rf v1] σ (.ok (some (.int r))) σ 0 0 := by
  unfold fX1_knownByAlone at h
  replace h := bnP_s h
  obtain ⟨u, hk, h⟩ := h
  replace hk := isK_s hk
  refine ⟨hk, ?_⟩
  refine ct_start mi_X1_knownByAlone.1 rfl (al_le (al_1 (rf_cat _) (al_1 (rf_cat _) al_n)) (Nat.le_of_ble_eq_true rfl)) (ag_1 (rf_cat _) (ag_1 (rf_cat _) ag_n)) (fun Δ Γ B hE hnm => ?_)
  refine g_iconst (v := 0) B dX1_knownByAlone_0 (by decide) ?_
  refine g_istore_n B dX1_knownByAlone_1 rfl (Nat.le_of_ble_eq_true rfl) (s1_c (f1_k rfl (f1_1 rfl (rf_cat _) f1_n))) ?_
  refine g_aload_n B 2 dX1_knownByAlone_2 rfl rfl ?_
  replace h := bnP_s h
  obtain ⟨x1, h2, h⟩ := h
  refine g_getI B fl_RX1_152 (by decide) dX1_knownByAlone_3 h2 ?_
  refine g_istore_n B dX1_knownByAlone_6 rfl (Nat.le_of_ble_eq_true rfl) (s1_c (f1_1 rfl rfl (f1_k rfl (f1_k rfl f1_n)))) ?_
  replace h := bnP_s h
  obtain ⟨r4, h5, h⟩ := h
  have kE6 : GW Δ Γ (0) (0) 60 [(2, .int r4)] [] σ := by
    refine g_iload_n B 0 dX1_knownByAlone_60 rfl rfl ?_
    replace h := Option.some.inj h
    subst h
    exact g_iret B hE (Nat.zero_le _) (Nat.zero_le _) dX1_knownByAlone_61
  clear h
  refine g_sub [2, 3, 1, 0] rfl ?_
  refine lpP_w (I := fun q3 => GW Δ Γ (0) (0) 7 [(0, va_rf v0), (1, va_rf v1), (2, .int q3.1), (3, .int q3.2)] [] σ) (r := r4) ?_ FUEL (0, x1) h5
  intro q3 x10 h hI8 hR9
  unfold fX1_knownByAlone_l1 at h
  obtain ⟨qv12, qv13⟩ := q3
  show GW Δ Γ (0) (0) 7 [(0, va_rf v0), (1, va_rf v1), (2, .int qv12), (3, .int qv13)] [] σ
  dsimp only at h
  refine g_iload_n B 3 dX1_knownByAlone_7 rfl rfl ?_
  refine g_aload_n B 1 dX1_knownByAlone_8 rfl rfl ?_
  replace h := bnP_s h
  obtain ⟨x14, h15, h⟩ := h
  refine g_getI B fl_RX1_153 (by decide) dX1_knownByAlone_9 h15 ?_
  refine g_icmp_gt B 60 dX1_knownByAlone_12 (by decide) (fun hc => ?_) (fun hc => ?_)
  · replace h := ifp hc h
    replace h := Option.some.inj h
    subst h
    have e8 := hR9 _ rfl
    subst e8
    exact g_sub [2] rfl kE6
  · replace h := ifn hc h
    refine g_aload_n B 1 dX1_knownByAlone_15 rfl rfl ?_
    refine g_aload_n B 0 dX1_knownByAlone_16 rfl rfl ?_
    replace h := bnP_s h
    obtain ⟨x16, h17, h⟩ := h
    refine g_getR B fl_RX1_24 (by decide) dX1_knownByAlone_17 h17 ?_
    refine g_iload_n B 3 dX1_knownByAlone_20 rfl rfl ?_
    replace h := bnP_s h
    obtain ⟨x18, h19, h⟩ := h
    refine g_callVs0 (st := []) B (cX3_holdsc h19) (Nat.le_of_ble_eq_true rfl) rfl rfl mi_X3_holds lk_RX1_132 ⟨Nat.le_of_ble_eq_true rfl, Nat.le_of_ble_eq_true rfl⟩ rfl rfl (Nat.le_of_ble_eq_true rfl) dX1_knownByAlone_21 (Nat.zero_le _) (Nat.zero_le _) ?_
    refine g_if_eq B 54 dX1_knownByAlone_24 (by decide) (fun hc => ?_) (fun hc => ?_)
    · replace h := ifn (bI0 hc) h
      refine g_iinc (v := (qv13 + 1)) B 3 dX1_knownByAlone_54 rfl (by first | rfl | (congr 1; decide)) (Nat.le_of_ble_eq_true rfl) (s1_c (f1_k rfl (f1_k rfl (f1_1 rfl rfl (f1_x f1_n))))) ?_
      refine g_goto B 7 dX1_knownByAlone_57 (by decide) ?_
      replace h := Option.some.inj h
      subst h
      exact g_sub [1, 2, 3, 0] rfl (hI8 (qv12, (qv13 + 1)) rfl)
    · replace h := ifp (bI1 hc) h
      refine g_aload_n B 0 dX1_knownByAlone_27 rfl rfl ?_
      replace h := bnP_s h
      obtain ⟨x20, h21, h⟩ := h
      refine g_getR B fl_RX1_31 (by decide) dX1_knownByAlone_28 h21 ?_
      refine g_aload_n B 0 dX1_knownByAlone_31 rfl rfl ?_
      refine g_iload_n B 3 dX1_knownByAlone_32 rfl rfl ?_
      replace h := bnP_s h
      obtain ⟨x22, h23, h⟩ := h
      refine g_callVs0 (st := [va_rf x20]) B (cX1_leafOfc h23) (Nat.le_of_ble_eq_true rfl) rfl rfl mi_X1_leafOf lk_RX1_124 ⟨Nat.le_of_ble_eq_true rfl, Nat.le_of_ble_eq_true rfl⟩ rfl rfl (Nat.le_of_ble_eq_true rfl) dX1_knownByAlone_33 (Nat.zero_le _) (Nat.zero_le _) ?_
      replace h := bnP_s h
      obtain ⟨x24, h25, h⟩ := h
      refine g_callVs0 (st := []) B (cX4_isLostc h25) (Nat.le_of_ble_eq_true rfl) rfl rfl mi_X4_isLost lk_RX1_136 ⟨Nat.le_of_ble_eq_true rfl, Nat.le_of_ble_eq_true rfl⟩ rfl rfl (Nat.le_of_ble_eq_true rfl) dX1_knownByAlone_36 (Nat.zero_le _) (Nat.zero_le _) ?_
      refine g_if_eq B 54 dX1_knownByAlone_39 (by decide) (fun hc => ?_) (fun hc => ?_)
      · replace h := ifn (bI0 hc) h
        refine g_iinc (v := (qv13 + 1)) B 3 dX1_knownByAlone_54 rfl (by first | rfl | (congr 1; decide)) (Nat.le_of_ble_eq_true rfl) (s1_c (f1_k rfl (f1_k rfl (f1_1 rfl rfl (f1_x f1_n))))) ?_
        refine g_goto B 7 dX1_knownByAlone_57 (by decide) ?_
        replace h := Option.some.inj h
        subst h
        exact g_sub [1, 2, 3, 0] rfl (hI8 (qv12, (qv13 + 1)) rfl)
      · replace h := ifp (bI1 hc) h
        refine g_aload_n B 0 dX1_knownByAlone_42 rfl rfl ?_
        refine g_iload_n B 3 dX1_knownByAlone_43 rfl rfl ?_
        replace h := bnP_s h
        obtain ⟨x26, h27, h⟩ := h
        refine g_callVs0 (st := []) B (cX1_copiesWithc h27) (Nat.le_of_ble_eq_true rfl) rfl rfl mi_X1_copiesWith lk_RX1_140 ⟨Nat.le_of_ble_eq_true rfl, Nat.le_of_ble_eq_true rfl⟩ rfl rfl (Nat.le_of_ble_eq_true rfl) dX1_knownByAlone_44 (Nat.zero_le _) (Nat.zero_le _) ?_
        refine g_iconst (v := 1) B dX1_knownByAlone_47 (by decide) ?_
        refine g_icmp_ne B 54 dX1_knownByAlone_48 (by decide) (fun hc => ?_) (fun hc => ?_)
        · replace h := ifn hc h
          refine g_iinc (v := (qv13 + 1)) B 3 dX1_knownByAlone_54 rfl (by first | rfl | (congr 1; decide)) (Nat.le_of_ble_eq_true rfl) (s1_c (f1_k rfl (f1_k rfl (f1_1 rfl rfl (f1_x f1_n))))) ?_
          refine g_goto B 7 dX1_knownByAlone_57 (by decide) ?_
          replace h := Option.some.inj h
          subst h
          exact g_sub [1, 2, 3, 0] rfl (hI8 (qv12, (qv13 + 1)) rfl)
        · replace h := ifp hc h
          refine g_iinc (v := (qv12 + 1)) B 2 dX1_knownByAlone_51 rfl (by first | rfl | (congr 1; decide)) (Nat.le_of_ble_eq_true rfl) (s1_c (f1_k rfl (f1_1 rfl (rf_cat _) (f1_x (f1_k rfl f1_n))))) ?_
          refine g_iinc (v := (qv13 + 1)) B 3 dX1_knownByAlone_54 rfl (by first | rfl | (congr 1; decide)) (Nat.le_of_ble_eq_true rfl) (s1_c (f1_1 rfl rfl (f1_k rfl (f1_k rfl (f1_x f1_n))))) ?_
          refine g_goto B 7 dX1_knownByAlone_57 (by decide) ?_
          replace h := Option.some.inj h
          subst h
          exact g_sub [2, 3, 1, 0] rfl (hI8 ((qv12 + 1), (qv13 + 1)) rfl)
set_option maxRecDepth 100000 in
set_option maxHeartbeats 4000000 in
theorem cX3_drawc {l : Launch} {v0 : Option Nat} {v1 : Option Nat} {v2 : Option Nat} {v3 : Int32} {σ : HpT} {σ' : HpT} (h : fX3_draw v0 v1 v2 v3 σ = some σ') : IsK σ v0 3 ∧ Ct l yX3_draw cX3_draw 5 none 1 22 [va_rf v0, va_rf v1, va_rf v2, .int v3] σ (.ok none) σ' 0 0 := by
  unfold fX3_draw at h
  replace h := bnP_s h
  obtain ⟨u, hk, h⟩ := h
  replace hk := isK_s hk
  refine ⟨hk, ?_⟩
  refine ct_start mi_X3_draw.1 rfl (al_le (al_1 (rf_cat _) (al_1 (rf_cat _) (al_1 (rf_cat _) (al_1 rfl al_n)))) (Nat.le_of_ble_eq_true rfl)) (ag_1 (rf_cat _) (ag_1 (rf_cat _) (ag_1 (rf_cat _) (ag_1 rfl ag_n)))) (fun Δ Γ B hE hnm => ?_)
  refine g_aload_n B 0 dX3_draw_0 rfl rfl ?_
  refine g_aload_n B 2 dX3_draw_1 rfl rfl ?_
  replace h := bnP_s h
  obtain ⟨x1, h2, h⟩ := h
  refine g_getI B fl_RX3_27 (by decide) dX3_draw_2 h2 ?_
  replace h := bnP_s h
  obtain ⟨s5, h4, h⟩ := h
  refine g_putI B fl_RX3_9 (by decide) dX3_draw_5 h4 ?_
  refine g_aload_n B 0 dX3_draw_8 rfl rfl ?_
  refine g_iload_n B 3 dX3_draw_9 rfl rfl ?_
  replace h := bnP_s h
  obtain ⟨s8, h7, h⟩ := h
  refine g_putI B fl_RX3_15 (by decide) dX3_draw_10 h7 ?_
  refine g_aload_n B 0 dX3_draw_13 rfl rfl ?_
  refine g_iconst (v := 0) B dX3_draw_14 (by decide) ?_
  replace h := bnP_s h
  obtain ⟨s11, h10, h⟩ := h
  refine g_putI B fl_RX3_18 (by decide) dX3_draw_15 h10 ?_
  refine g_aload_n B 0 dX3_draw_18 rfl rfl ?_
  refine g_iconst (v := (-1)) B dX3_draw_19 (by decide) ?_
  replace h := bnP_s h
  obtain ⟨s14, h13, h⟩ := h
  refine g_putI B fl_RX3_21 (by decide) dX3_draw_20 h13 ?_
  refine g_aload_n B 0 dX3_draw_23 rfl rfl ?_
  refine g_iconst (v := 0) B dX3_draw_24 (by decide) ?_
  replace h := bnP_s h
  obtain ⟨s17, h16, h⟩ := h
  refine g_putI B fl_RX3_24 (by decide) dX3_draw_25 h16 ?_
  refine g_aload_n B 2 dX3_draw_28 rfl rfl ?_
  replace h := bnP_s h
  obtain ⟨x18, h19, h⟩ := h
  refine g_getI B fl_RX3_32 (by decide) dX3_draw_29 h19 ?_
  refine g_istore B dX3_draw_32 (Nat.le_of_ble_eq_true rfl) (s1_c (f1_k rfl (f1_k rfl (f1_k rfl (f1_1 rfl rfl f1_n))))) ?_
  replace h := bnS_s h
  obtain ⟨r21, s53, h22, h⟩ := h
  have kE23 : GW Δ Γ (0) (0) 91 [(0, va_rf v0), (1, va_rf v1), (2, va_rf v2)] [] s53 := by
    refine g_aload_n B 2 dX3_draw_91 rfl rfl ?_
    replace h := bnP_s h
    obtain ⟨x54, h55, h⟩ := h
    refine g_getI B fl_RX3_32 (by decide) dX3_draw_92 h55 ?_
    refine g_istore B dX3_draw_95 (Nat.le_of_ble_eq_true rfl) (s1_c (f1_k rfl (f1_k rfl (f1_k rfl f1_n)))) ?_
    replace h := bnS_s h
    obtain ⟨r57, s98, h58, h⟩ := h
    have kE59 : GW Δ Γ (0) (0) 168 [] [] s98 := by
      replace h := Option.some.inj h
      subst h
      exact g_vret B hE (Nat.zero_le _) (Nat.zero_le _) dX3_draw_168
    clear h
    refine g_sub [1, 2, 3, 0] rfl ?_
    refine lpS_w (I := fun q56 s65 => GW Δ Γ (0) (0) 97 [(0, va_rf v0), (1, va_rf v1), (2, va_rf v2), (4, .int q56)] [] s65) (r := r57) (σr := s98) ?_ FUEL x54 s53 h58
    intro q56 s65 x63 s9 h hI61 hR62
    unfold fX3_draw_l2 at h
    refine g_iload B 3 dX3_draw_97 rfl ?_
    refine g_aload_n B 2 dX3_draw_99 rfl rfl ?_
    replace h := bnP_s h
    obtain ⟨x66, h67, h⟩ := h
    refine g_getI B fl_RX3_32 (by decide) dX3_draw_100 h67 ?_
    refine g_aload_n B 2 dX3_draw_103 rfl rfl ?_
    replace h := bnP_s h
    obtain ⟨x68, h69, h⟩ := h
    refine g_getI B fl_RX3_33 (by decide) dX3_draw_104 h69 ?_
    refine g_iadd B dX3_draw_107 ?_
    refine g_icmp_ge B 168 dX3_draw_108 (by decide) (fun hc => ?_) (fun hc => ?_)
    · replace h := ifp hc h
      obtain ⟨w1, w2⟩ := inS h
      clear h
      subst w1
      subst w2
      obtain ⟨e8, e7⟩ := hR62 _ rfl
      subst e8
      subst e7
      exact g_sub [] rfl kE59
    · replace h := ifn hc h
      refine g_aload_n B 0 dX3_draw_111 rfl rfl ?_
      refine g_dup B dX3_draw_112 (rf_cat _) ?_
      replace h := bnP_s h
      obtain ⟨x70, h71, h⟩ := h
      refine g_getI B fl_RX3_24 (by decide) dX3_draw_113 h71 ?_
      refine g_aload_n B 0 dX3_draw_116 rfl rfl ?_
      refine g_aload_n B 1 dX3_draw_117 rfl rfl ?_
      refine g_iload B 3 dX3_draw_118 rfl ?_
      replace h := bnP_s h
      obtain ⟨x72, h73, h⟩ := h
      refine g_callVs0 (st := [.int x70, va_rf v0]) B (cX3_holdsc h73) (Nat.le_of_ble_eq_true rfl) rfl rfl mi_X3_holds lk_RX3_40 ⟨Nat.le_of_ble_eq_true rfl, Nat.le_of_ble_eq_true rfl⟩ rfl rfl (Nat.le_of_ble_eq_true rfl) dX3_draw_120 (Nat.zero_le _) (Nat.zero_le _) ?_
      replace h := bnP_s h
      obtain ⟨j74, h75, h⟩ := h
      have k77 : GW Δ Γ (0) (0) 131 [(0, va_rf v0), (1, va_rf v1), (2, va_rf v2), (4, .int q56)] [.int j74.2.2, .int j74.2.1, va_rf j74.1] s65 := by
        refine g_iadd B dX3_draw_131 ?_
        replace h := bnP_s h
        obtain ⟨s81, h80, h⟩ := h
        refine g_putI B fl_RX3_24 (by decide) dX3_draw_132 h80 ?_
        refine g_aload_n B 0 dX3_draw_135 rfl rfl ?_
        refine g_dup B dX3_draw_136 (rf_cat _) ?_
        replace h := bnP_s h
        obtain ⟨x82, h83, h⟩ := h
        refine g_getI B fl_RX3_24 (by decide) dX3_draw_137 h83 ?_
        refine g_aload_n B 0 dX3_draw_140 rfl rfl ?_
        replace h := bnP_s h
        obtain ⟨x84, h85, h⟩ := h
        refine g_getI B fl_RX3_15 (by decide) dX3_draw_141 h85 ?_
        replace h := bnP_s h
        obtain ⟨j86, h87, h⟩ := h
        have k89 : GW Δ Γ (0) (0) 158 [(0, va_rf v0), (1, va_rf v1), (2, va_rf v2), (4, .int q56)] [.int j86.2.2, .int j86.2.1, va_rf j86.1] s81 := by
          refine g_iadd B dX3_draw_158 ?_
          replace h := bnP_s h
          obtain ⟨s97, h96, h⟩ := h
          refine g_putI B fl_RX3_24 (by decide) dX3_draw_159 h96 ?_
          refine g_iinc (v := (q56 + 1)) B 3 dX3_draw_162 rfl (by first | rfl | (congr 1; decide)) (Nat.le_of_ble_eq_true rfl) (s1_c (f1_k rfl (f1_k rfl (f1_k rfl (f1_x f1_n))))) ?_
          refine g_goto B 97 dX3_draw_165 (by decide) ?_
          obtain ⟨w1, w2⟩ := inS h
          clear h
          subst w1
          subst w2
          exact g_sub [1, 2, 3, 0] rfl (hI61 _ rfl)
        clear h
        have h := h87
        clear h87
        refine g_if_ne B 157 dX3_draw_144 (by decide) (fun hc => ?_) (fun hc => ?_)
        · replace h := ifn hc h
          refine g_iconst (v := 0) B dX3_draw_157 (by decide) ?_
          replace h := Option.some.inj h
          subst h
          exact g_sub [0, 1, 2, 3] rfl k89
        · replace h := ifp hc h
          refine g_aload_n B 1 dX3_draw_147 rfl rfl ?_
          replace h := bnP_s h
          obtain ⟨x91, h92, h⟩ := h
          refine g_getRg B fl_RX3_44 (by decide) dX3_draw_148 h92 ?_
          refine g_iload B 3 dX3_draw_151 rfl ?_
          replace h := bnP_s h
          obtain ⟨x93, h94, h⟩ := h
          refine g_iald B dX3_draw_153 h94 ?_
          refine g_goto B 158 dX3_draw_154 (by decide) ?_
          replace h := Option.some.inj h
          subst h
          exact g_sub [0, 1, 2, 3] rfl k89
      clear h
      have h := h75
      clear h75
      refine g_if_eq B 130 dX3_draw_123 (by decide) (fun hc => ?_) (fun hc => ?_)
      · replace h := ifn (bI0 hc) h
        refine g_iconst (v := 0) B dX3_draw_130 (by decide) ?_
        replace h := Option.some.inj h
        subst h
        exact g_sub [0, 1, 2, 3] rfl k77
      · replace h := ifp (bI1 hc) h
        refine g_iconst (v := 1) B dX3_draw_126 (by decide) ?_
        refine g_goto B 131 dX3_draw_127 (by decide) ?_
        replace h := Option.some.inj h
        subst h
        exact g_sub [0, 1, 2, 3] rfl k77
  clear h
  refine g_sub [1, 2, 3, 0] rfl ?_
  refine lpS_w (I := fun q20 s29 => GW Δ Γ (0) (0) 34 [(0, va_rf v0), (1, va_rf v1), (2, va_rf v2), (4, .int q20)] [] s29) (r := r21) (σr := s53) ?_ FUEL x18 s17 h22
  intro q20 s29 x27 s9 h hI25 hR26
  unfold fX3_draw_l1 at h
  refine g_iload B 3 dX3_draw_34 rfl ?_
  refine g_aload_n B 2 dX3_draw_36 rfl rfl ?_
  replace h := bnP_s h
  obtain ⟨x30, h31, h⟩ := h
  refine g_getI B fl_RX3_32 (by decide) dX3_draw_37 h31 ?_
  refine g_aload_n B 2 dX3_draw_40 rfl rfl ?_
  replace h := bnP_s h
  obtain ⟨x32, h33, h⟩ := h
  refine g_getI B fl_RX3_33 (by decide) dX3_draw_41 h33 ?_
  refine g_iadd B dX3_draw_44 ?_
  refine g_icmp_ge B 91 dX3_draw_45 (by decide) (fun hc => ?_) (fun hc => ?_)
  · replace h := ifp hc h
    obtain ⟨w1, w2⟩ := inS h
    clear h
    subst w1
    subst w2
    obtain ⟨e8, e7⟩ := hR26 _ rfl
    subst e8
    subst e7
    exact g_sub [0, 1, 2] rfl kE23
  · replace h := ifn hc h
    refine g_aload_n B 1 dX3_draw_48 rfl rfl ?_
    replace h := bnP_s h
    obtain ⟨x34, h35, h⟩ := h
    refine g_getRg B fl_RX3_34 (by decide) dX3_draw_49 h35 ?_
    refine g_iload B 3 dX3_draw_52 rfl ?_
    replace h := bnP_s h
    obtain ⟨x36, h37, h⟩ := h
    refine g_zald B dX3_draw_54 h37 ?_
    refine g_if_ne B 85 dX3_draw_55 (by decide) (fun hc => ?_) (fun hc => ?_)
    · replace h := ifn hc h
      refine g_iinc (v := (q20 + 1)) B 3 dX3_draw_85 rfl (by first | rfl | (congr 1; decide)) (Nat.le_of_ble_eq_true rfl) (s1_c (f1_k rfl (f1_k rfl (f1_k rfl (f1_x f1_n))))) ?_
      refine g_goto B 34 dX3_draw_88 (by decide) ?_
      obtain ⟨w1, w2⟩ := inS h
      clear h
      subst w1
      subst w2
      exact g_sub [1, 2, 3, 0] rfl (hI25 _ rfl)
    · replace h := ifp hc h
      refine g_aload_n B 0 dX3_draw_58 rfl rfl ?_
      refine g_aload_n B 0 dX3_draw_59 rfl rfl ?_
      replace h := bnP_s h
      obtain ⟨x38, h39, h⟩ := h
      refine g_getI B fl_RX3_21 (by decide) dX3_draw_60 h39 ?_
      refine g_iconst (v := (-1)) B dX3_draw_63 (by decide) ?_
      replace h := bnP_s h
      obtain ⟨j40, h41, h⟩ := h
      have k43 : GW Δ Γ (0) (0) 76 [(0, va_rf v0), (1, va_rf v1), (2, va_rf v2), (4, .int q20)] [.int j40.2, va_rf j40.1] s29 := by
        replace h := bnP_s h
        obtain ⟨s49, h48, h⟩ := h
        refine g_putI B fl_RX3_18 (by decide) dX3_draw_76 h48 ?_
        refine g_aload_n B 0 dX3_draw_79 rfl rfl ?_
        refine g_iload B 3 dX3_draw_80 rfl ?_
        replace h := bnP_s h
        obtain ⟨s52, h51, h⟩ := h
        refine g_putI B fl_RX3_21 (by decide) dX3_draw_82 h51 ?_
        refine g_iinc (v := (q20 + 1)) B 3 dX3_draw_85 rfl (by first | rfl | (congr 1; decide)) (Nat.le_of_ble_eq_true rfl) (s1_c (f1_k rfl (f1_k rfl (f1_k rfl (f1_x f1_n))))) ?_
        refine g_goto B 34 dX3_draw_88 (by decide) ?_
        obtain ⟨w1, w2⟩ := inS h
        clear h
        subst w1
        subst w2
        exact g_sub [1, 2, 3, 0] rfl (hI25 _ rfl)
      clear h
      have h := h41
      clear h41
      refine g_icmp_ne B 72 dX3_draw_64 (by decide) (fun hc => ?_) (fun hc => ?_)
      · replace h := ifn hc h
        refine g_aload_n B 0 dX3_draw_72 rfl rfl ?_
        replace h := bnP_s h
        obtain ⟨x45, h46, h⟩ := h
        refine g_getI B fl_RX3_18 (by decide) dX3_draw_73 h46 ?_
        replace h := Option.some.inj h
        subst h
        exact g_sub [0, 1, 2, 3] rfl k43
      · replace h := ifp hc h
        refine g_iload B 3 dX3_draw_67 rfl ?_
        refine g_goto B 76 dX3_draw_69 (by decide) ?_
        replace h := Option.some.inj h
        subst h
        exact g_sub [0, 1, 2, 3] rfl k43
set_option maxRecDepth 100000 in
set_option maxHeartbeats 4000000 in
theorem cX1_copyReasonc {l : Launch} {v0 : Option Nat} {v1 : Int32} {v2 : Int32} {σ : HpT} {r : Int32} {σ' : HpT} (h : fX1_copyReason v0 v1 v2 σ = some (r, σ')) : IsK σ v0 1 ∧ Ct l yX1_copyReason cX1_copyReason 4 (some .int) 3 66 [va_rf v0, .int v1, .int v2] σ (.ok (some (.int r))) σ' 0 0 := by
  unfold fX1_copyReason at h
  replace h := bnP_s h
  obtain ⟨u, hk, h⟩ := h
  replace hk := isK_s hk
  refine ⟨hk, ?_⟩
  refine ct_start mi_X1_copyReason.1 rfl (al_le (al_1 (rf_cat _) (al_1 rfl (al_1 rfl al_n))) (Nat.le_of_ble_eq_true rfl)) (ag_1 (rf_cat _) (ag_1 rfl (ag_1 rfl ag_n))) (fun Δ Γ B hE hnm => ?_)
  refine g_iload_n B 1 dX1_copyReason_0 rfl rfl ?_
  refine g_iconst (v := 1) B dX1_copyReason_1 (by decide) ?_
  refine g_icmp_lt B 28 dX1_copyReason_2 (by decide) (fun hc => ?_) (fun hc => ?_)
  · replace h := ifp hc h
    refine g_iconst (v := 1) B dX1_copyReason_28 (by decide) ?_
    obtain ⟨w1, w2⟩ := inS h
    clear h
    subst w1
    subst w2
    exact g_iret B hE (Nat.zero_le _) (Nat.zero_le _) dX1_copyReason_29
  · replace h := ifn hc h
    refine g_iload_n B 1 dX1_copyReason_5 rfl rfl ?_
    refine g_aload_n B 0 dX1_copyReason_6 rfl rfl ?_
    replace h := bnP_s h
    obtain ⟨x1, h2, h⟩ := h
    refine g_getI B fl_RX1_55 (by decide) dX1_copyReason_7 h2 ?_
    refine g_icmp_gt B 28 dX1_copyReason_10 (by decide) (fun hc => ?_) (fun hc => ?_)
    · replace h := ifp hc h
      refine g_iconst (v := 1) B dX1_copyReason_28 (by decide) ?_
      obtain ⟨w1, w2⟩ := inS h
      clear h
      subst w1
      subst w2
      exact g_iret B hE (Nat.zero_le _) (Nat.zero_le _) dX1_copyReason_29
    · replace h := ifn hc h
      refine g_aload_n B 0 dX1_copyReason_13 rfl rfl ?_
      replace h := bnP_s h
      obtain ⟨x3, h4, h⟩ := h
      refine g_getR B fl_RX1_11 (by decide) dX1_copyReason_14 h4 ?_
      refine g_iload_n B 1 dX1_copyReason_17 rfl rfl ?_
      refine g_iconst (v := 1) B dX1_copyReason_18 (by decide) ?_
      refine g_isub B dX1_copyReason_19 ?_
      replace h := bnP_s h
      obtain ⟨x5, h6, h⟩ := h
      refine g_ralds B (κ := 25) (by decide) rfl dX1_copyReason_20 h6 ?_
      replace h := bnP_s h
      obtain ⟨x7, h8, h⟩ := h
      refine g_getI B fl_RX1_84 (by decide) dX1_copyReason_21 h8 ?_
      refine g_iconst (v := 1) B dX1_copyReason_24 (by decide) ?_
      refine g_icmp_eq B 30 dX1_copyReason_25 (by decide) (fun hc => ?_) (fun hc => ?_)
      · replace h := ifp hc h
        refine g_aload_n B 0 dX1_copyReason_30 rfl rfl ?_
        replace h := bnP_s h
        obtain ⟨x9, h10, h⟩ := h
        refine g_getR B fl_RX1_43 (by decide) dX1_copyReason_31 h10 ?_
        refine g_aload_n B 0 dX1_copyReason_34 rfl rfl ?_
        replace h := bnP_s h
        obtain ⟨x11, h12, h⟩ := h
        refine g_getR B fl_RX1_24 (by decide) dX1_copyReason_35 h12 ?_
        refine g_aload_n B 0 dX1_copyReason_38 rfl rfl ?_
        replace h := bnP_s h
        obtain ⟨x13, h14, h⟩ := h
        refine g_getR B fl_RX1_11 (by decide) dX1_copyReason_39 h14 ?_
        refine g_iload_n B 1 dX1_copyReason_42 rfl rfl ?_
        refine g_iconst (v := 1) B dX1_copyReason_43 (by decide) ?_
        refine g_isub B dX1_copyReason_44 ?_
        replace h := bnP_s h
        obtain ⟨x15, h16, h⟩ := h
        refine g_ralds B (κ := 25) (by decide) rfl dX1_copyReason_45 h16 ?_
        refine g_iload_n B 2 dX1_copyReason_46 rfl rfl ?_
        replace h := bnP_s h
        obtain ⟨s19, h18, h⟩ := h
        refine g_callVv0 (st := []) B (cX3_drawc h18) (Nat.le_of_ble_eq_true rfl) rfl rfl mi_X3_draw lk_RX1_156 ⟨Nat.le_of_ble_eq_true rfl, Nat.le_of_ble_eq_true rfl⟩ rfl rfl (Nat.le_of_ble_eq_true rfl) dX1_copyReason_47 (Nat.zero_le _) (Nat.zero_le _) ?_
        refine g_aload_n B 0 dX1_copyReason_50 rfl rfl ?_
        replace h := bnP_s h
        obtain ⟨x20, h21, h⟩ := h
        refine g_getR B fl_RX1_43 (by decide) dX1_copyReason_51 h21 ?_
        replace h := bnP_s h
        obtain ⟨x22, h23, h⟩ := h
        refine g_getI B fl_RX1_152 (by decide) dX1_copyReason_54 h23 ?_
        refine g_istore_n B dX1_copyReason_57 rfl (Nat.le_of_ble_eq_true rfl) (s1_c (f1_k rfl (f1_k rfl (f1_1 rfl rfl f1_n)))) ?_
        replace h := bnP_s h
        obtain ⟨r25, h26, h⟩ := h
        have kE27 : ∀ y45, r25 = .inl y45 → GW Δ Γ (0) (0) 100 [(0, va_rf v0)] [] s19 := by
          intro y45 er
          subst er
          dsimp only at h
          refine g_aload_n B 0 dX1_copyReason_100 rfl rfl ?_
          replace h := bnP_s h
          obtain ⟨x46, h47, h⟩ := h
          refine g_getI B fl_RX1_58 (by decide) dX1_copyReason_101 h47 ?_
          refine g_bipush (v := 8) B dX1_copyReason_104 (by decide) ?_
          refine g_icmp_lt B 113 dX1_copyReason_106 (by decide) (fun hc => ?_) (fun hc => ?_)
          · replace h := ifp hc h
            refine g_iconst (v := 0) B dX1_copyReason_113 (by decide) ?_
            obtain ⟨w1, w2⟩ := inS h
            clear h
            subst w1
            subst w2
            exact g_iret B hE (Nat.zero_le _) (Nat.zero_le _) dX1_copyReason_114
          · replace h := ifn hc h
            refine g_iconst (v := 3) B dX1_copyReason_109 (by decide) ?_
            refine g_goto B 114 dX1_copyReason_110 (by decide) ?_
            obtain ⟨w1, w2⟩ := inS h
            clear h
            subst w1
            subst w2
            exact g_iret B hE (Nat.zero_le _) (Nat.zero_le _) dX1_copyReason_114
        have kR28 : ∀ vv, r25 = .inr vv → En Δ Γ (.ok (some (.int vv))) s19 0 0 (some .int) ∧ 0 ≤ 0 ∧ 0 ≤ 0 := by
          intro vv er
          subst er
          dsimp only at h
          obtain ⟨w1, w2⟩ := inS h
          clear h
          subst w1
          subst w2
          exact ⟨hE, Nat.zero_le _, Nat.zero_le _⟩
        clear h
        refine g_sub [1, 0] rfl ?_
        refine lpP_w (I := fun q24 => GW Δ Γ (0) (0) 58 [(0, va_rf v0), (3, .int q24)] [] s19) (r := r25) ?_ FUEL x22 h26
        intro q24 x31 h hI29 hR30
        unfold fX1_copyReason_l1 at h
        refine g_iload_n B 1 dX1_copyReason_58 rfl rfl ?_
        refine g_aload_n B 0 dX1_copyReason_59 rfl rfl ?_
        replace h := bnP_s h
        obtain ⟨x33, h34, h⟩ := h
        refine g_getR B fl_RX1_43 (by decide) dX1_copyReason_60 h34 ?_
        replace h := bnP_s h
        obtain ⟨x35, h36, h⟩ := h
        refine g_getI B fl_RX1_153 (by decide) dX1_copyReason_63 h36 ?_
        refine g_icmp_gt B 100 dX1_copyReason_66 (by decide) (fun hc => ?_) (fun hc => ?_)
        · replace h := ifp hc h
          replace h := Option.some.inj h
          subst h
          have e8 := hR30 _ rfl
          subst e8
          exact g_sub [0] rfl (kE27 _ rfl)
        · replace h := ifn hc h
          refine g_aload_n B 0 dX1_copyReason_69 rfl rfl ?_
          replace h := bnP_s h
          obtain ⟨x37, h38, h⟩ := h
          refine g_getR B fl_RX1_43 (by decide) dX1_copyReason_70 h38 ?_
          refine g_aload_n B 0 dX1_copyReason_73 rfl rfl ?_
          replace h := bnP_s h
          obtain ⟨x39, h40, h⟩ := h
          refine g_getR B fl_RX1_24 (by decide) dX1_copyReason_74 h40 ?_
          refine g_iload_n B 1 dX1_copyReason_77 rfl rfl ?_
          replace h := bnP_s h
          obtain ⟨x41, h42, h⟩ := h
          refine g_callVs0 (st := []) B (cX3_holdsc h42) (Nat.le_of_ble_eq_true rfl) rfl rfl mi_X3_holds lk_RX1_132 ⟨Nat.le_of_ble_eq_true rfl, Nat.le_of_ble_eq_true rfl⟩ rfl rfl (Nat.le_of_ble_eq_true rfl) dX1_copyReason_78 (Nat.zero_le _) (Nat.zero_le _) ?_
          refine g_if_eq B 94 dX1_copyReason_81 (by decide) (fun hc => ?_) (fun hc => ?_)
          · replace h := ifn (bI0 hc) h
            refine g_iinc (v := (q24 + 1)) B 1 dX1_copyReason_94 rfl (by first | rfl | (congr 1; decide)) (Nat.le_of_ble_eq_true rfl) (s1_c (f1_k rfl (f1_x f1_n))) ?_
            refine g_goto B 58 dX1_copyReason_97 (by decide) ?_
            replace h := Option.some.inj h
            subst h
            exact g_sub [1, 0] rfl (hI29 _ rfl)
          · replace h := ifp (bI1 hc) h
            refine g_aload_n B 0 dX1_copyReason_84 rfl rfl ?_
            refine g_iload_n B 1 dX1_copyReason_85 rfl rfl ?_
            replace h := bnP_s h
            obtain ⟨x43, h44, h⟩ := h
            refine g_callVs0 (st := []) B (cX1_isKnownc h44) (Nat.le_of_ble_eq_true rfl) rfl rfl mi_X1_isKnown lk_RX1_143 ⟨Nat.le_of_ble_eq_true rfl, Nat.le_of_ble_eq_true rfl⟩ rfl rfl (Nat.le_of_ble_eq_true rfl) dX1_copyReason_86 (Nat.zero_le _) (Nat.zero_le _) ?_
            refine g_if_ne B 94 dX1_copyReason_89 (by decide) (fun hc => ?_) (fun hc => ?_)
            · replace h := ifp (bI1 hc) h
              refine g_iinc (v := (q24 + 1)) B 1 dX1_copyReason_94 rfl (by first | rfl | (congr 1; decide)) (Nat.le_of_ble_eq_true rfl) (s1_c (f1_k rfl (f1_x f1_n))) ?_
              refine g_goto B 58 dX1_copyReason_97 (by decide) ?_
              replace h := Option.some.inj h
              subst h
              exact g_sub [1, 0] rfl (hI29 _ rfl)
            · replace h := ifn (bI0 hc) h
              refine g_iconst (v := 2) B dX1_copyReason_92 (by decide) ?_
              replace h := Option.some.inj h
              subst h
              have e8 := hR30 _ rfl
              obtain ⟨hE, hc9, hs9⟩ := kR28 _ e8.symm
              exact g_iret B hE hc9 hs9 dX1_copyReason_93
      · replace h := ifn hc h
        refine g_iconst (v := 1) B dX1_copyReason_28 (by decide) ?_
        obtain ⟨w1, w2⟩ := inS h
        clear h
        subst w1
        subst w2
        exact g_iret B hE (Nat.zero_le _) (Nat.zero_le _) dX1_copyReason_29
set_option maxRecDepth 100000 in
set_option maxHeartbeats 4000000 in
theorem cX3_feec {l : Launch} {v0 : Option Nat} {σ : HpT} {r : Int32} (h : fX3_fee v0 σ = some r) : IsK σ v0 3 ∧ Ct l yX3_fee cX3_fee 1 (some .int) 0 0 [va_rf v0] σ (.ok (some (.int r))) σ 0 0 := by
  unfold fX3_fee at h
  replace h := bnP_s h
  obtain ⟨u, hk, h⟩ := h
  replace hk := isK_s hk
  refine ⟨hk, ?_⟩
  refine ct_start mi_X3_fee.1 rfl (al_le (al_1 (rf_cat _) al_n) (Nat.le_of_ble_eq_true rfl)) (ag_1 (rf_cat _) ag_n) (fun Δ Γ B hE hnm => ?_)
  refine g_iconst (v := 3) B dX3_fee_0 (by decide) ?_
  refine g_aload_n B 0 dX3_fee_1 rfl rfl ?_
  replace h := bnP_s h
  obtain ⟨x1, h2, h⟩ := h
  refine g_getI B fl_RX3_15 (by decide) dX3_fee_2 h2 ?_
  refine g_isub B dX3_fee_5 ?_
  replace h := Option.some.inj h
  subst h
  exact g_iret B hE (Nat.zero_le _) (Nat.zero_le _) dX3_fee_6
set_option maxRecDepth 100000 in
set_option maxHeartbeats 4000000 in
theorem cX1_makeCopyc {l : Launch} {v0 : Option Nat} {v1 : Int32} {v2 : Int32} {σ : HpT} {σ' : HpT} (h : fX1_makeCopy v0 v1 v2 σ = some σ') : IsK σ v0 1 ∧ Ct l yX1_makeCopy cX1_makeCopy 3 none 2 46 [va_rf v0, .int v1, .int v2] σ (.ok none) σ' 0 0 := by
  unfold fX1_makeCopy at h
  replace h := bnP_s h
  obtain ⟨u, hk, h⟩ := h
  replace hk := isK_s hk
  refine ⟨hk, ?_⟩
  refine ct_start mi_X1_makeCopy.1 rfl (al_le (al_1 (rf_cat _) (al_1 rfl (al_1 rfl al_n))) (Nat.le_of_ble_eq_true rfl)) (ag_1 (rf_cat _) (ag_1 rfl (ag_1 rfl ag_n))) (fun Δ Γ B hE hnm => ?_)
  refine g_aload_n B 0 dX1_makeCopy_0 rfl rfl ?_
  replace h := bnP_s h
  obtain ⟨x1, h2, h⟩ := h
  refine g_getI B fl_RX1_58 (by decide) dX1_makeCopy_1 h2 ?_
  refine g_bipush (v := 8) B dX1_makeCopy_4 (by decide) ?_
  refine g_icmp_ge B 78 dX1_makeCopy_6 (by decide) (fun hc => ?_) (fun hc => ?_)
  · replace h := ifp hc h
    replace h := Option.some.inj h
    subst h
    exact g_vret B hE (Nat.zero_le _) (Nat.zero_le _) dX1_makeCopy_78
  · replace h := ifn hc h
    refine g_iload_n B 1 dX1_makeCopy_9 rfl rfl ?_
    refine g_iconst (v := 1) B dX1_makeCopy_10 (by decide) ?_
    refine g_icmp_lt B 78 dX1_makeCopy_11 (by decide) (fun hc => ?_) (fun hc => ?_)
    · replace h := ifp hc h
      replace h := Option.some.inj h
      subst h
      exact g_vret B hE (Nat.zero_le _) (Nat.zero_le _) dX1_makeCopy_78
    · replace h := ifn hc h
      refine g_iload_n B 1 dX1_makeCopy_14 rfl rfl ?_
      refine g_aload_n B 0 dX1_makeCopy_15 rfl rfl ?_
      replace h := bnP_s h
      obtain ⟨x3, h4, h⟩ := h
      refine g_getI B fl_RX1_55 (by decide) dX1_makeCopy_16 h4 ?_
      refine g_icmp_gt B 78 dX1_makeCopy_19 (by decide) (fun hc => ?_) (fun hc => ?_)
      · replace h := ifp hc h
        replace h := Option.some.inj h
        subst h
        exact g_vret B hE (Nat.zero_le _) (Nat.zero_le _) dX1_makeCopy_78
      · replace h := ifn hc h
        refine g_aload_n B 0 dX1_makeCopy_22 rfl rfl ?_
        replace h := bnP_s h
        obtain ⟨x5, h6, h⟩ := h
        refine g_getR B fl_RX1_17 (by decide) dX1_makeCopy_23 h6 ?_
        refine g_aload_n B 0 dX1_makeCopy_26 rfl rfl ?_
        replace h := bnP_s h
        obtain ⟨x7, h8, h⟩ := h
        refine g_getI B fl_RX1_58 (by decide) dX1_makeCopy_27 h8 ?_
        replace h := bnP_s h
        obtain ⟨x9, h10, h⟩ := h
        refine g_ralds B (κ := 26) (by decide) rfl dX1_makeCopy_30 h10 ?_
        refine g_aload_n B 0 dX1_makeCopy_31 rfl rfl ?_
        replace h := bnP_s h
        obtain ⟨x11, h12, h⟩ := h
        refine g_getR B fl_RX1_24 (by decide) dX1_makeCopy_32 h12 ?_
        refine g_aload_n B 0 dX1_makeCopy_35 rfl rfl ?_
        replace h := bnP_s h
        obtain ⟨x13, h14, h⟩ := h
        refine g_getR B fl_RX1_11 (by decide) dX1_makeCopy_36 h14 ?_
        refine g_iload_n B 1 dX1_makeCopy_39 rfl rfl ?_
        refine g_iconst (v := 1) B dX1_makeCopy_40 (by decide) ?_
        refine g_isub B dX1_makeCopy_41 ?_
        replace h := bnP_s h
        obtain ⟨x15, h16, h⟩ := h
        refine g_ralds B (κ := 25) (by decide) rfl dX1_makeCopy_42 h16 ?_
        refine g_iload_n B 2 dX1_makeCopy_43 rfl rfl ?_
        replace h := bnP_s h
        obtain ⟨s19, h18, h⟩ := h
        refine g_callVv0 (st := []) B (cX3_drawc h18) (Nat.le_of_ble_eq_true rfl) rfl rfl mi_X3_draw lk_RX1_156 ⟨Nat.le_of_ble_eq_true rfl, Nat.le_of_ble_eq_true rfl⟩ rfl rfl (Nat.le_of_ble_eq_true rfl) dX1_makeCopy_44 (Nat.zero_le _) (Nat.zero_le _) ?_
        refine g_aload_n B 0 dX1_makeCopy_47 rfl rfl ?_
        refine g_dup B dX1_makeCopy_48 (rf_cat _) ?_
        replace h := bnP_s h
        obtain ⟨x20, h21, h⟩ := h
        refine g_getI B fl_RX1_61 (by decide) dX1_makeCopy_49 h21 ?_
        refine g_aload_n B 0 dX1_makeCopy_52 rfl rfl ?_
        replace h := bnP_s h
        obtain ⟨x22, h23, h⟩ := h
        refine g_getR B fl_RX1_17 (by decide) dX1_makeCopy_53 h23 ?_
        refine g_aload_n B 0 dX1_makeCopy_56 rfl rfl ?_
        replace h := bnP_s h
        obtain ⟨x24, h25, h⟩ := h
        refine g_getI B fl_RX1_58 (by decide) dX1_makeCopy_57 h25 ?_
        replace h := bnP_s h
        obtain ⟨x26, h27, h⟩ := h
        refine g_ralds B (κ := 26) (by decide) rfl dX1_makeCopy_60 h27 ?_
        replace h := bnP_s h
        obtain ⟨x28, h29, h⟩ := h
        refine g_callVs0 (st := [.int x20, va_rf v0]) B (cX3_feec h29) (Nat.le_of_ble_eq_true rfl) rfl rfl mi_X3_fee lk_RX1_160 ⟨Nat.le_of_ble_eq_true rfl, Nat.le_of_ble_eq_true rfl⟩ rfl rfl (Nat.le_of_ble_eq_true rfl) dX1_makeCopy_61 (Nat.zero_le _) (Nat.zero_le _) ?_
        refine g_iadd B dX1_makeCopy_64 ?_
        replace h := bnP_s h
        obtain ⟨s32, h31, h⟩ := h
        refine g_putI B fl_RX1_61 (by decide) dX1_makeCopy_65 h31 ?_
        refine g_aload_n B 0 dX1_makeCopy_68 rfl rfl ?_
        refine g_dup B dX1_makeCopy_69 (rf_cat _) ?_
        replace h := bnP_s h
        obtain ⟨x33, h34, h⟩ := h
        refine g_getI B fl_RX1_58 (by decide) dX1_makeCopy_70 h34 ?_
        refine g_iconst (v := 1) B dX1_makeCopy_73 (by decide) ?_
        refine g_iadd B dX1_makeCopy_74 ?_
        replace h := bnP_s h
        obtain ⟨s37, h36, h⟩ := h
        refine g_putI B fl_RX1_58 (by decide) dX1_makeCopy_75 h36 ?_
        replace h := Option.some.inj h
        subst h
        exact g_vret B hE (Nat.zero_le _) (Nat.zero_le _) dX1_makeCopy_78
set_option maxRecDepth 100000 in
set_option maxHeartbeats 4000000 in
theorem cX4_fastenc {l : Launch} {v0 : Option Nat} {v1 : Int32} {σ : HpT} {σ' : HpT} (h : fX4_fasten v0 v1 σ = some σ') : IsK σ v0 4 ∧ Ct l yX4_fasten cX4_fasten 2 none 1 21 [va_rf v0, .int v1] σ (.ok none) σ' 0 0 := by
  unfold fX4_fasten at h
  replace h := bnP_s h
  obtain ⟨u, hk, h⟩ := h
  replace hk := isK_s hk
  refine ⟨hk, ?_⟩
  refine ct_start mi_X4_fasten.1 rfl (al_le (al_1 (rf_cat _) (al_1 rfl al_n)) (Nat.le_of_ble_eq_true rfl)) (ag_1 (rf_cat _) (ag_1 rfl ag_n)) (fun Δ Γ B hE hnm => ?_)
  refine g_aload_n B 0 dX4_fasten_0 rfl rfl ?_
  refine g_iload_n B 1 dX4_fasten_1 rfl rfl ?_
  replace h := bnP_s h
  obtain ⟨x1, h2, h⟩ := h
  refine g_callVs0 (st := []) B (cX4_isTherec h2) (Nat.le_of_ble_eq_true rfl) rfl rfl mi_X4_isThere lk_RX4_32 ⟨Nat.le_of_ble_eq_true rfl, Nat.le_of_ble_eq_true rfl⟩ rfl rfl (Nat.le_of_ble_eq_true rfl) dX4_fasten_2 (Nat.zero_le _) (Nat.zero_le _) ?_
  refine g_if_eq B 15 dX4_fasten_5 (by decide) (fun hc => ?_) (fun hc => ?_)
  · replace h := ifn (bI0 hc) h
    replace h := Option.some.inj h
    subst h
    exact g_vret B hE (Nat.zero_le _) (Nat.zero_le _) dX4_fasten_15
  · replace h := ifp (bI1 hc) h
    refine g_aload_n B 0 dX4_fasten_8 rfl rfl ?_
    replace h := bnP_s h
    obtain ⟨x3, h4, h⟩ := h
    refine g_getR B fl_RX4_11 (by decide) dX4_fasten_9 h4 ?_
    refine g_iload_n B 1 dX4_fasten_12 rfl rfl ?_
    refine g_iconst (v := 0) B dX4_fasten_13 (by decide) ?_
    replace h := bnP_s h
    obtain ⟨s7, h6, h⟩ := h
    refine g_iast B dX4_fasten_14 h6 ?_
    replace h := Option.some.inj h
    subst h
    exact g_vret B hE (Nat.zero_le _) (Nat.zero_le _) dX4_fasten_15
set_option maxRecDepth 100000 in
set_option maxHeartbeats 4000000 in
theorem cX4_gatheringOfc {l : Launch} {v0 : Option Nat} {v1 : Int32} {σ : HpT} {r : Int32} (h : fX4_gatheringOf v0 v1 σ = some r) : IsK σ v0 4 ∧ Ct l yX4_gatheringOf cX4_gatheringOf 2 (some .int) 0 0 [va_rf v0, .int v1] σ (.ok (some (.int r))) σ 0 0 := by
  unfold fX4_gatheringOf at h
  replace h := bnP_s h
  obtain ⟨u, hk, h⟩ := h
  replace hk := isK_s hk
  refine ⟨hk, ?_⟩
  refine ct_start mi_X4_gatheringOf.1 rfl (al_le (al_1 (rf_cat _) (al_1 rfl al_n)) (Nat.le_of_ble_eq_true rfl)) (ag_1 (rf_cat _) (ag_1 rfl ag_n)) (fun Δ Γ B hE hnm => ?_)
  refine g_aload_n B 0 dX4_gatheringOf_0 rfl rfl ?_
  replace h := bnP_s h
  obtain ⟨x1, h2, h⟩ := h
  refine g_getI B fl_RX4_19 (by decide) dX4_gatheringOf_1 h2 ?_
  refine g_if_le B 16 dX4_gatheringOf_4 (by decide) (fun hc => ?_) (fun hc => ?_)
  · replace h := ifp hc h
    refine g_iconst (v := 0) B dX4_gatheringOf_16 (by decide) ?_
    replace h := Option.some.inj h
    subst h
    exact g_iret B hE (Nat.zero_le _) (Nat.zero_le _) dX4_gatheringOf_17
  · replace h := ifn hc h
    refine g_iload_n B 1 dX4_gatheringOf_7 rfl rfl ?_
    refine g_aload_n B 0 dX4_gatheringOf_8 rfl rfl ?_
    replace h := bnP_s h
    obtain ⟨x3, h4, h⟩ := h
    refine g_getI B fl_RX4_19 (by decide) dX4_gatheringOf_9 h4 ?_
    replace h := bnP_s h
    obtain ⟨u5, h6, h⟩ := h
    refine g_idiv B dX4_gatheringOf_12 (nz_s h6) ?_
    refine g_goto B 17 dX4_gatheringOf_13 (by decide) ?_
    replace h := Option.some.inj h
    subst h
    exact g_iret B hE (Nat.zero_le _) (Nat.zero_le _) dX4_gatheringOf_17
set_option maxRecDepth 100000 in
set_option maxHeartbeats 4000000 in
theorem cX4_mateOfc {l : Launch} {v0 : Option Nat} {v1 : Int32} {σ : HpT} {r : Int32} (h : fX4_mateOf v0 v1 σ = some r) : IsK σ v0 4 ∧ Ct l yX4_mateOf cX4_mateOf 4 (some .int) 1 21 [va_rf v0, .int v1] σ (.ok (some (.int r))) σ 0 0 := by
  unfold fX4_mateOf at h
  replace h := bnP_s h
  obtain ⟨u, hk, h⟩ := h
  replace hk := isK_s hk
  refine ⟨hk, ?_⟩
  refine ct_start mi_X4_mateOf.1 rfl (al_le (al_1 (rf_cat _) (al_1 rfl al_n)) (Nat.le_of_ble_eq_true rfl)) (ag_1 (rf_cat _) (ag_1 rfl ag_n)) (fun Δ Γ B hE hnm => ?_)
  refine g_aload_n B 0 dX4_mateOf_0 rfl rfl ?_
  refine g_iload_n B 1 dX4_mateOf_1 rfl rfl ?_
  replace h := bnP_s h
  obtain ⟨x1, h2, h⟩ := h
  refine g_callVs0 (st := []) B (cX4_gatheringOfc h2) (Nat.le_of_ble_eq_true rfl) rfl rfl mi_X4_gatheringOf lk_RX4_36 ⟨Nat.le_of_ble_eq_true rfl, Nat.le_of_ble_eq_true rfl⟩ rfl rfl (Nat.le_of_ble_eq_true rfl) dX4_mateOf_2 (Nat.zero_le _) (Nat.zero_le _) ?_
  refine g_aload_n B 0 dX4_mateOf_5 rfl rfl ?_
  replace h := bnP_s h
  obtain ⟨x3, h4, h⟩ := h
  refine g_getI B fl_RX4_19 (by decide) dX4_mateOf_6 h4 ?_
  refine g_imul B dX4_mateOf_9 ?_
  refine g_istore_n B dX4_mateOf_10 rfl (Nat.le_of_ble_eq_true rfl) (s1_c (f1_k rfl (f1_1 rfl rfl f1_n))) ?_
  refine g_iload_n B 0 dX4_mateOf_11 rfl rfl ?_
  refine g_aload_n B 1 dX4_mateOf_12 rfl rfl ?_
  replace h := bnP_s h
  obtain ⟨x5, h6, h⟩ := h
  refine g_getI B fl_RX4_19 (by decide) dX4_mateOf_13 h6 ?_
  refine g_iadd B dX4_mateOf_16 ?_
  refine g_iconst (v := 1) B dX4_mateOf_17 (by decide) ?_
  refine g_isub B dX4_mateOf_18 ?_
  refine g_iload_n B 2 dX4_mateOf_19 rfl rfl ?_
  refine g_iload_n B 0 dX4_mateOf_20 rfl rfl ?_
  refine g_isub B dX4_mateOf_21 ?_
  refine g_isub B dX4_mateOf_22 ?_
  refine g_istore_n B dX4_mateOf_23 rfl (Nat.le_of_ble_eq_true rfl) (s1_c (f1_1 rfl rfl (f1_k rfl (f1_k rfl f1_n)))) ?_
  refine g_iload_n B 0 dX4_mateOf_24 rfl rfl ?_
  refine g_iload_n B 3 dX4_mateOf_25 rfl rfl ?_
  refine g_icmp_eq B 41 dX4_mateOf_26 (by decide) (fun hc => ?_) (fun hc => ?_)
  · replace h := ifp hc h
    refine g_iconst (v := (-1)) B dX4_mateOf_41 (by decide) ?_
    replace h := Option.some.inj h
    subst h
    exact g_iret B hE (Nat.zero_le _) (Nat.zero_le _) dX4_mateOf_42
  · replace h := ifn hc h
    refine g_aload_n B 2 dX4_mateOf_29 rfl rfl ?_
    refine g_iload_n B 0 dX4_mateOf_30 rfl rfl ?_
    replace h := bnP_s h
    obtain ⟨x7, h8, h⟩ := h
    refine g_callVs0 (st := []) B (cX4_isTherec h8) (Nat.le_of_ble_eq_true rfl) rfl rfl mi_X4_isThere lk_RX4_32 ⟨Nat.le_of_ble_eq_true rfl, Nat.le_of_ble_eq_true rfl⟩ rfl rfl (Nat.le_of_ble_eq_true rfl) dX4_mateOf_31 (Nat.zero_le _) (Nat.zero_le _) ?_
    refine g_if_eq B 41 dX4_mateOf_34 (by decide) (fun hc => ?_) (fun hc => ?_)
    · replace h := ifn (bI0 hc) h
      refine g_iconst (v := (-1)) B dX4_mateOf_41 (by decide) ?_
      replace h := Option.some.inj h
      subst h
      exact g_iret B hE (Nat.zero_le _) (Nat.zero_le _) dX4_mateOf_42
    · replace h := ifp (bI1 hc) h
      refine g_iload_n B 0 dX4_mateOf_37 rfl rfl ?_
      refine g_goto B 42 dX4_mateOf_38 (by decide) ?_
      replace h := Option.some.inj h
      subst h
      exact g_iret B hE (Nat.zero_le _) (Nat.zero_le _) dX4_mateOf_42
set_option maxRecDepth 100000 in
set_option maxHeartbeats 4000000 in
theorem cX4_extendToc {l : Launch} {v0 : Option Nat} {v1 : Int32} {σ : HpT} {σ' : HpT} (h : fX4_extendTo v0 v1 σ = some σ') : IsK σ v0 4 ∧ Ct l yX4_extendTo cX4_extendTo 3 none 2 44 [va_rf v0, .int v1] σ (.ok none) σ' 0 0 := by
  unfold fX4_extendTo at h
  replace h := bnP_s h
  obtain ⟨u, hk, h⟩ := h
  replace hk := isK_s hk
  refine ⟨hk, ?_⟩
  refine ct_start mi_X4_extendTo.1 rfl (al_le (al_1 (rf_cat _) (al_1 rfl al_n)) (Nat.le_of_ble_eq_true rfl)) (ag_1 (rf_cat _) (ag_1 rfl ag_n)) (fun Δ Γ B hE hnm => ?_)
  replace h := bnS_s h
  obtain ⟨r2, s38, h3, h⟩ := h
  have kE4 : GW Δ Γ (0) (0) 65 [] [] s38 := by
    replace h := Option.some.inj h
    subst h
    exact g_vret B hE (Nat.zero_le _) (Nat.zero_le _) dX4_extendTo_65
  clear h
  refine g_sub [0, 1] rfl ?_
  refine lpS_w (I := fun q1 s10 => GW Δ Γ (0) (0) 0 [(0, va_rf v0), (1, .int v1)] [] s10) (r := r2) (σr := s38) ?_ FUEL () σ h3
  intro q1 s10 x8 s9 h hI6 hR7
  unfold fX4_extendTo_l1 at h
  refine g_aload_n B 0 dX4_extendTo_0 rfl rfl ?_
  replace h := bnP_s h
  obtain ⟨x11, h12, h⟩ := h
  refine g_getI B fl_RX4_23 (by decide) dX4_extendTo_1 h12 ?_
  refine g_iload_n B 1 dX4_extendTo_4 rfl rfl ?_
  refine g_icmp_ge B 65 dX4_extendTo_5 (by decide) (fun hc => ?_) (fun hc => ?_)
  · replace h := ifp hc h
    obtain ⟨w1, w2⟩ := inS h
    clear h
    subst w1
    subst w2
    obtain ⟨e8, e7⟩ := hR7 _ rfl
    subst e8
    subst e7
    exact g_sub [] rfl kE4
  · replace h := ifn hc h
    refine g_aload_n B 0 dX4_extendTo_8 rfl rfl ?_
    replace h := bnP_s h
    obtain ⟨x13, h14, h⟩ := h
    refine g_getI B fl_RX4_23 (by decide) dX4_extendTo_9 h14 ?_
    refine g_bipush (v := 12) B dX4_extendTo_12 (by decide) ?_
    refine g_icmp_ge B 65 dX4_extendTo_14 (by decide) (fun hc => ?_) (fun hc => ?_)
    · replace h := ifp hc h
      obtain ⟨w1, w2⟩ := inS h
      clear h
      subst w1
      subst w2
      obtain ⟨e8, e7⟩ := hR7 _ rfl
      subst e8
      subst e7
      exact g_sub [] rfl kE4
    · replace h := ifn hc h
      refine g_aload_n B 0 dX4_extendTo_17 rfl rfl ?_
      refine g_dup B dX4_extendTo_18 (rf_cat _) ?_
      replace h := bnP_s h
      obtain ⟨x15, h16, h⟩ := h
      refine g_getI B fl_RX4_23 (by decide) dX4_extendTo_19 h16 ?_
      refine g_iconst (v := 1) B dX4_extendTo_22 (by decide) ?_
      refine g_iadd B dX4_extendTo_23 ?_
      replace h := bnP_s h
      obtain ⟨s19, h18, h⟩ := h
      refine g_putI B fl_RX4_23 (by decide) dX4_extendTo_24 h18 ?_
      refine g_aload_n B 0 dX4_extendTo_27 rfl rfl ?_
      refine g_aload_n B 0 dX4_extendTo_28 rfl rfl ?_
      refine g_aload_n B 0 dX4_extendTo_29 rfl rfl ?_
      replace h := bnP_s h
      obtain ⟨x20, h21, h⟩ := h
      refine g_getI B fl_RX4_23 (by decide) dX4_extendTo_30 h21 ?_
      refine g_iconst (v := 1) B dX4_extendTo_33 (by decide) ?_
      refine g_isub B dX4_extendTo_34 ?_
      replace h := bnP_s h
      obtain ⟨x22, h23, h⟩ := h
      refine g_callVs0 (st := [va_rf v0]) B (cX4_mateOfc h23) (Nat.le_of_ble_eq_true rfl) rfl rfl mi_X4_mateOf lk_RX4_44 ⟨Nat.le_of_ble_eq_true rfl, Nat.le_of_ble_eq_true rfl⟩ rfl rfl (Nat.le_of_ble_eq_true rfl) dX4_extendTo_35 (Nat.zero_le _) (Nat.zero_le _) ?_
      replace h := bnP_s h
      obtain ⟨x24, h25, h⟩ := h
      refine g_callVs0 (st := []) B (cX4_isLostc h25) (Nat.le_of_ble_eq_true rfl) rfl rfl mi_X4_isLost lk_RX4_53 ⟨Nat.le_of_ble_eq_true rfl, Nat.le_of_ble_eq_true rfl⟩ rfl rfl (Nat.le_of_ble_eq_true rfl) dX4_extendTo_38 (Nat.zero_le _) (Nat.zero_le _) ?_
      refine g_istore_n B dX4_extendTo_41 rfl (Nat.le_of_ble_eq_true rfl) (s1_c (f1_k rfl (f1_1 rfl rfl f1_n))) ?_
      refine g_aload_n B 1 dX4_extendTo_42 rfl rfl ?_
      replace h := bnP_s h
      obtain ⟨x26, h27, h⟩ := h
      refine g_getR B fl_RX4_11 (by decide) dX4_extendTo_43 h27 ?_
      refine g_aload_n B 1 dX4_extendTo_46 rfl rfl ?_
      replace h := bnP_s h
      obtain ⟨x28, h29, h⟩ := h
      refine g_getI B fl_RX4_23 (by decide) dX4_extendTo_47 h29 ?_
      refine g_iconst (v := 1) B dX4_extendTo_50 (by decide) ?_
      refine g_isub B dX4_extendTo_51 ?_
      refine g_iload_n B 0 dX4_extendTo_52 rfl rfl ?_
      replace h := bnP_s h
      obtain ⟨j30, h31, h⟩ := h
      have k33 : GW Δ Γ (0) (0) 61 [(0, va_rf v0), (1, .int v1)] [.int j30.2.2, .int j30.2.1, va_rf j30.1] s19 := by
        replace h := bnP_s h
        obtain ⟨s37, h36, h⟩ := h
        refine g_iast B dX4_extendTo_61 h36 ?_
        refine g_goto B 0 dX4_extendTo_62 (by decide) ?_
        obtain ⟨w1, w2⟩ := inS h
        clear h
        subst w1
        subst w2
        exact g_sub [0, 1] rfl (hI6 _ rfl)
      clear h
      have h := h31
      clear h31
      refine g_if_eq B 60 dX4_extendTo_53 (by decide) (fun hc => ?_) (fun hc => ?_)
      · replace h := ifn (bI0 hc) h
        refine g_iconst (v := 0) B dX4_extendTo_60 (by decide) ?_
        replace h := Option.some.inj h
        subst h
        exact g_sub [1, 2] rfl k33
      · replace h := ifp (bI1 hc) h
        refine g_iconst (v := 1) B dX4_extendTo_56 (by decide) ?_
        refine g_goto B 61 dX4_extendTo_57 (by decide) ?_
        replace h := Option.some.inj h
        subst h
        exact g_sub [1, 2] rfl k33
set_option maxRecDepth 100000 in
set_option maxHeartbeats 4000000 in
theorem cX1_beginActc {l : Launch} {v0 : Option Nat} {v1 : Int32} {v2 : Int32} {σ : HpT} {σ' : HpT} (h : fX1_beginAct v0 v1 v2 σ = some σ') : IsK σ v0 1 ∧ Ct l yX1_beginAct cX1_beginAct 4 none 3 66 [va_rf v0, .int v1, .int v2] σ (.ok none) σ' 0 0 := by
  unfold fX1_beginAct at h
  replace h := bnP_s h
  obtain ⟨u, hk, h⟩ := h
  replace hk := isK_s hk
  refine ⟨hk, ?_⟩
  refine ct_start mi_X1_beginAct.1 rfl (al_le (al_1 (rf_cat _) (al_1 rfl (al_1 rfl al_n))) (Nat.le_of_ble_eq_true rfl)) (ag_1 (rf_cat _) (ag_1 rfl (ag_1 rfl ag_n))) (fun Δ Γ B hE hnm => ?_)
  refine g_aload_n B 0 dX1_beginAct_0 rfl rfl ?_
  replace h := bnP_s h
  obtain ⟨x1, h2, h⟩ := h
  refine g_getI B fl_RX1_55 (by decide) dX1_beginAct_1 h2 ?_
  refine g_bipush (v := 10) B dX1_beginAct_4 (by decide) ?_
  refine g_icmp_ge B 25 dX1_beginAct_6 (by decide) (fun hc => ?_) (fun hc => ?_)
  · replace h := ifp hc h
    replace h := Option.some.inj h
    subst h
    exact g_vret B hE (Nat.zero_le _) (Nat.zero_le _) dX1_beginAct_25
  · replace h := ifn hc h
    refine g_aload_n B 0 dX1_beginAct_9 rfl rfl ?_
    replace h := bnP_s h
    obtain ⟨x3, h4, h⟩ := h
    refine g_getR B fl_RX1_24 (by decide) dX1_beginAct_10 h4 ?_
    replace h := bnP_s h
    obtain ⟨x5, h6, h⟩ := h
    refine g_getI B fl_RX1_80 (by decide) dX1_beginAct_13 h6 ?_
    refine g_iload_n B 2 dX1_beginAct_16 rfl rfl ?_
    refine g_iadd B dX1_beginAct_17 ?_
    refine g_aload_n B 0 dX1_beginAct_18 rfl rfl ?_
    replace h := bnP_s h
    obtain ⟨x7, h8, h⟩ := h
    refine g_callVs0 (st := [.int (x5 + v2)]) B (cX1_mostWordsc h8) (Nat.le_of_ble_eq_true rfl) rfl rfl mi_X1_mostWords lk_RX1_164 ⟨Nat.le_of_ble_eq_true rfl, Nat.le_of_ble_eq_true rfl⟩ rfl rfl (Nat.le_of_ble_eq_true rfl) dX1_beginAct_19 (Nat.zero_le _) (Nat.zero_le _) ?_
    refine g_icmp_le B 26 dX1_beginAct_22 (by decide) (fun hc => ?_) (fun hc => ?_)
    · replace h := ifp hc h
      refine g_aload_n B 0 dX1_beginAct_26 rfl rfl ?_
      replace h := bnP_s h
      obtain ⟨x9, h10, h⟩ := h
      refine g_getR B fl_RX1_31 (by decide) dX1_beginAct_27 h10 ?_
      replace h := bnP_s h
      obtain ⟨x11, h12, h⟩ := h
      refine g_getI B fl_RX1_83 (by decide) dX1_beginAct_30 h12 ?_
      refine g_iconst (v := 1) B dX1_beginAct_33 (by decide) ?_
      refine g_isub B dX1_beginAct_34 ?_
      refine g_istore_n B dX1_beginAct_35 rfl (Nat.le_of_ble_eq_true rfl) (s1_c (f1_k rfl (f1_k rfl (f1_1 rfl rfl f1_n)))) ?_
      refine g_aload_n B 1 dX1_beginAct_36 rfl rfl ?_
      replace h := bnP_s h
      obtain ⟨x13, h14, h⟩ := h
      refine g_getR B fl_RX1_31 (by decide) dX1_beginAct_37 h14 ?_
      refine g_iload_n B 0 dX1_beginAct_40 rfl rfl ?_
      replace h := bnP_s h
      obtain ⟨x15, h16, h⟩ := h
      refine g_callVs0 (st := []) B (cX4_isLostc h16) (Nat.le_of_ble_eq_true rfl) rfl rfl mi_X4_isLost lk_RX1_136 ⟨Nat.le_of_ble_eq_true rfl, Nat.le_of_ble_eq_true rfl⟩ rfl rfl (Nat.le_of_ble_eq_true rfl) dX1_beginAct_41 (Nat.zero_le _) (Nat.zero_le _) ?_
      replace h := bnS_s h
      obtain ⟨j17, s31, h18, h⟩ := h
      have k20 : GW Δ Γ (0) (0) 67 [(0, va_rf v0), (1, .int v1), (2, .int v2)] [] s31 := by
        refine g_aload_n B 0 dX1_beginAct_67 rfl rfl ?_
        replace h := bnP_s h
        obtain ⟨x32, h33, h⟩ := h
        refine g_getR B fl_RX1_11 (by decide) dX1_beginAct_68 h33 ?_
        refine g_aload_n B 0 dX1_beginAct_71 rfl rfl ?_
        replace h := bnP_s h
        obtain ⟨x34, h35, h⟩ := h
        refine g_getI B fl_RX1_55 (by decide) dX1_beginAct_72 h35 ?_
        replace h := bnP_s h
        obtain ⟨x36, h37, h⟩ := h
        refine g_ralds B (κ := 25) (by decide) rfl dX1_beginAct_75 h37 ?_
        refine g_aload_n B 0 dX1_beginAct_76 rfl rfl ?_
        replace h := bnP_s h
        obtain ⟨x38, h39, h⟩ := h
        refine g_getI B fl_RX1_55 (by decide) dX1_beginAct_77 h39 ?_
        refine g_iconst (v := 1) B dX1_beginAct_80 (by decide) ?_
        refine g_iadd B dX1_beginAct_81 ?_
        refine g_iload_n B 1 dX1_beginAct_82 rfl rfl ?_
        refine g_aload_n B 0 dX1_beginAct_83 rfl rfl ?_
        replace h := bnP_s h
        obtain ⟨x40, h41, h⟩ := h
        refine g_getR B fl_RX1_24 (by decide) dX1_beginAct_84 h41 ?_
        replace h := bnP_s h
        obtain ⟨x42, h43, h⟩ := h
        refine g_getI B fl_RX1_80 (by decide) dX1_beginAct_87 h43 ?_
        refine g_iload_n B 2 dX1_beginAct_90 rfl rfl ?_
        replace h := bnP_s h
        obtain ⟨s46, h45, h⟩ := h
        refine g_callVv0 (st := []) B (cX0_startc h45) (Nat.le_of_ble_eq_true rfl) rfl rfl mi_X0_start lk_RX1_171 ⟨Nat.le_of_ble_eq_true rfl, Nat.le_of_ble_eq_true rfl⟩ rfl rfl (Nat.le_of_ble_eq_true rfl) dX1_beginAct_91 (Nat.zero_le _) (Nat.zero_le _) ?_
        refine g_aload_n B 0 dX1_beginAct_94 rfl rfl ?_
        refine g_dup B dX1_beginAct_95 (rf_cat _) ?_
        replace h := bnP_s h
        obtain ⟨x47, h48, h⟩ := h
        refine g_getI B fl_RX1_55 (by decide) dX1_beginAct_96 h48 ?_
        refine g_iconst (v := 1) B dX1_beginAct_99 (by decide) ?_
        refine g_iadd B dX1_beginAct_100 ?_
        replace h := bnP_s h
        obtain ⟨s51, h50, h⟩ := h
        refine g_putI B fl_RX1_55 (by decide) dX1_beginAct_101 h50 ?_
        refine g_aload_n B 0 dX1_beginAct_104 rfl rfl ?_
        replace h := bnP_s h
        obtain ⟨x52, h53, h⟩ := h
        refine g_getR B fl_RX1_24 (by decide) dX1_beginAct_105 h53 ?_
        refine g_dup B dX1_beginAct_108 (rf_cat _) ?_
        replace h := bnP_s h
        obtain ⟨x54, h55, h⟩ := h
        refine g_getI B fl_RX1_80 (by decide) dX1_beginAct_109 h55 ?_
        refine g_iload_n B 2 dX1_beginAct_112 rfl rfl ?_
        refine g_iadd B dX1_beginAct_113 ?_
        replace h := bnP_s h
        obtain ⟨s58, h57, h⟩ := h
        refine g_putI B fl_RX1_80 (by decide) dX1_beginAct_114 h57 ?_
        refine g_aload_n B 0 dX1_beginAct_117 rfl rfl ?_
        replace h := bnP_s h
        obtain ⟨x59, h60, h⟩ := h
        refine g_getR B fl_RX1_31 (by decide) dX1_beginAct_118 h60 ?_
        refine g_aload_n B 0 dX1_beginAct_121 rfl rfl ?_
        refine g_aload_n B 0 dX1_beginAct_122 rfl rfl ?_
        replace h := bnP_s h
        obtain ⟨x61, h62, h⟩ := h
        refine g_getR B fl_RX1_24 (by decide) dX1_beginAct_123 h62 ?_
        replace h := bnP_s h
        obtain ⟨x63, h64, h⟩ := h
        refine g_getI B fl_RX1_80 (by decide) dX1_beginAct_126 h64 ?_
        replace h := bnP_s h
        obtain ⟨x65, h66, h⟩ := h
        refine g_callVs0 (st := [va_rf x59]) B (cX1_leavesOfc h66) (Nat.le_of_ble_eq_true rfl) rfl rfl mi_X1_leavesOf lk_RX1_175 ⟨Nat.le_of_ble_eq_true rfl, Nat.le_of_ble_eq_true rfl⟩ rfl rfl (Nat.le_of_ble_eq_true rfl) dX1_beginAct_129 (Nat.zero_le _) (Nat.zero_le _) ?_
        replace h := bnP_s h
        obtain ⟨s69, h68, h⟩ := h
        refine g_callVv0 (st := []) B (cX4_extendToc h68) (Nat.le_of_ble_eq_true rfl) rfl rfl mi_X4_extendTo lk_RX1_178 ⟨Nat.le_of_ble_eq_true rfl, Nat.le_of_ble_eq_true rfl⟩ rfl rfl (Nat.le_of_ble_eq_true rfl) dX1_beginAct_132 (Nat.zero_le _) (Nat.zero_le _) ?_
        replace h := Option.some.inj h
        subst h
        exact g_vret B hE (Nat.zero_le _) (Nat.zero_le _) dX1_beginAct_135
      clear h
      have h := h18
      clear h18
      refine g_if_eq B 67 dX1_beginAct_44 (by decide) (fun hc => ?_) (fun hc => ?_)
      · replace h := ifn (bI0 hc) h
        obtain ⟨w1, w2⟩ := inS h
        clear h
        subst w1
        subst w2
        exact g_sub [1, 2, 3] rfl k20
      · replace h := ifp (bI1 hc) h
        refine g_aload_n B 1 dX1_beginAct_47 rfl rfl ?_
        refine g_iload_n B 0 dX1_beginAct_48 rfl rfl ?_
        replace h := bnP_s h
        obtain ⟨x22, h23, h⟩ := h
        refine g_callVs0 (st := []) B (cX1_wordsOnc h23) (Nat.le_of_ble_eq_true rfl) rfl rfl mi_X1_wordsOn lk_RX1_146 ⟨Nat.le_of_ble_eq_true rfl, Nat.le_of_ble_eq_true rfl⟩ rfl rfl (Nat.le_of_ble_eq_true rfl) dX1_beginAct_49 (Nat.zero_le _) (Nat.zero_le _) ?_
        refine g_aload_n B 1 dX1_beginAct_52 rfl rfl ?_
        replace h := bnP_s h
        obtain ⟨x24, h25, h⟩ := h
        refine g_getI B fl_RX1_48 (by decide) dX1_beginAct_53 h25 ?_
        refine g_icmp_ge B 67 dX1_beginAct_56 (by decide) (fun hc => ?_) (fun hc => ?_)
        · replace h := ifp hc h
          obtain ⟨w1, w2⟩ := inS h
          clear h
          subst w1
          subst w2
          exact g_sub [1, 2, 3] rfl k20
        · replace h := ifn hc h
          refine g_aload_n B 1 dX1_beginAct_59 rfl rfl ?_
          replace h := bnP_s h
          obtain ⟨x26, h27, h⟩ := h
          refine g_getR B fl_RX1_31 (by decide) dX1_beginAct_60 h27 ?_
          refine g_iload_n B 0 dX1_beginAct_63 rfl rfl ?_
          replace h := bnP_s h
          obtain ⟨s30, h29, h⟩ := h
          refine g_callVv0 (st := []) B (cX4_fastenc h29) (Nat.le_of_ble_eq_true rfl) rfl rfl mi_X4_fasten lk_RX1_167 ⟨Nat.le_of_ble_eq_true rfl, Nat.le_of_ble_eq_true rfl⟩ rfl rfl (Nat.le_of_ble_eq_true rfl) dX1_beginAct_64 (Nat.zero_le _) (Nat.zero_le _) ?_
          obtain ⟨w1, w2⟩ := inS h
          clear h
          subst w1
          subst w2
          exact g_sub [1, 2, 3] rfl k20
    · replace h := ifn hc h
      replace h := Option.some.inj h
      subst h
      exact g_vret B hE (Nat.zero_le _) (Nat.zero_le _) dX1_beginAct_25
set_option maxRecDepth 100000 in
set_option maxHeartbeats 4000000 in
theorem cX1_strikeReasonc {l : Launch} {v0 : Option Nat} {v1 : Int32} {σ : HpT} {r : Int32} (h : fX1_strikeReason v0 v1 σ = some r) : IsK σ v0 1 ∧ Ct l yX1_strikeReason cX1_strikeReason 3 (some .int) 1 20 [va_rf v0, .int v1] σ (.ok (some (.int r))) σ 0 0 := by
  unfold fX1_strikeReason at h
  replace h := bnP_s h
  obtain ⟨u, hk, h⟩ := h
  replace hk := isK_s hk
  refine ⟨hk, ?_⟩
  refine ct_start mi_X1_strikeReason.1 rfl (al_le (al_1 (rf_cat _) (al_1 rfl al_n)) (Nat.le_of_ble_eq_true rfl)) (ag_1 (rf_cat _) (ag_1 rfl ag_n)) (fun Δ Γ B hE hnm => ?_)
  refine g_aload_n B 0 dX1_strikeReason_0 rfl rfl ?_
  replace h := bnP_s h
  obtain ⟨x1, h2, h⟩ := h
  refine g_callVs0 (st := []) B (cX1_openActc h2) (Nat.le_of_ble_eq_true rfl) rfl rfl mi_X1_openAct lk_RX1_87 ⟨Nat.le_of_ble_eq_true rfl, Nat.le_of_ble_eq_true rfl⟩ rfl rfl (Nat.le_of_ble_eq_true rfl) dX1_strikeReason_1 (Nat.zero_le _) (Nat.zero_le _) ?_
  refine g_astore_n B dX1_strikeReason_4 rfl (Nat.le_of_ble_eq_true rfl) (s1_c (f1_k rfl (f1_1 rfl rfl f1_n))) ?_
  refine g_aload_n B 0 dX1_strikeReason_5 rfl rfl ?_
  refine g_ifnonnull B 11 dX1_strikeReason_6 (by decide) (fun hc => ?_) (fun hc => ?_)
  · replace h := ifn hc h
    refine g_iload_n B 2 dX1_strikeReason_11 rfl rfl ?_
    refine g_if_lt B 23 dX1_strikeReason_12 (by decide) (fun hc => ?_) (fun hc => ?_)
    · replace h := ifp hc h
      refine g_iconst (v := 2) B dX1_strikeReason_23 (by decide) ?_
      replace h := Option.some.inj h
      subst h
      exact g_iret B hE (Nat.zero_le _) (Nat.zero_le _) dX1_strikeReason_24
    · replace h := ifn hc h
      refine g_iload_n B 2 dX1_strikeReason_15 rfl rfl ?_
      refine g_aload_n B 0 dX1_strikeReason_16 rfl rfl ?_
      replace h := bnP_s h
      obtain ⟨x3, h4, h⟩ := h
      refine g_getI B fl_RX1_91 (by decide) dX1_strikeReason_17 h4 ?_
      refine g_icmp_lt B 25 dX1_strikeReason_20 (by decide) (fun hc => ?_) (fun hc => ?_)
      · replace h := ifp hc h
        refine g_aload_n B 1 dX1_strikeReason_25 rfl rfl ?_
        replace h := bnP_s h
        obtain ⟨x5, h6, h⟩ := h
        refine g_getR B fl_RX1_24 (by decide) dX1_strikeReason_26 h6 ?_
        replace h := bnP_s h
        obtain ⟨x7, h8, h⟩ := h
        refine g_getRg B fl_RX1_181 (by decide) dX1_strikeReason_29 h8 ?_
        refine g_aload_n B 0 dX1_strikeReason_32 rfl rfl ?_
        replace h := bnP_s h
        obtain ⟨x9, h10, h⟩ := h
        refine g_getI B fl_RX1_92 (by decide) dX1_strikeReason_33 h10 ?_
        refine g_iload_n B 2 dX1_strikeReason_36 rfl rfl ?_
        refine g_iadd B dX1_strikeReason_37 ?_
        replace h := bnP_s h
        obtain ⟨x11, h12, h⟩ := h
        refine g_zald B dX1_strikeReason_38 h12 ?_
        refine g_if_eq B 46 dX1_strikeReason_39 (by decide) (fun hc => ?_) (fun hc => ?_)
        · replace h := ifp hc h
          refine g_iconst (v := 0) B dX1_strikeReason_46 (by decide) ?_
          replace h := Option.some.inj h
          subst h
          exact g_iret B hE (Nat.zero_le _) (Nat.zero_le _) dX1_strikeReason_47
        · replace h := ifn hc h
          refine g_iconst (v := 3) B dX1_strikeReason_42 (by decide) ?_
          refine g_goto B 47 dX1_strikeReason_43 (by decide) ?_
          replace h := Option.some.inj h
          subst h
          exact g_iret B hE (Nat.zero_le _) (Nat.zero_le _) dX1_strikeReason_47
      · replace h := ifn hc h
        refine g_iconst (v := 2) B dX1_strikeReason_23 (by decide) ?_
        replace h := Option.some.inj h
        subst h
        exact g_iret B hE (Nat.zero_le _) (Nat.zero_le _) dX1_strikeReason_24
  · replace h := ifp hc h
    refine g_iconst (v := 1) B dX1_strikeReason_9 (by decide) ?_
    replace h := Option.some.inj h
    subst h
    exact g_iret B hE (Nat.zero_le _) (Nat.zero_le _) dX1_strikeReason_10
set_option maxRecDepth 100000 in
set_option maxHeartbeats 4000000 in
theorem cX8_strikeFromc {l : Launch} {v0 : Option Nat} {v1 : Int32} {v2 : Int32} {σ : HpT} {r : Int32} {σ' : HpT} (h : fX8_strikeFrom v0 v1 v2 σ = some (r, σ')) : IsK σ v0 8 ∧ Ct l yX8_strikeFrom cX8_strikeFrom 5 (some .int) 1 24 [va_rf v0, .int v1, .int v2] σ (.ok (some (.int r))) σ' 0 0 := by
  unfold fX8_strikeFrom at h
  replace h := bnP_s h
  obtain ⟨u, hk, h⟩ := h
  replace hk := isK_s hk
  refine ⟨hk, ?_⟩
  refine ct_start mi_X8_strikeFrom.1 rfl (al_le (al_1 (rf_cat _) (al_1 rfl (al_1 rfl al_n))) (Nat.le_of_ble_eq_true rfl)) (ag_1 (rf_cat _) (ag_1 rfl (ag_1 rfl ag_n))) (fun Δ Γ B hE hnm => ?_)
  refine g_aload_n B 0 dX8_strikeFrom_0 rfl rfl ?_
  refine g_iload_n B 1 dX8_strikeFrom_1 rfl rfl ?_
  refine g_iload_n B 2 dX8_strikeFrom_2 rfl rfl ?_
  replace h := bnP_s h
  obtain ⟨x1, h2, h⟩ := h
  refine g_callVs0 (st := []) B (cX8_unstruckFromc h2) (Nat.le_of_ble_eq_true rfl) rfl rfl mi_X8_unstruckFrom lk_RX8_42 ⟨Nat.le_of_ble_eq_true rfl, Nat.le_of_ble_eq_true rfl⟩ rfl rfl (Nat.le_of_ble_eq_true rfl) dX8_strikeFrom_3 (Nat.zero_le _) (Nat.zero_le _) ?_
  refine g_istore_n B dX8_strikeFrom_6 rfl (Nat.le_of_ble_eq_true rfl) (s1_c (f1_k rfl (f1_k rfl (f1_1 rfl rfl f1_n)))) ?_
  refine g_iload_n B 2 dX8_strikeFrom_7 rfl rfl ?_
  refine g_istore B dX8_strikeFrom_8 (Nat.le_of_ble_eq_true rfl) (s1_c (f1_1 rfl rfl (f1_k rfl (f1_k rfl (f1_k rfl f1_n))))) ?_
  replace h := bnS_s h
  obtain ⟨r4, s18, h5, h⟩ := h
  have kE6 : GW Δ Γ (0) (0) 32 [(3, .int x1)] [] s18 := by
    refine g_iload_n B 0 dX8_strikeFrom_32 rfl rfl ?_
    obtain ⟨w1, w2⟩ := inS h
    clear h
    subst w1
    subst w2
    exact g_iret B hE (Nat.zero_le _) (Nat.zero_le _) dX8_strikeFrom_33
  clear h
  refine g_sub [2, 3, 4, 1, 0] rfl ?_
  refine lpS_w (I := fun q3 s12 => GW Δ Γ (0) (0) 10 [(0, va_rf v0), (1, .int v1), (2, .int v2), (3, .int x1), (4, .int q3)] [] s12) (r := r4) (σr := s18) ?_ FUEL v1 σ h5
  intro q3 s12 x10 s9 h hI8 hR9
  unfold fX8_strikeFrom_l1 at h
  refine g_iload B 4 dX8_strikeFrom_10 rfl ?_
  refine g_iload_n B 1 dX8_strikeFrom_12 rfl rfl ?_
  refine g_iload_n B 2 dX8_strikeFrom_13 rfl rfl ?_
  refine g_iadd B dX8_strikeFrom_14 ?_
  refine g_icmp_ge B 32 dX8_strikeFrom_15 (by decide) (fun hc => ?_) (fun hc => ?_)
  · replace h := ifp hc h
    obtain ⟨w1, w2⟩ := inS h
    clear h
    subst w1
    subst w2
    obtain ⟨e8, e7⟩ := hR9 _ rfl
    subst e8
    subst e7
    exact g_sub [3] rfl kE6
  · replace h := ifn hc h
    refine g_aload_n B 0 dX8_strikeFrom_18 rfl rfl ?_
    replace h := bnP_s h
    obtain ⟨x13, h14, h⟩ := h
    refine g_getR B fl_RX8_22 (by decide) dX8_strikeFrom_19 h14 ?_
    refine g_iload B 4 dX8_strikeFrom_22 rfl ?_
    refine g_iconst (v := 1) B dX8_strikeFrom_24 (by decide) ?_
    replace h := bnP_s h
    obtain ⟨s17, h16, h⟩ := h
    refine g_zast B dX8_strikeFrom_25 h16 ?_
    refine g_iinc (v := (q3 + 1)) B 4 dX8_strikeFrom_26 rfl (by first | rfl | (congr 1; decide)) (Nat.le_of_ble_eq_true rfl) (s1_c (f1_k rfl (f1_k rfl (f1_k rfl (f1_1 rfl rfl (f1_x f1_n)))))) ?_
    refine g_goto B 10 dX8_strikeFrom_29 (by decide) ?_
    obtain ⟨w1, w2⟩ := inS h
    clear h
    subst w1
    subst w2
    exact g_sub [1, 2, 3, 4, 0] rfl (hI8 _ rfl)
set_option maxRecDepth 100000 in
set_option maxHeartbeats 4000000 in
theorem cX1_strikeWordc {l : Launch} {v0 : Option Nat} {v1 : Int32} {σ : HpT} {σ' : HpT} (h : fX1_strikeWord v0 v1 σ = some σ') : IsK σ v0 1 ∧ Ct l yX1_strikeWord cX1_strikeWord 3 none 2 48 [va_rf v0, .int v1] σ (.ok none) σ' 0 0 := by
  unfold fX1_strikeWord at h
  replace h := bnP_s h
  obtain ⟨u, hk, h⟩ := h
  replace hk := isK_s hk
  refine ⟨hk, ?_⟩
  refine ct_start mi_X1_strikeWord.1 rfl (al_le (al_1 (rf_cat _) (al_1 rfl al_n)) (Nat.le_of_ble_eq_true rfl)) (ag_1 (rf_cat _) (ag_1 rfl ag_n)) (fun Δ Γ B hE hnm => ?_)
  refine g_aload_n B 0 dX1_strikeWord_0 rfl rfl ?_
  replace h := bnP_s h
  obtain ⟨x1, h2, h⟩ := h
  refine g_callVs0 (st := []) B (cX1_openActc h2) (Nat.le_of_ble_eq_true rfl) rfl rfl mi_X1_openAct lk_RX1_87 ⟨Nat.le_of_ble_eq_true rfl, Nat.le_of_ble_eq_true rfl⟩ rfl rfl (Nat.le_of_ble_eq_true rfl) dX1_strikeWord_1 (Nat.zero_le _) (Nat.zero_le _) ?_
  refine g_astore_n B dX1_strikeWord_4 rfl (Nat.le_of_ble_eq_true rfl) (s1_c (f1_k rfl (f1_1 rfl rfl f1_n))) ?_
  refine g_aload_n B 0 dX1_strikeWord_5 rfl rfl ?_
  refine g_ifnull B 46 dX1_strikeWord_6 (by decide) (fun hc => ?_) (fun hc => ?_)
  · replace h := ifp hc h
    replace h := Option.some.inj h
    subst h
    exact g_vret B hE (Nat.zero_le _) (Nat.zero_le _) dX1_strikeWord_46
  · replace h := ifn hc h
    refine g_iload_n B 2 dX1_strikeWord_9 rfl rfl ?_
    refine g_if_lt B 46 dX1_strikeWord_10 (by decide) (fun hc => ?_) (fun hc => ?_)
    · replace h := ifp hc h
      replace h := Option.some.inj h
      subst h
      exact g_vret B hE (Nat.zero_le _) (Nat.zero_le _) dX1_strikeWord_46
    · replace h := ifn hc h
      refine g_iload_n B 2 dX1_strikeWord_13 rfl rfl ?_
      refine g_aload_n B 0 dX1_strikeWord_14 rfl rfl ?_
      replace h := bnP_s h
      obtain ⟨x3, h4, h⟩ := h
      refine g_getI B fl_RX1_91 (by decide) dX1_strikeWord_15 h4 ?_
      refine g_icmp_ge B 46 dX1_strikeWord_18 (by decide) (fun hc => ?_) (fun hc => ?_)
      · replace h := ifp hc h
        replace h := Option.some.inj h
        subst h
        exact g_vret B hE (Nat.zero_le _) (Nat.zero_le _) dX1_strikeWord_46
      · replace h := ifn hc h
        refine g_aload_n B 1 dX1_strikeWord_21 rfl rfl ?_
        replace h := bnP_s h
        obtain ⟨x5, h6, h⟩ := h
        refine g_getR B fl_RX1_24 (by decide) dX1_strikeWord_22 h6 ?_
        refine g_aload_n B 0 dX1_strikeWord_25 rfl rfl ?_
        replace h := bnP_s h
        obtain ⟨x7, h8, h⟩ := h
        refine g_getI B fl_RX1_92 (by decide) dX1_strikeWord_26 h8 ?_
        refine g_iload_n B 2 dX1_strikeWord_29 rfl rfl ?_
        refine g_iadd B dX1_strikeWord_30 ?_
        refine g_iconst (v := 1) B dX1_strikeWord_31 (by decide) ?_
        replace h := bnS_s h
        obtain ⟨x9, s11, h10, h⟩ := h
        refine g_callVs0 (st := []) B (cX8_strikeFromc h10) (Nat.le_of_ble_eq_true rfl) rfl rfl mi_X8_strikeFrom lk_RX1_185 ⟨Nat.le_of_ble_eq_true rfl, Nat.le_of_ble_eq_true rfl⟩ rfl rfl (Nat.le_of_ble_eq_true rfl) dX1_strikeWord_32 (Nat.zero_le _) (Nat.zero_le _) ?_
        refine g_pop B dX1_strikeWord_35 rfl ?_
        refine g_aload_n B 0 dX1_strikeWord_36 rfl rfl ?_
        refine g_dup B dX1_strikeWord_37 (rf_cat _) ?_
        replace h := bnP_s h
        obtain ⟨x12, h13, h⟩ := h
        refine g_getI B fl_RX1_99 (by decide) dX1_strikeWord_38 h13 ?_
        refine g_iconst (v := 1) B dX1_strikeWord_41 (by decide) ?_
        refine g_iadd B dX1_strikeWord_42 ?_
        replace h := bnP_s h
        obtain ⟨s16, h15, h⟩ := h
        refine g_putI B fl_RX1_99 (by decide) dX1_strikeWord_43 h15 ?_
        replace h := Option.some.inj h
        subst h
        exact g_vret B hE (Nat.zero_le _) (Nat.zero_le _) dX1_strikeWord_46
set_option maxRecDepth 100000 in
set_option maxHeartbeats 4000000 in
theorem cX1_strikeAroundc {l : Launch} {v0 : Option Nat} {v1 : Int32} {σ : HpT} {r : Int32} {σ' : HpT} (h : fX1_strikeAround v0 v1 σ = some (r, σ')) : IsK σ v0 1 ∧ Ct l yX1_strikeAround cX1_strikeAround 3 (some .int) 3 73 [va_rf v0, .int v1] σ (.ok (some (.int r))) σ' 0 0 := by
  unfold fX1_strikeAround at h
  replace h := bnP_s h
  obtain ⟨u, hk, h⟩ := h
  replace hk := isK_s hk
  refine ⟨hk, ?_⟩
  refine ct_start mi_X1_strikeAround.1 rfl (al_le (al_1 (rf_cat _) (al_1 rfl al_n)) (Nat.le_of_ble_eq_true rfl)) (ag_1 (rf_cat _) (ag_1 rfl ag_n)) (fun Δ Γ B hE hnm => ?_)
  refine g_aload_n B 0 dX1_strikeAround_0 rfl rfl ?_
  replace h := bnP_s h
  obtain ⟨x1, h2, h⟩ := h
  refine g_callVs0 (st := []) B (cX1_openActc h2) (Nat.le_of_ble_eq_true rfl) rfl rfl mi_X1_openAct lk_RX1_87 ⟨Nat.le_of_ble_eq_true rfl, Nat.le_of_ble_eq_true rfl⟩ rfl rfl (Nat.le_of_ble_eq_true rfl) dX1_strikeAround_1 (Nat.zero_le _) (Nat.zero_le _) ?_
  refine g_astore_n B dX1_strikeAround_4 rfl (Nat.le_of_ble_eq_true rfl) (s1_c (f1_k rfl (f1_1 rfl rfl f1_n))) ?_
  refine g_aload_n B 0 dX1_strikeAround_5 rfl rfl ?_
  refine g_ifnull B 17 dX1_strikeAround_6 (by decide) (fun hc => ?_) (fun hc => ?_)
  · replace h := ifp hc h
    refine g_iconst (v := 0) B dX1_strikeAround_17 (by decide) ?_
    obtain ⟨w1, w2⟩ := inS h
    clear h
    subst w1
    subst w2
    exact g_iret B hE (Nat.zero_le _) (Nat.zero_le _) dX1_strikeAround_18
  · replace h := ifn hc h
    refine g_aload_n B 1 dX1_strikeAround_9 rfl rfl ?_
    refine g_iload_n B 2 dX1_strikeAround_10 rfl rfl ?_
    replace h := bnS_s h
    obtain ⟨x3, s5, h4, h⟩ := h
    refine g_callVs0 (st := []) B (cX1_seekClauseAroundc h4) (Nat.le_of_ble_eq_true rfl) rfl rfl mi_X1_seekClauseAround lk_RX1_188 ⟨Nat.le_of_ble_eq_true rfl, Nat.le_of_ble_eq_true rfl⟩ rfl rfl (Nat.le_of_ble_eq_true rfl) dX1_strikeAround_11 (Nat.zero_le _) (Nat.zero_le _) ?_
    refine g_if_ne B 19 dX1_strikeAround_14 (by decide) (fun hc => ?_) (fun hc => ?_)
    · replace h := ifp (bI1 hc) h
      refine g_aload_n B 0 dX1_strikeAround_19 rfl rfl ?_
      refine g_dup B dX1_strikeAround_20 (rf_cat _) ?_
      replace h := bnP_s h
      obtain ⟨x6, h7, h⟩ := h
      refine g_getI B fl_RX1_99 (by decide) dX1_strikeAround_21 h7 ?_
      refine g_iconst (v := 1) B dX1_strikeAround_24 (by decide) ?_
      refine g_iadd B dX1_strikeAround_25 ?_
      replace h := bnP_s h
      obtain ⟨s10, h9, h⟩ := h
      refine g_putI B fl_RX1_99 (by decide) dX1_strikeAround_26 h9 ?_
      refine g_aload_n B 1 dX1_strikeAround_29 rfl rfl ?_
      replace h := bnP_s h
      obtain ⟨x11, h12, h⟩ := h
      refine g_getR B fl_RX1_24 (by decide) dX1_strikeAround_30 h12 ?_
      refine g_aload_n B 1 dX1_strikeAround_33 rfl rfl ?_
      replace h := bnP_s h
      obtain ⟨x13, h14, h⟩ := h
      refine g_getR B fl_RX1_38 (by decide) dX1_strikeAround_34 h14 ?_
      replace h := bnP_s h
      obtain ⟨x15, h16, h⟩ := h
      refine g_getI B fl_RX1_191 (by decide) dX1_strikeAround_37 h16 ?_
      refine g_aload_n B 1 dX1_strikeAround_40 rfl rfl ?_
      replace h := bnP_s h
      obtain ⟨x17, h18, h⟩ := h
      refine g_getR B fl_RX1_38 (by decide) dX1_strikeAround_41 h18 ?_
      replace h := bnP_s h
      obtain ⟨x19, h20, h⟩ := h
      refine g_getI B fl_RX1_192 (by decide) dX1_strikeAround_44 h20 ?_
      replace h := bnS_s h
      obtain ⟨x21, s23, h22, h⟩ := h
      refine g_callVs0 (st := []) B (cX8_strikeFromc h22) (Nat.le_of_ble_eq_true rfl) rfl rfl mi_X8_strikeFrom lk_RX1_185 ⟨Nat.le_of_ble_eq_true rfl, Nat.le_of_ble_eq_true rfl⟩ rfl rfl (Nat.le_of_ble_eq_true rfl) dX1_strikeAround_47 (Nat.zero_le _) (Nat.zero_le _) ?_
      obtain ⟨w1, w2⟩ := inS h
      clear h
      subst w1
      subst w2
      exact g_iret B hE (Nat.zero_le _) (Nat.zero_le _) dX1_strikeAround_50
    · replace h := ifn (bI0 hc) h
      refine g_iconst (v := 0) B dX1_strikeAround_17 (by decide) ?_
      obtain ⟨w1, w2⟩ := inS h
      clear h
      subst w1
      subst w2
      exact g_iret B hE (Nat.zero_le _) (Nat.zero_le _) dX1_strikeAround_18
set_option maxRecDepth 100000 in
set_option maxHeartbeats 4000000 in
theorem cX1_canInsertc {l : Launch} {v0 : Option Nat} {v1 : Int32} {σ : HpT} {r : Bool} (h : fX1_canInsert v0 v1 σ = some r) : IsK σ v0 1 ∧ Ct l yX1_canInsert cX1_canInsert 3 (some .boolean) 1 20 [va_rf v0, .int v1] σ (.ok (some (.int (bI r)))) σ 0 0 := by
  unfold fX1_canInsert at h
  replace h := bnP_s h
  obtain ⟨u, hk, h⟩ := h
  replace hk := isK_s hk
  refine ⟨hk, ?_⟩
  refine ct_start mi_X1_canInsert.1 rfl (al_le (al_1 (rf_cat _) (al_1 rfl al_n)) (Nat.le_of_ble_eq_true rfl)) (ag_1 (rf_cat _) (ag_1 rfl ag_n)) (fun Δ Γ B hE hnm => ?_)
  refine g_aload_n B 0 dX1_canInsert_0 rfl rfl ?_
  replace h := bnP_s h
  obtain ⟨x1, h2, h⟩ := h
  refine g_callVs0 (st := []) B (cX1_openActc h2) (Nat.le_of_ble_eq_true rfl) rfl rfl mi_X1_openAct lk_RX1_87 ⟨Nat.le_of_ble_eq_true rfl, Nat.le_of_ble_eq_true rfl⟩ rfl rfl (Nat.le_of_ble_eq_true rfl) dX1_canInsert_1 (Nat.zero_le _) (Nat.zero_le _) ?_
  refine g_astore_n B dX1_canInsert_4 rfl (Nat.le_of_ble_eq_true rfl) (s1_c (f1_k rfl (f1_1 rfl rfl f1_n))) ?_
  refine g_aload_n B 0 dX1_canInsert_5 rfl rfl ?_
  refine g_ifnull B 43 dX1_canInsert_6 (by decide) (fun hc => ?_) (fun hc => ?_)
  · replace h := ifp hc h
    refine g_iconst (v := 0) B dX1_canInsert_43 (by decide) ?_
    replace h := Option.some.inj h
    subst h
    exact g_zret B hE rfl (Nat.zero_le _) (Nat.zero_le _) dX1_canInsert_44
  · replace h := ifn hc h
    refine g_iload_n B 2 dX1_canInsert_9 rfl rfl ?_
    refine g_if_lt B 43 dX1_canInsert_10 (by decide) (fun hc => ?_) (fun hc => ?_)
    · replace h := ifp hc h
      refine g_iconst (v := 0) B dX1_canInsert_43 (by decide) ?_
      replace h := Option.some.inj h
      subst h
      exact g_zret B hE rfl (Nat.zero_le _) (Nat.zero_le _) dX1_canInsert_44
    · replace h := ifn hc h
      refine g_iload_n B 2 dX1_canInsert_13 rfl rfl ?_
      refine g_aload_n B 0 dX1_canInsert_14 rfl rfl ?_
      replace h := bnP_s h
      obtain ⟨x3, h4, h⟩ := h
      refine g_getI B fl_RX1_91 (by decide) dX1_canInsert_15 h4 ?_
      refine g_icmp_ge B 43 dX1_canInsert_18 (by decide) (fun hc => ?_) (fun hc => ?_)
      · replace h := ifp hc h
        refine g_iconst (v := 0) B dX1_canInsert_43 (by decide) ?_
        replace h := Option.some.inj h
        subst h
        exact g_zret B hE rfl (Nat.zero_le _) (Nat.zero_le _) dX1_canInsert_44
      · replace h := ifn hc h
        refine g_aload_n B 1 dX1_canInsert_21 rfl rfl ?_
        replace h := bnP_s h
        obtain ⟨x5, h6, h⟩ := h
        refine g_getR B fl_RX1_24 (by decide) dX1_canInsert_22 h6 ?_
        replace h := bnP_s h
        obtain ⟨x7, h8, h⟩ := h
        refine g_getRg B fl_RX1_193 (by decide) dX1_canInsert_25 h8 ?_
        refine g_aload_n B 0 dX1_canInsert_28 rfl rfl ?_
        replace h := bnP_s h
        obtain ⟨x9, h10, h⟩ := h
        refine g_getI B fl_RX1_92 (by decide) dX1_canInsert_29 h10 ?_
        refine g_iload_n B 2 dX1_canInsert_32 rfl rfl ?_
        refine g_iadd B dX1_canInsert_33 ?_
        replace h := bnP_s h
        obtain ⟨x11, h12, h⟩ := h
        refine g_iald B dX1_canInsert_34 h12 ?_
        refine g_iconst (v := 4) B dX1_canInsert_35 (by decide) ?_
        refine g_icmp_ge B 43 dX1_canInsert_36 (by decide) (fun hc => ?_) (fun hc => ?_)
        · replace h := ifp hc h
          refine g_iconst (v := 0) B dX1_canInsert_43 (by decide) ?_
          replace h := Option.some.inj h
          subst h
          exact g_zret B hE rfl (Nat.zero_le _) (Nat.zero_le _) dX1_canInsert_44
        · replace h := ifn hc h
          refine g_iconst (v := 1) B dX1_canInsert_39 (by decide) ?_
          refine g_goto B 44 dX1_canInsert_40 (by decide) ?_
          replace h := Option.some.inj h
          subst h
          exact g_zret B hE rfl (Nat.zero_le _) (Nat.zero_le _) dX1_canInsert_44
set_option maxRecDepth 100000 in
set_option maxHeartbeats 4000000 in
theorem cX8_insertc {l : Launch} {v0 : Option Nat} {v1 : Int32} {v2 : Int64} {σ : HpT} {σ' : HpT} (h : fX8_insert v0 v1 v2 σ = some σ') : IsK σ v0 8 ∧ Ct l yX8_insert cX8_insert 4 none 0 0 [va_rf v0, .int v1, .long v2] σ (.ok none) σ' 0 0 := by
  unfold fX8_insert at h
  replace h := bnP_s h
  obtain ⟨u, hk, h⟩ := h
  replace hk := isK_s hk
  refine ⟨hk, ?_⟩
  refine ct_start mi_X8_insert.1 rfl (al_le (al_1 (rf_cat _) (al_1 rfl (al_2 rfl al_n))) (Nat.le_of_ble_eq_true rfl)) (ag_1 (rf_cat _) (ag_1 rfl (ag_2 rfl ag_n))) (fun Δ Γ B hE hnm => ?_)
  refine g_aload_n B 0 dX8_insert_0 rfl rfl ?_
  replace h := bnP_s h
  obtain ⟨x1, h2, h⟩ := h
  refine g_getR B fl_RX8_26 (by decide) dX8_insert_1 h2 ?_
  refine g_iload_n B 1 dX8_insert_4 rfl rfl ?_
  replace h := bnP_s h
  obtain ⟨x3, h4, h⟩ := h
  refine g_iald B dX8_insert_5 h4 ?_
  refine g_iconst (v := 4) B dX8_insert_6 (by decide) ?_
  refine g_icmp_ge B 36 dX8_insert_7 (by decide) (fun hc => ?_) (fun hc => ?_)
  · replace h := ifp hc h
    replace h := Option.some.inj h
    subst h
    exact g_vret B hE (Nat.zero_le _) (Nat.zero_le _) dX8_insert_36
  · replace h := ifn hc h
    refine g_aload_n B 0 dX8_insert_10 rfl rfl ?_
    replace h := bnP_s h
    obtain ⟨x5, h6, h⟩ := h
    refine g_getR B fl_RX8_29 (by decide) dX8_insert_11 h6 ?_
    refine g_iload_n B 1 dX8_insert_14 rfl rfl ?_
    refine g_iconst (v := 4) B dX8_insert_15 (by decide) ?_
    refine g_imul B dX8_insert_16 ?_
    refine g_aload_n B 0 dX8_insert_17 rfl rfl ?_
    replace h := bnP_s h
    obtain ⟨x7, h8, h⟩ := h
    refine g_getR B fl_RX8_26 (by decide) dX8_insert_18 h8 ?_
    refine g_iload_n B 1 dX8_insert_21 rfl rfl ?_
    replace h := bnP_s h
    obtain ⟨x9, h10, h⟩ := h
    refine g_iald B dX8_insert_22 h10 ?_
    refine g_iadd B dX8_insert_23 ?_
    refine g_lload_n B 2 dX8_insert_24 rfl rfl ?_
    replace h := bnP_s h
    obtain ⟨s13, h12, h⟩ := h
    refine g_last B dX8_insert_25 h12 ?_
    refine g_aload_n B 0 dX8_insert_26 rfl rfl ?_
    replace h := bnP_s h
    obtain ⟨x14, h15, h⟩ := h
    refine g_getR B fl_RX8_26 (by decide) dX8_insert_27 h15 ?_
    refine g_iload_n B 1 dX8_insert_30 rfl rfl ?_
    refine g_dup2 B dX8_insert_31 rfl (rf_cat _) ?_
    replace h := bnP_s h
    obtain ⟨x16, h17, h⟩ := h
    refine g_iald B dX8_insert_32 h17 ?_
    refine g_iconst (v := 1) B dX8_insert_33 (by decide) ?_
    refine g_iadd B dX8_insert_34 ?_
    replace h := bnP_s h
    obtain ⟨s20, h19, h⟩ := h
    refine g_iast B dX8_insert_35 h19 ?_
    replace h := Option.some.inj h
    subst h
    exact g_vret B hE (Nat.zero_le _) (Nat.zero_le _) dX8_insert_36
