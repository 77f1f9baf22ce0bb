theorem mi_X5_checkNextNumber : MI yX5_checkNextNumber cX5_checkNextNumber 3 (some .boolean) 2 := ⟨by decide +kernel, (mw (i := 799) (by decide +kernel) rfl), (mw (i := 169) (by decide +kernel) rfl), by decide +kernel, by decide +kernel⟩
theorem mi_X5_checkNumber : MI yX5_checkNumber cX5_checkNumber 3 (some .boolean) 2 := ⟨by decide +kernel, (mw (i := 804) (by decide +kernel) rfl), (mw (i := 169) (by decide +kernel) rfl), by decide +kernel, by decide +kernel⟩
theorem mi_X5_finishLine : MI yX5_finishLine cX5_finishLine 1 (some .boolean) 0 := ⟨by decide +kernel, (mw (i := 808) (by decide +kernel) rfl), (mw (i := 169) (by decide +kernel) rfl), by decide +kernel, by decide +kernel⟩
theorem mi_X5_isAtWord : MI yX5_isAtWord cX5_isAtWord 2 (some .boolean) 1 := ⟨by decide +kernel, (mw (i := 740) (by decide +kernel) rfl), (mw (i := 169) (by decide +kernel) rfl), by decide +kernel, by decide +kernel⟩
theorem mi_X5_kindAtWord : MI yX5_kindAtWord cX5_kindAtWord 1 (some .int) 0 := ⟨by decide +kernel, (mw (i := 825) (by decide +kernel) rfl), (mw (i := 169) (by decide +kernel) rfl), by decide +kernel, by decide +kernel⟩
theorem mi_X5_readActLine : MI yX5_readActLine cX5_readActLine 2 (some .boolean) 0 := ⟨by decide +kernel, (mw (i := 817) (by decide +kernel) rfl), (mw (i := 169) (by decide +kernel) rfl), by decide +kernel, by decide +kernel⟩
theorem mi_X5_readBody : MI yX5_readBody cX5_readBody 5 (some .boolean) 0 := ⟨by decide +kernel, (mw (i := 832) (by decide +kernel) rfl), (mw (i := 169) (by decide +kernel) rfl), by decide +kernel, by decide +kernel⟩
theorem mi_X5_readCancelLine : MI yX5_readCancelLine cX5_readCancelLine 1 (some .boolean) 0 := ⟨by decide +kernel, (mw (i := 994) (by decide +kernel) rfl), (mw (i := 169) (by decide +kernel) rfl), by decide +kernel, by decide +kernel⟩
theorem mi_X5_readCopyLine : MI yX5_readCopyLine cX5_readCopyLine 2 (some .boolean) 0 := ⟨by decide +kernel, (mw (i := 1003) (by decide +kernel) rfl), (mw (i := 169) (by decide +kernel) rfl), by decide +kernel, by decide +kernel⟩
theorem mi_X5_readHead : MI yX5_readHead cX5_readHead 1 (some .boolean) 0 := ⟨by decide +kernel, (mw (i := 735) (by decide +kernel) rfl), (mw (i := 169) (by decide +kernel) rfl), by decide +kernel, by decide +kernel⟩
theorem mi_X5_readInsertLine : MI yX5_readInsertLine cX5_readInsertLine 2 (some .boolean) 0 := ⟨by decide +kernel, (mw (i := 951) (by decide +kernel) rfl), (mw (i := 169) (by decide +kernel) rfl), by decide +kernel, by decide +kernel⟩
theorem mi_X5_readOutLine : MI yX5_readOutLine cX5_readOutLine 1 (some .boolean) 0 := ⟨by decide +kernel, (mw (i := 921) (by decide +kernel) rfl), (mw (i := 169) (by decide +kernel) rfl), by decide +kernel, by decide +kernel⟩
theorem mi_X5_readSealLine : MI yX5_readSealLine cX5_readSealLine 2 (some .boolean) 0 := ⟨by decide +kernel, (mw (i := 969) (by decide +kernel) rfl), (mw (i := 169) (by decide +kernel) rfl), by decide +kernel, by decide +kernel⟩
theorem mi_X5_readStrikeLine : MI yX5_readStrikeLine cX5_readStrikeLine 1 (some .boolean) 0 := ⟨by decide +kernel, (mw (i := 895) (by decide +kernel) rfl), (mw (i := 169) (by decide +kernel) rfl), by decide +kernel, by decide +kernel⟩
theorem mi_X7_isDigit : MI yX7_isDigit cX7_isDigit 1 (some .boolean) 1 := ⟨by decide +kernel, (mw (i := 724) (by decide +kernel) rfl), (mw (i := 170) (by decide +kernel) rfl), by decide +kernel, by decide +kernel⟩
theorem mi_X7_kindOfSign : MI yX7_kindOfSign cX7_kindOfSign 1 (some .int) 1 := ⟨by decide +kernel, (mw (i := 731) (by decide +kernel) rfl), (mw (i := 170) (by decide +kernel) rfl), by decide +kernel, by decide +kernel⟩
theorem mi_X7_readNumber : MI yX7_readNumber cX7_readNumber 1 none 0 := ⟨by decide +kernel, (mw (i := 728) (by decide +kernel) rfl), (mw (i := 170) (by decide +kernel) rfl), by decide +kernel, by decide +kernel⟩
theorem mi_X7_startAt : MI yX7_startAt cX7_startAt 3 none 2 := ⟨by decide +kernel, (mw (i := 704) (by decide +kernel) rfl), (mw (i := 170) (by decide +kernel) rfl), by decide +kernel, by decide +kernel⟩
theorem mi_X7_step : MI yX7_step cX7_step 1 none 0 := ⟨by decide +kernel, (mw (i := 711) (by decide +kernel) rfl), (mw (i := 170) (by decide +kernel) rfl), by decide +kernel, by decide +kernel⟩
theorem mi_X8_closeBehind : MI yX8_closeBehind cX8_closeBehind 2 none 1 := ⟨by decide +kernel, (mw (i := 845) (by decide +kernel) rfl), (mw (i := 164) (by decide +kernel) rfl), by decide +kernel, by decide +kernel⟩
theorem mi_X8_stage : MI yX8_stage cX8_stage 5 none 3 := ⟨by decide +kernel, (mw (i := 841) (by decide +kernel) rfl), (mw (i := 164) (by decide +kernel) rfl), by decide +kernel, by decide +kernel⟩
theorem mi_X9_packed : MI yX9_packed cX9_packed 4 (some .long) 1 := ⟨by decide +kernel, (mw (i := 743) (by decide +kernel) rfl), (mw (i := 162) (by decide +kernel) rfl), by decide +kernel, by decide +kernel⟩
theorem fl_RX5_28 : Fl RX5 28 5 4 (.object "NotaryBook$Book") false := ⟨RX5, TX5, 5, tyX5, rfl, by decide, rfl, lay_5, (mw (i := 483) (by decide +kernel) rfl), tyX5_ok, nmX5, tyX5_ok 4 (by decide), rfl, by decide, by decide⟩
theorem fl_RX5_45 : Fl RX5 45 7 2 .int false := ⟨RX7, TX7, 7, tyX7, rfl, by decide, rfl, lay_7, (mw (i := 452) (by decide +kernel) rfl), tyX7_ok, nmX7, tyX7_ok 2 (by decide), rfl, by decide, by decide⟩
theorem fl_RX5_48 : Fl RX5 48 7 3 .int false := ⟨RX7, TX7, 7, tyX7, rfl, by decide, rfl, lay_7, (mw (i := 453) (by decide +kernel) rfl), tyX7_ok, nmX7, tyX7_ok 3 (by decide), rfl, by decide, by decide⟩
theorem fl_RX5_64 : Fl RX5 64 7 6 .long false := ⟨RX7, TX7, 7, tyX7, rfl, by decide, rfl, lay_7, (mw (i := 459) (by decide +kernel) rfl), tyX7_ok, nmX7, tyX7_ok 6 (by decide), rfl, by decide, by decide⟩
theorem fl_RX5_72 : Fl RX5 72 7 5 .int false := ⟨RX7, TX7, 7, tyX7, rfl, by decide, rfl, lay_7, (mw (i := 457) (by decide +kernel) rfl), tyX7_ok, nmX7, tyX7_ok 5 (by decide), rfl, by decide, by decide⟩
theorem fl_RX5_87 : Fl RX5 87 1 0 .int false := ⟨RX1, TX1, 12, tyX1, rfl, by decide, rfl, lay_1, (mw (i := 385) (by decide +kernel) rfl), tyX1_ok, nmX1, tyX1_ok 0 (by decide), rfl, by decide, by decide⟩
theorem fl_RX5_90 : Fl RX5 90 1 1 .int false := ⟨RX1, TX1, 12, tyX1, rfl, by decide, rfl, lay_1, (mw (i := 388) (by decide +kernel) rfl), tyX1_ok, nmX1, tyX1_ok 1 (by decide), rfl, by decide, by decide⟩
theorem fl_RX5_93 : Fg RX5 93 1 9 := ⟨RX1, TX1, 12, rfl, by decide, rfl, lay_1, (mw (i := 407) (by decide +kernel) rfl)⟩
theorem fl_RX5_97 : Fl RX5 97 4 0 .int false := ⟨RX4, TX4, 4, tyX4, rfl, by decide, rfl, lay_4, (mw (i := 264) (by decide +kernel) rfl), tyX4_ok, nmX4, tyX4_ok 0 (by decide), rfl, by decide, by decide⟩
theorem fl_RX5_153 : Fl RX5 153 1 2 .int false := ⟨RX1, TX1, 12, tyX1, rfl, by decide, rfl, lay_1, (mw (i := 391) (by decide +kernel) rfl), tyX1_ok, nmX1, tyX1_ok 2 (by decide), rfl, by decide, by decide⟩
theorem fl_RX5_159 : Fl RX5 159 5 2 .int false := ⟨RX5, TX5, 5, tyX5, rfl, by decide, rfl, lay_5, (mw (i := 480) (by decide +kernel) rfl), tyX5_ok, nmX5, tyX5_ok 2 (by decide), rfl, by decide, by decide⟩
theorem fl_RX5_172 : Fg RX5 172 1 8 := ⟨RX1, TX1, 12, rfl, by decide, rfl, lay_1, (mw (i := 404) (by decide +kernel) rfl)⟩
theorem fl_RX5_176 : Fl RX5 176 8 0 .int false := ⟨RX8, TX8, 7, tyX8, rfl, by decide, rfl, lay_8, (mw (i := 219) (by decide +kernel) rfl), tyX8_ok, nmX8, tyX8_ok 0 (by decide), rfl, by decide, by decide⟩
theorem fl_RX5_225 : Fl RX5 225 1 3 .int false := ⟨RX1, TX1, 12, tyX1, rfl, by decide, rfl, lay_1, (mw (i := 394) (by decide +kernel) rfl), tyX1_ok, nmX1, tyX1_ok 3 (by decide), rfl, by decide, by decide⟩
theorem fl_RX7_62 : Fl RX7 62 7 5 .int false := ⟨RX7, TX7, 7, tyX7, rfl, by decide, rfl, lay_7, (mw (i := 458) (by decide +kernel) rfl), tyX7_ok, nmX7, tyX7_ok 5 (by decide), rfl, by decide, by decide⟩
theorem lk_RX5_51 : LV RX5 51 yX5_fail := ⟨(mw (i := 792) (by decide +kernel) rfl), (mw (i := 794) (by decide +kernel) rfl), (mw (i := 7) (by decide +kernel) rfl)⟩
theorem lk_RX5_55 : LV RX5 55 yX7_step := ⟨(mw (i := 800) (by decide +kernel) rfl), (mw (i := 709) (by decide +kernel) rfl), (mw (i := 710) (by decide +kernel) rfl)⟩
theorem lk_RX5_61 : LV RX5 61 yX5_readBody := ⟨(mw (i := 829) (by decide +kernel) rfl), (mw (i := 831) (by decide +kernel) rfl), (mw (i := 14) (by decide +kernel) rfl)⟩
theorem lk_RX5_68 : LNS RX5 "NotaryBook" 68 yX9_packed := ⟨(mn (i := 741) (by decide +kernel) rfl), (mw (i := 742) (by decide +kernel) rfl)⟩
theorem lk_RX5_75 : LV RX5 75 yX5_checkNumber := ⟨(mw (i := 801) (by decide +kernel) rfl), (mw (i := 803) (by decide +kernel) rfl), (mw (i := 9) (by decide +kernel) rfl)⟩
theorem lk_RX5_80 : LV RX5 80 yX5_isAtWord := ⟨(mw (i := 737) (by decide +kernel) rfl), (mw (i := 739) (by decide +kernel) rfl), (mw (i := 6) (by decide +kernel) rfl)⟩
theorem lk_RX5_84 : LV RX5 84 yX5_checkNextNumber := ⟨(mw (i := 796) (by decide +kernel) rfl), (mw (i := 798) (by decide +kernel) rfl), (mw (i := 8) (by decide +kernel) rfl)⟩
theorem lk_RX5_102 : LV RX5 102 yX5_finishLine := ⟨(mw (i := 805) (by decide +kernel) rfl), (mw (i := 807) (by decide +kernel) rfl), (mw (i := 10) (by decide +kernel) rfl)⟩
theorem lk_RX5_149 : LV RX5 149 yX1_openAct := ⟨(mw (i := 818) (by decide +kernel) rfl), (mw (i := 819) (by decide +kernel) rfl), (mw (i := 820) (by decide +kernel) rfl)⟩
theorem lk_RX5_156 : LV RX5 156 yX5_kindAtWord := ⟨(mw (i := 822) (by decide +kernel) rfl), (mw (i := 824) (by decide +kernel) rfl), (mw (i := 13) (by decide +kernel) rfl)⟩
theorem lk_RX5_162 : LV RX5 162 yX1_beginAct := ⟨(mw (i := 846) (by decide +kernel) rfl), (mw (i := 847) (by decide +kernel) rfl), (mw (i := 848) (by decide +kernel) rfl)⟩
theorem lk_RX5_181 : LV RX5 181 yX1_mostWords := ⟨(mw (i := 833) (by decide +kernel) rfl), (mw (i := 834) (by decide +kernel) rfl), (mw (i := 835) (by decide +kernel) rfl)⟩
theorem lk_RX5_184 : LV RX5 184 yX8_stage := ⟨(mw (i := 838) (by decide +kernel) rfl), (mw (i := 839) (by decide +kernel) rfl), (mw (i := 840) (by decide +kernel) rfl)⟩
theorem lk_RX5_188 : LV RX5 188 yX8_closeBehind := ⟨(mw (i := 842) (by decide +kernel) rfl), (mw (i := 843) (by decide +kernel) rfl), (mw (i := 844) (by decide +kernel) rfl)⟩
theorem lk_RX5_192 : LV RX5 192 yX1_openSize := ⟨(mw (i := 896) (by decide +kernel) rfl), (mw (i := 897) (by decide +kernel) rfl), (mw (i := 898) (by decide +kernel) rfl)⟩
theorem lk_RX5_195 : LV RX5 195 yX1_strikeReason := ⟨(mw (i := 901) (by decide +kernel) rfl), (mw (i := 902) (by decide +kernel) rfl), (mw (i := 903) (by decide +kernel) rfl)⟩
theorem lk_RX5_199 : LV RX5 199 yX1_strikeWord := ⟨(mw (i := 905) (by decide +kernel) rfl), (mw (i := 906) (by decide +kernel) rfl), (mw (i := 907) (by decide +kernel) rfl)⟩
theorem lk_RX5_202 : LV RX5 202 yX1_seekClauseAround := ⟨(mw (i := 922) (by decide +kernel) rfl), (mw (i := 923) (by decide +kernel) rfl), (mw (i := 924) (by decide +kernel) rfl)⟩
theorem lk_RX5_205 : LV RX5 205 yX1_strikeAround := ⟨(mw (i := 942) (by decide +kernel) rfl), (mw (i := 943) (by decide +kernel) rfl), (mw (i := 944) (by decide +kernel) rfl)⟩
theorem lk_RX5_208 : LV RX5 208 yX1_canInsert := ⟨(mw (i := 952) (by decide +kernel) rfl), (mw (i := 953) (by decide +kernel) rfl), (mw (i := 954) (by decide +kernel) rfl)⟩
theorem lk_RX5_211 : LV RX5 211 yX1_insertWord := ⟨(mw (i := 956) (by decide +kernel) rfl), (mw (i := 957) (by decide +kernel) rfl), (mw (i := 958) (by decide +kernel) rfl)⟩
theorem lk_RX5_215 : LV RX5 215 yX1_sealReason := ⟨(mw (i := 970) (by decide +kernel) rfl), (mw (i := 971) (by decide +kernel) rfl), (mw (i := 972) (by decide +kernel) rfl)⟩
theorem lk_RX5_219 : LV RX5 219 yX1_sealOpen := ⟨(mw (i := 982) (by decide +kernel) rfl), (mw (i := 983) (by decide +kernel) rfl), (mw (i := 984) (by decide +kernel) rfl)⟩
theorem lk_RX5_222 : LV RX5 222 yX1_cancelOpen := ⟨(mw (i := 995) (by decide +kernel) rfl), (mw (i := 996) (by decide +kernel) rfl), (mw (i := 997) (by decide +kernel) rfl)⟩
theorem lk_RX5_228 : LV RX5 228 yX1_copyReason := ⟨(mw (i := 1004) (by decide +kernel) rfl), (mw (i := 1005) (by decide +kernel) rfl), (mw (i := 1006) (by decide +kernel) rfl)⟩
theorem lk_RX5_231 : LV RX5 231 yX1_makeCopy := ⟨(mw (i := 1029) (by decide +kernel) rfl), (mw (i := 1030) (by decide +kernel) rfl), (mw (i := 1031) (by decide +kernel) rfl)⟩
theorem lk_RX7_28 : LV RX7 28 yX7_step := ⟨(mw (i := 708) (by decide +kernel) rfl), (mw (i := 709) (by decide +kernel) rfl), (mw (i := 710) (by decide +kernel) rfl)⟩
theorem lk_RX7_41 : LV RX7 41 yX7_readWord := ⟨(mw (i := 715) (by decide +kernel) rfl), (mw (i := 717) (by decide +kernel) rfl), (mw (i := 3) (by decide +kernel) rfl)⟩
theorem lk_RX7_44 : LSt RX7 44 yX7_isDigit := ⟨(mw (i := 722) (by decide +kernel) rfl), (mw (i := 723) (by decide +kernel) rfl)⟩
theorem lk_RX7_47 : LV RX7 47 yX7_readNumber := ⟨(mw (i := 725) (by decide +kernel) rfl), (mw (i := 727) (by decide +kernel) rfl), (mw (i := 4) (by decide +kernel) rfl)⟩
theorem lk_RX7_50 : LSt RX7 50 yX7_kindOfSign := ⟨(mw (i := 729) (by decide +kernel) rfl), (mw (i := 730) (by decide +kernel) rfl)⟩
theorem lk_RX9_543 : LV RX9 543 yJ0_length_8abf5 := ⟨(mw (i := 744) (by decide +kernel) rfl), (mw (i := 745) (by decide +kernel) rfl), (mw (i := 746) (by decide +kernel) rfl)⟩
theorem lk_RX9_546 : LV RX9 546 yJ0_charAt_5068e := ⟨(mw (i := 753) (by decide +kernel) rfl), (mw (i := 754) (by decide +kernel) rfl), (mw (i := 755) (by decide +kernel) rfl)⟩
theorem lk_RX9_547 : LSt RX9 547 yX9_joined := ⟨(mw (i := 791) (by decide +kernel) rfl), (mw (i := 720) (by decide +kernel) rfl)⟩
theorem mt_RX7_15 : MTW RX7 15 Lib.Math.min.name Lib.Math.min.code 2 := ⟨(mw (i := 705) (by decide +kernel) rfl), (mw (i := 706) (by decide +kernel) rfl), (mw (i := 181) (by decide +kernel) rfl), (mw (i := 707) (by decide +kernel) rfl)⟩
theorem dX7_isDigit_0 : decode cX7_isDigit 0 = .ok (.iload_n 0, 1) := by decide +kernel
theorem dX7_isDigit_1 : decode cX7_isDigit 1 = .ok (.bipush 48, 2) := by decide +kernel
theorem dX7_isDigit_3 : decode cX7_isDigit 3 = .ok (.if_icmp .lt 13, 3) := by decide +kernel
theorem dX7_isDigit_6 : decode cX7_isDigit 6 = .ok (.iload_n 0, 1) := by decide +kernel
theorem dX7_isDigit_7 : decode cX7_isDigit 7 = .ok (.bipush 57, 2) := by decide +kernel
theorem dX7_isDigit_9 : decode cX7_isDigit 9 = .ok (.if_icmp .gt 7, 3) := by decide +kernel
theorem dX7_isDigit_12 : decode cX7_isDigit 12 = .ok (.iconst 1, 1) := by decide +kernel
theorem dX7_isDigit_13 : decode cX7_isDigit 13 = .ok (.goto 4, 3) := by decide +kernel
theorem dX7_isDigit_16 : decode cX7_isDigit 16 = .ok (.iconst 0, 1) := by decide +kernel
theorem dX7_isDigit_17 : decode cX7_isDigit 17 = .ok (.ireturn, 1) := by decide +kernel
theorem dX7_readNumber_0 : decode cX7_readNumber 0 = .ok (.aload_n 0, 1) := by decide +kernel
theorem dX7_readNumber_1 : decode cX7_readNumber 1 = .ok (.iconst 0, 1) := by decide +kernel
theorem dX7_readNumber_2 : decode cX7_readNumber 2 = .ok (.putfield 62, 3) := by decide +kernel
theorem dX7_readNumber_5 : decode cX7_readNumber 5 = .ok (.aload_n 0, 1) := by decide +kernel
theorem dX7_readNumber_6 : decode cX7_readNumber 6 = .ok (.getfield 25, 3) := by decide +kernel
theorem dX7_readNumber_9 : decode cX7_readNumber 9 = .ok (.aload_n 0, 1) := by decide +kernel
theorem dX7_readNumber_10 : decode cX7_readNumber 10 = .ok (.getfield 21, 3) := by decide +kernel
theorem dX7_readNumber_13 : decode cX7_readNumber 13 = .ok (.if_icmp .ge 55, 3) := by decide +kernel
theorem dX7_readNumber_16 : decode cX7_readNumber 16 = .ok (.aload_n 0, 1) := by decide +kernel
theorem dX7_readNumber_17 : decode cX7_readNumber 17 = .ok (.getfield 9, 3) := by decide +kernel
theorem dX7_readNumber_20 : decode cX7_readNumber 20 = .ok (.aload_n 0, 1) := by decide +kernel
theorem dX7_readNumber_21 : decode cX7_readNumber 21 = .ok (.getfield 25, 3) := by decide +kernel
theorem dX7_readNumber_24 : decode cX7_readNumber 24 = .ok (.baload, 1) := by decide +kernel
theorem dX7_readNumber_25 : decode cX7_readNumber 25 = .ok (.invokestatic 44, 3) := by decide +kernel
theorem dX7_readNumber_28 : decode cX7_readNumber 28 = .ok (.ifCond .eq 40, 3) := by decide +kernel
theorem dX7_readNumber_31 : decode cX7_readNumber 31 = .ok (.aload_n 0, 1) := by decide +kernel
theorem dX7_readNumber_32 : decode cX7_readNumber 32 = .ok (.aload_n 0, 1) := by decide +kernel
theorem dX7_readNumber_33 : decode cX7_readNumber 33 = .ok (.getfield 62, 3) := by decide +kernel
theorem dX7_readNumber_36 : decode cX7_readNumber 36 = .ok (.bipush 10, 2) := by decide +kernel
theorem dX7_readNumber_38 : decode cX7_readNumber 38 = .ok (.imul, 1) := by decide +kernel
theorem dX7_readNumber_39 : decode cX7_readNumber 39 = .ok (.aload_n 0, 1) := by decide +kernel
theorem dX7_readNumber_40 : decode cX7_readNumber 40 = .ok (.getfield 9, 3) := by decide +kernel
theorem dX7_readNumber_43 : decode cX7_readNumber 43 = .ok (.aload_n 0, 1) := by decide +kernel
theorem dX7_readNumber_44 : decode cX7_readNumber 44 = .ok (.getfield 25, 3) := by decide +kernel
theorem dX7_readNumber_47 : decode cX7_readNumber 47 = .ok (.baload, 1) := by decide +kernel
theorem dX7_readNumber_48 : decode cX7_readNumber 48 = .ok (.iadd, 1) := by decide +kernel
theorem dX7_readNumber_49 : decode cX7_readNumber 49 = .ok (.bipush 48, 2) := by decide +kernel
theorem dX7_readNumber_51 : decode cX7_readNumber 51 = .ok (.isub, 1) := by decide +kernel
theorem dX7_readNumber_52 : decode cX7_readNumber 52 = .ok (.putfield 62, 3) := by decide +kernel
theorem dX7_readNumber_55 : decode cX7_readNumber 55 = .ok (.aload_n 0, 1) := by decide +kernel
theorem dX7_readNumber_56 : decode cX7_readNumber 56 = .ok (.dup, 1) := by decide +kernel
theorem dX7_readNumber_57 : decode cX7_readNumber 57 = .ok (.getfield 25, 3) := by decide +kernel
theorem dX7_readNumber_60 : decode cX7_readNumber 60 = .ok (.iconst 1, 1) := by decide +kernel
theorem dX7_readNumber_61 : decode cX7_readNumber 61 = .ok (.iadd, 1) := by decide +kernel
theorem dX7_readNumber_62 : decode cX7_readNumber 62 = .ok (.putfield 25, 3) := by decide +kernel
theorem dX7_readNumber_65 : decode cX7_readNumber 65 = .ok (.goto (-60), 3) := by decide +kernel
theorem dX7_readNumber_68 : decode cX7_readNumber 68 = .ok (.aload_n 0, 1) := by decide +kernel
theorem dX7_readNumber_69 : decode cX7_readNumber 69 = .ok (.aload_n 0, 1) := by decide +kernel
theorem dX7_readNumber_70 : decode cX7_readNumber 70 = .ok (.getfield 25, 3) := by decide +kernel
theorem dX7_readNumber_73 : decode cX7_readNumber 73 = .ok (.aload_n 0, 1) := by decide +kernel
theorem dX7_readNumber_74 : decode cX7_readNumber 74 = .ok (.getfield 31, 3) := by decide +kernel
theorem dX7_readNumber_77 : decode cX7_readNumber 77 = .ok (.isub, 1) := by decide +kernel
theorem dX7_readNumber_78 : decode cX7_readNumber 78 = .ok (.iconst 2, 1) := by decide +kernel
theorem dX7_readNumber_79 : decode cX7_readNumber 79 = .ok (.if_icmp .gt 7, 3) := by decide +kernel
theorem dX7_readNumber_82 : decode cX7_readNumber 82 = .ok (.iconst 2, 1) := by decide +kernel
theorem dX7_readNumber_83 : decode cX7_readNumber 83 = .ok (.goto 5, 3) := by decide +kernel
theorem dX7_readNumber_86 : decode cX7_readNumber 86 = .ok (.bipush 6, 2) := by decide +kernel
theorem dX7_readNumber_88 : decode cX7_readNumber 88 = .ok (.putfield 34, 3) := by decide +kernel
theorem dX7_readNumber_91 : decode cX7_readNumber 91 = .ok (.return_, 1) := by decide +kernel
theorem dX7_kindOfSign_0 : decode cX7_kindOfSign 0 = .ok (.iload_n 0, 1) := by decide +kernel
theorem dX7_kindOfSign_1 : decode cX7_kindOfSign 1 = .ok (.lookupswitch 41 #[(40, 37), (41, 39), (59, 35)], 35) := by decide +kernel
theorem dX7_kindOfSign_36 : decode cX7_kindOfSign 36 = .ok (.iconst 3, 1) := by decide +kernel
theorem dX7_kindOfSign_37 : decode cX7_kindOfSign 37 = .ok (.ireturn, 1) := by decide +kernel
theorem dX7_kindOfSign_38 : decode cX7_kindOfSign 38 = .ok (.iconst 4, 1) := by decide +kernel
theorem dX7_kindOfSign_39 : decode cX7_kindOfSign 39 = .ok (.ireturn, 1) := by decide +kernel
theorem dX7_kindOfSign_40 : decode cX7_kindOfSign 40 = .ok (.iconst 5, 1) := by decide +kernel
theorem dX7_kindOfSign_41 : decode cX7_kindOfSign 41 = .ok (.ireturn, 1) := by decide +kernel
theorem dX7_kindOfSign_42 : decode cX7_kindOfSign 42 = .ok (.bipush 6, 2) := by decide +kernel
theorem dX7_kindOfSign_44 : decode cX7_kindOfSign 44 = .ok (.ireturn, 1) := by decide +kernel
theorem dX7_step_0 : decode cX7_step 0 = .ok (.aload_n 0, 1) := by decide +kernel
theorem dX7_step_1 : decode cX7_step 1 = .ok (.getfield 25, 3) := by decide +kernel
theorem dX7_step_4 : decode cX7_step 4 = .ok (.aload_n 0, 1) := by decide +kernel
theorem dX7_step_5 : decode cX7_step 5 = .ok (.getfield 21, 3) := by decide +kernel
theorem dX7_step_8 : decode cX7_step 8 = .ok (.if_icmp .ge 30, 3) := by decide +kernel
theorem dX7_step_11 : decode cX7_step 11 = .ok (.aload_n 0, 1) := by decide +kernel
theorem dX7_step_12 : decode cX7_step 12 = .ok (.getfield 9, 3) := by decide +kernel
theorem dX7_step_15 : decode cX7_step 15 = .ok (.aload_n 0, 1) := by decide +kernel
theorem dX7_step_16 : decode cX7_step 16 = .ok (.getfield 25, 3) := by decide +kernel
theorem dX7_step_19 : decode cX7_step 19 = .ok (.baload, 1) := by decide +kernel
theorem dX7_step_20 : decode cX7_step 20 = .ok (.bipush 32, 2) := by decide +kernel
theorem dX7_step_22 : decode cX7_step 22 = .ok (.if_icmp .ne 16, 3) := by decide +kernel
theorem dX7_step_25 : decode cX7_step 25 = .ok (.aload_n 0, 1) := by decide +kernel
theorem dX7_step_26 : decode cX7_step 26 = .ok (.dup, 1) := by decide +kernel
theorem dX7_step_27 : decode cX7_step 27 = .ok (.getfield 25, 3) := by decide +kernel
theorem dX7_step_30 : decode cX7_step 30 = .ok (.iconst 1, 1) := by decide +kernel
theorem dX7_step_31 : decode cX7_step 31 = .ok (.iadd, 1) := by decide +kernel
theorem dX7_step_32 : decode cX7_step 32 = .ok (.putfield 25, 3) := by decide +kernel
theorem dX7_step_35 : decode cX7_step 35 = .ok (.goto (-35), 3) := by decide +kernel
theorem dX7_step_38 : decode cX7_step 38 = .ok (.aload_n 0, 1) := by decide +kernel
theorem dX7_step_39 : decode cX7_step 39 = .ok (.aload_n 0, 1) := by decide +kernel
theorem dX7_step_40 : decode cX7_step 40 = .ok (.getfield 25, 3) := by decide +kernel
theorem dX7_step_43 : decode cX7_step 43 = .ok (.putfield 31, 3) := by decide +kernel
theorem dX7_step_46 : decode cX7_step 46 = .ok (.aload_n 0, 1) := by decide +kernel
theorem dX7_step_47 : decode cX7_step 47 = .ok (.getfield 25, 3) := by decide +kernel
theorem dX7_step_50 : decode cX7_step 50 = .ok (.aload_n 0, 1) := by decide +kernel
theorem dX7_step_51 : decode cX7_step 51 = .ok (.getfield 21, 3) := by decide +kernel
theorem dX7_step_54 : decode cX7_step 54 = .ok (.if_icmp .lt 11, 3) := by decide +kernel
theorem dX7_step_57 : decode cX7_step 57 = .ok (.aload_n 0, 1) := by decide +kernel
theorem dX7_step_58 : decode cX7_step 58 = .ok (.iconst 0, 1) := by decide +kernel
theorem dX7_step_59 : decode cX7_step 59 = .ok (.putfield 34, 3) := by decide +kernel
theorem dX7_step_62 : decode cX7_step 62 = .ok (.goto 73, 3) := by decide +kernel
theorem dX7_step_65 : decode cX7_step 65 = .ok (.aload_n 0, 1) := by decide +kernel
theorem dX7_step_66 : decode cX7_step 66 = .ok (.getfield 9, 3) := by decide +kernel
theorem dX7_step_69 : decode cX7_step 69 = .ok (.aload_n 0, 1) := by decide +kernel
theorem dX7_step_70 : decode cX7_step 70 = .ok (.getfield 25, 3) := by decide +kernel
theorem dX7_step_73 : decode cX7_step 73 = .ok (.baload, 1) := by decide +kernel
theorem dX7_step_74 : decode cX7_step 74 = .ok (.invokestatic 37, 3) := by decide +kernel
theorem dX7_step_77 : decode cX7_step 77 = .ok (.ifCond .eq 10, 3) := by decide +kernel
theorem dX7_step_80 : decode cX7_step 80 = .ok (.aload_n 0, 1) := by decide +kernel
theorem dX7_step_81 : decode cX7_step 81 = .ok (.invokevirtual 41, 3) := by decide +kernel
theorem dX7_step_84 : decode cX7_step 84 = .ok (.goto 51, 3) := by decide +kernel
theorem dX7_step_87 : decode cX7_step 87 = .ok (.aload_n 0, 1) := by decide +kernel
theorem dX7_step_88 : decode cX7_step 88 = .ok (.getfield 9, 3) := by decide +kernel
theorem dX7_step_91 : decode cX7_step 91 = .ok (.aload_n 0, 1) := by decide +kernel
theorem dX7_step_92 : decode cX7_step 92 = .ok (.getfield 25, 3) := by decide +kernel
theorem dX7_step_95 : decode cX7_step 95 = .ok (.baload, 1) := by decide +kernel
theorem dX7_step_96 : decode cX7_step 96 = .ok (.invokestatic 44, 3) := by decide +kernel
theorem dX7_step_99 : decode cX7_step 99 = .ok (.ifCond .eq 10, 3) := by decide +kernel
theorem dX7_step_102 : decode cX7_step 102 = .ok (.aload_n 0, 1) := by decide +kernel
theorem dX7_step_103 : decode cX7_step 103 = .ok (.invokevirtual 47, 3) := by decide +kernel
theorem dX7_step_106 : decode cX7_step 106 = .ok (.goto 29, 3) := by decide +kernel
theorem dX7_step_109 : decode cX7_step 109 = .ok (.aload_n 0, 1) := by decide +kernel
theorem dX7_step_110 : decode cX7_step 110 = .ok (.aload_n 0, 1) := by decide +kernel
theorem dX7_step_111 : decode cX7_step 111 = .ok (.getfield 9, 3) := by decide +kernel
theorem dX7_step_114 : decode cX7_step 114 = .ok (.aload_n 0, 1) := by decide +kernel
theorem dX7_step_115 : decode cX7_step 115 = .ok (.getfield 25, 3) := by decide +kernel
theorem dX7_step_118 : decode cX7_step 118 = .ok (.baload, 1) := by decide +kernel
theorem dX7_step_119 : decode cX7_step 119 = .ok (.invokestatic 50, 3) := by decide +kernel
theorem dX7_step_122 : decode cX7_step 122 = .ok (.putfield 34, 3) := by decide +kernel
theorem dX7_step_125 : decode cX7_step 125 = .ok (.aload_n 0, 1) := by decide +kernel
theorem dX7_step_126 : decode cX7_step 126 = .ok (.dup, 1) := by decide +kernel
theorem dX7_step_127 : decode cX7_step 127 = .ok (.getfield 25, 3) := by decide +kernel
theorem dX7_step_130 : decode cX7_step 130 = .ok (.iconst 1, 1) := by decide +kernel
theorem dX7_step_131 : decode cX7_step 131 = .ok (.iadd, 1) := by decide +kernel
theorem dX7_step_132 : decode cX7_step 132 = .ok (.putfield 25, 3) := by decide +kernel
theorem dX7_step_135 : decode cX7_step 135 = .ok (.return_, 1) := by decide +kernel
theorem dX7_startAt_0 : decode cX7_startAt 0 = .ok (.aload_n 0, 1) := by decide +kernel
theorem dX7_startAt_1 : decode cX7_startAt 1 = .ok (.aload_n 1, 1) := by decide +kernel
theorem dX7_startAt_2 : decode cX7_startAt 2 = .ok (.putfield 9, 3) := by decide +kernel
theorem dX7_startAt_5 : decode cX7_startAt 5 = .ok (.aload_n 0, 1) := by decide +kernel
theorem dX7_startAt_6 : decode cX7_startAt 6 = .ok (.iload_n 2, 1) := by decide +kernel
theorem dX7_startAt_7 : decode cX7_startAt 7 = .ok (.aload_n 1, 1) := by decide +kernel
theorem dX7_startAt_8 : decode cX7_startAt 8 = .ok (.arraylength, 1) := by decide +kernel
theorem dX7_startAt_9 : decode cX7_startAt 9 = .ok (.invokestatic 15, 3) := by decide +kernel
theorem dX7_startAt_12 : decode cX7_startAt 12 = .ok (.putfield 21, 3) := by decide +kernel
theorem dX7_startAt_15 : decode cX7_startAt 15 = .ok (.aload_n 0, 1) := by decide +kernel
theorem dX7_startAt_16 : decode cX7_startAt 16 = .ok (.iconst 0, 1) := by decide +kernel
theorem dX7_startAt_17 : decode cX7_startAt 17 = .ok (.putfield 25, 3) := by decide +kernel
theorem dX7_startAt_20 : decode cX7_startAt 20 = .ok (.aload_n 0, 1) := by decide +kernel
theorem dX7_startAt_21 : decode cX7_startAt 21 = .ok (.invokevirtual 28, 3) := by decide +kernel
theorem dX7_startAt_24 : decode cX7_startAt 24 = .ok (.return_, 1) := by decide +kernel
theorem dX9_packed_0 : decode cX9_packed 0 = .ok (.lconst 0, 1) := by decide +kernel
theorem dX9_packed_1 : decode cX9_packed 1 = .ok (.lstore_n 1, 1) := by decide +kernel
theorem dX9_packed_2 : decode cX9_packed 2 = .ok (.iconst 0, 1) := by decide +kernel
theorem dX9_packed_3 : decode cX9_packed 3 = .ok (.istore_n 3, 1) := by decide +kernel
theorem dX9_packed_4 : decode cX9_packed 4 = .ok (.iload_n 3, 1) := by decide +kernel
theorem dX9_packed_5 : decode cX9_packed 5 = .ok (.aload_n 0, 1) := by decide +kernel
theorem dX9_packed_6 : decode cX9_packed 6 = .ok (.invokevirtual 543, 3) := by decide +kernel
theorem dX9_packed_9 : decode cX9_packed 9 = .ok (.if_icmp .ge 19, 3) := by decide +kernel
theorem dX9_packed_12 : decode cX9_packed 12 = .ok (.lload_n 1, 1) := by decide +kernel
theorem dX9_packed_13 : decode cX9_packed 13 = .ok (.aload_n 0, 1) := by decide +kernel
theorem dX9_packed_14 : decode cX9_packed 14 = .ok (.iload_n 3, 1) := by decide +kernel
theorem dX9_packed_15 : decode cX9_packed 15 = .ok (.invokevirtual 546, 3) := by decide +kernel
theorem dX9_packed_18 : decode cX9_packed 18 = .ok (.invokestatic 547, 3) := by decide +kernel
theorem dX9_packed_21 : decode cX9_packed 21 = .ok (.lstore_n 1, 1) := by decide +kernel
theorem dX9_packed_22 : decode cX9_packed 22 = .ok (.iinc 3 1, 3) := by decide +kernel
theorem dX9_packed_25 : decode cX9_packed 25 = .ok (.goto (-21), 3) := by decide +kernel
theorem dX9_packed_28 : decode cX9_packed 28 = .ok (.lload_n 1, 1) := by decide +kernel
theorem dX9_packed_29 : decode cX9_packed 29 = .ok (.lreturn, 1) := by decide +kernel
theorem dX5_isAtWord_0 : decode cX5_isAtWord 0 = .ok (.aload_n 0, 1) := by decide +kernel
theorem dX5_isAtWord_1 : decode cX5_isAtWord 1 = .ok (.getfield 12, 3) := by decide +kernel
theorem dX5_isAtWord_4 : decode cX5_isAtWord 4 = .ok (.getfield 48, 3) := by decide +kernel
theorem dX5_isAtWord_7 : decode cX5_isAtWord 7 = .ok (.iconst 1, 1) := by decide +kernel
theorem dX5_isAtWord_8 : decode cX5_isAtWord 8 = .ok (.if_icmp .ne 22, 3) := by decide +kernel
theorem dX5_isAtWord_11 : decode cX5_isAtWord 11 = .ok (.aload_n 0, 1) := by decide +kernel
theorem dX5_isAtWord_12 : decode cX5_isAtWord 12 = .ok (.getfield 12, 3) := by decide +kernel
theorem dX5_isAtWord_15 : decode cX5_isAtWord 15 = .ok (.getfield 64, 3) := by decide +kernel
theorem dX5_isAtWord_18 : decode cX5_isAtWord 18 = .ok (.aload_n 1, 1) := by decide +kernel
theorem dX5_isAtWord_19 : decode cX5_isAtWord 19 = .ok (.invokestatic 68, 3) := by decide +kernel
theorem dX5_isAtWord_22 : decode cX5_isAtWord 22 = .ok (.lcmp, 1) := by decide +kernel
theorem dX5_isAtWord_23 : decode cX5_isAtWord 23 = .ok (.ifCond .ne 7, 3) := by decide +kernel
theorem dX5_isAtWord_26 : decode cX5_isAtWord 26 = .ok (.iconst 1, 1) := by decide +kernel
theorem dX5_isAtWord_27 : decode cX5_isAtWord 27 = .ok (.goto 4, 3) := by decide +kernel
theorem dX5_isAtWord_30 : decode cX5_isAtWord 30 = .ok (.iconst 0, 1) := by decide +kernel
theorem dX5_isAtWord_31 : decode cX5_isAtWord 31 = .ok (.ireturn, 1) := by decide +kernel
theorem dX5_checkNumber_0 : decode cX5_checkNumber 0 = .ok (.aload_n 0, 1) := by decide +kernel
theorem dX5_checkNumber_1 : decode cX5_checkNumber 1 = .ok (.getfield 12, 3) := by decide +kernel
theorem dX5_checkNumber_4 : decode cX5_checkNumber 4 = .ok (.getfield 48, 3) := by decide +kernel
theorem dX5_checkNumber_7 : decode cX5_checkNumber 7 = .ok (.iconst 2, 1) := by decide +kernel
theorem dX5_checkNumber_8 : decode cX5_checkNumber 8 = .ok (.if_icmp .eq 9, 3) := by decide +kernel
theorem dX5_checkNumber_11 : decode cX5_checkNumber 11 = .ok (.aload_n 0, 1) := by decide +kernel
theorem dX5_checkNumber_12 : decode cX5_checkNumber 12 = .ok (.iconst 1, 1) := by decide +kernel
theorem dX5_checkNumber_13 : decode cX5_checkNumber 13 = .ok (.invokevirtual 51, 3) := by decide +kernel
theorem dX5_checkNumber_16 : decode cX5_checkNumber 16 = .ok (.ireturn, 1) := by decide +kernel
theorem dX5_checkNumber_17 : decode cX5_checkNumber 17 = .ok (.aload_n 0, 1) := by decide +kernel
theorem dX5_checkNumber_18 : decode cX5_checkNumber 18 = .ok (.getfield 12, 3) := by decide +kernel
theorem dX5_checkNumber_21 : decode cX5_checkNumber 21 = .ok (.getfield 72, 3) := by decide +kernel
theorem dX5_checkNumber_24 : decode cX5_checkNumber 24 = .ok (.iload_n 1, 1) := by decide +kernel
theorem dX5_checkNumber_25 : decode cX5_checkNumber 25 = .ok (.if_icmp .lt 14, 3) := by decide +kernel
theorem dX5_checkNumber_28 : decode cX5_checkNumber 28 = .ok (.aload_n 0, 1) := by decide +kernel
theorem dX5_checkNumber_29 : decode cX5_checkNumber 29 = .ok (.getfield 12, 3) := by decide +kernel
theorem dX5_checkNumber_32 : decode cX5_checkNumber 32 = .ok (.getfield 72, 3) := by decide +kernel
theorem dX5_checkNumber_35 : decode cX5_checkNumber 35 = .ok (.iload_n 2, 1) := by decide +kernel
theorem dX5_checkNumber_36 : decode cX5_checkNumber 36 = .ok (.if_icmp .le 11, 3) := by decide +kernel
theorem dX5_checkNumber_39 : decode cX5_checkNumber 39 = .ok (.aload_n 0, 1) := by decide +kernel
theorem dX5_checkNumber_40 : decode cX5_checkNumber 40 = .ok (.iconst 2, 1) := by decide +kernel
theorem dX5_checkNumber_41 : decode cX5_checkNumber 41 = .ok (.invokevirtual 51, 3) := by decide +kernel
theorem dX5_checkNumber_44 : decode cX5_checkNumber 44 = .ok (.ifCond .eq 7, 3) := by decide +kernel
theorem dX5_checkNumber_47 : decode cX5_checkNumber 47 = .ok (.iconst 1, 1) := by decide +kernel
theorem dX5_checkNumber_48 : decode cX5_checkNumber 48 = .ok (.goto 4, 3) := by decide +kernel
theorem dX5_checkNumber_51 : decode cX5_checkNumber 51 = .ok (.iconst 0, 1) := by decide +kernel
theorem dX5_checkNumber_52 : decode cX5_checkNumber 52 = .ok (.ireturn, 1) := by decide +kernel
theorem dX5_checkNextNumber_0 : decode cX5_checkNextNumber 0 = .ok (.aload_n 0, 1) := by decide +kernel
theorem dX5_checkNextNumber_1 : decode cX5_checkNextNumber 1 = .ok (.getfield 12, 3) := by decide +kernel
theorem dX5_checkNextNumber_4 : decode cX5_checkNextNumber 4 = .ok (.invokevirtual 55, 3) := by decide +kernel
theorem dX5_checkNextNumber_7 : decode cX5_checkNextNumber 7 = .ok (.aload_n 0, 1) := by decide +kernel
theorem dX5_checkNextNumber_8 : decode cX5_checkNextNumber 8 = .ok (.iload_n 1, 1) := by decide +kernel
theorem dX5_checkNextNumber_9 : decode cX5_checkNextNumber 9 = .ok (.iload_n 2, 1) := by decide +kernel
theorem dX5_checkNextNumber_10 : decode cX5_checkNextNumber 10 = .ok (.invokevirtual 75, 3) := by decide +kernel
theorem dX5_checkNextNumber_13 : decode cX5_checkNextNumber 13 = .ok (.ireturn, 1) := by decide +kernel
theorem dX5_finishLine_0 : decode cX5_finishLine 0 = .ok (.aload_n 0, 1) := by decide +kernel
theorem dX5_finishLine_1 : decode cX5_finishLine 1 = .ok (.getfield 12, 3) := by decide +kernel
theorem dX5_finishLine_4 : decode cX5_finishLine 4 = .ok (.invokevirtual 55, 3) := by decide +kernel
theorem dX5_finishLine_7 : decode cX5_finishLine 7 = .ok (.iconst 1, 1) := by decide +kernel
theorem dX5_finishLine_8 : decode cX5_finishLine 8 = .ok (.ireturn, 1) := by decide +kernel
theorem dX5_readHead_0 : decode cX5_readHead 0 = .ok (.aload_n 0, 1) := by decide +kernel
theorem dX5_readHead_1 : decode cX5_readHead 1 = .ok (.ldc 79, 2) := by decide +kernel
theorem dX5_readHead_3 : decode cX5_readHead 3 = .ok (.invokevirtual 80, 3) := by decide +kernel
theorem dX5_readHead_6 : decode cX5_readHead 6 = .ok (.ifCond .ne 9, 3) := by decide +kernel
theorem dX5_readHead_9 : decode cX5_readHead 9 = .ok (.aload_n 0, 1) := by decide +kernel
theorem dX5_readHead_10 : decode cX5_readHead 10 = .ok (.iconst 1, 1) := by decide +kernel
theorem dX5_readHead_11 : decode cX5_readHead 11 = .ok (.invokevirtual 51, 3) := by decide +kernel
theorem dX5_readHead_14 : decode cX5_readHead 14 = .ok (.ireturn, 1) := by decide +kernel
theorem dX5_readHead_15 : decode cX5_readHead 15 = .ok (.aload_n 0, 1) := by decide +kernel
theorem dX5_readHead_16 : decode cX5_readHead 16 = .ok (.iconst 4, 1) := by decide +kernel
theorem dX5_readHead_17 : decode cX5_readHead 17 = .ok (.bipush 20, 2) := by decide +kernel
theorem dX5_readHead_19 : decode cX5_readHead 19 = .ok (.invokevirtual 84, 3) := by decide +kernel
theorem dX5_readHead_22 : decode cX5_readHead 22 = .ok (.ifCond .ne 5, 3) := by decide +kernel
theorem dX5_readHead_25 : decode cX5_readHead 25 = .ok (.iconst 0, 1) := by decide +kernel
theorem dX5_readHead_26 : decode cX5_readHead 26 = .ok (.ireturn, 1) := by decide +kernel
theorem dX5_readHead_27 : decode cX5_readHead 27 = .ok (.aload_n 0, 1) := by decide +kernel
theorem dX5_readHead_28 : decode cX5_readHead 28 = .ok (.getfield 28, 3) := by decide +kernel
theorem dX5_readHead_31 : decode cX5_readHead 31 = .ok (.aload_n 0, 1) := by decide +kernel
theorem dX5_readHead_32 : decode cX5_readHead 32 = .ok (.getfield 12, 3) := by decide +kernel
theorem dX5_readHead_35 : decode cX5_readHead 35 = .ok (.getfield 72, 3) := by decide +kernel
theorem dX5_readHead_38 : decode cX5_readHead 38 = .ok (.putfield 87, 3) := by decide +kernel
theorem dX5_readHead_41 : decode cX5_readHead 41 = .ok (.aload_n 0, 1) := by decide +kernel
theorem dX5_readHead_42 : decode cX5_readHead 42 = .ok (.iconst 0, 1) := by decide +kernel
theorem dX5_readHead_43 : decode cX5_readHead 43 = .ok (.iconst 4, 1) := by decide +kernel
theorem dX5_readHead_44 : decode cX5_readHead 44 = .ok (.invokevirtual 84, 3) := by decide +kernel
theorem dX5_readHead_47 : decode cX5_readHead 47 = .ok (.ifCond .ne 5, 3) := by decide +kernel
theorem dX5_readHead_50 : decode cX5_readHead 50 = .ok (.iconst 0, 1) := by decide +kernel
theorem dX5_readHead_51 : decode cX5_readHead 51 = .ok (.ireturn, 1) := by decide +kernel
theorem dX5_readHead_52 : decode cX5_readHead 52 = .ok (.aload_n 0, 1) := by decide +kernel
theorem dX5_readHead_53 : decode cX5_readHead 53 = .ok (.getfield 28, 3) := by decide +kernel
theorem dX5_readHead_56 : decode cX5_readHead 56 = .ok (.aload_n 0, 1) := by decide +kernel
theorem dX5_readHead_57 : decode cX5_readHead 57 = .ok (.getfield 12, 3) := by decide +kernel
theorem dX5_readHead_60 : decode cX5_readHead 60 = .ok (.getfield 72, 3) := by decide +kernel
theorem dX5_readHead_63 : decode cX5_readHead 63 = .ok (.putfield 90, 3) := by decide +kernel
theorem dX5_readHead_66 : decode cX5_readHead 66 = .ok (.aload_n 0, 1) := by decide +kernel
theorem dX5_readHead_67 : decode cX5_readHead 67 = .ok (.iconst 2, 1) := by decide +kernel
theorem dX5_readHead_68 : decode cX5_readHead 68 = .ok (.iconst 4, 1) := by decide +kernel
theorem dX5_readHead_69 : decode cX5_readHead 69 = .ok (.invokevirtual 84, 3) := by decide +kernel
theorem dX5_readHead_72 : decode cX5_readHead 72 = .ok (.ifCond .ne 5, 3) := by decide +kernel
theorem dX5_readHead_75 : decode cX5_readHead 75 = .ok (.iconst 0, 1) := by decide +kernel
theorem dX5_readHead_76 : decode cX5_readHead 76 = .ok (.ireturn, 1) := by decide +kernel
theorem dX5_readHead_77 : decode cX5_readHead 77 = .ok (.aload_n 0, 1) := by decide +kernel
theorem dX5_readHead_78 : decode cX5_readHead 78 = .ok (.getfield 28, 3) := by decide +kernel
theorem dX5_readHead_81 : decode cX5_readHead 81 = .ok (.getfield 93, 3) := by decide +kernel
theorem dX5_readHead_84 : decode cX5_readHead 84 = .ok (.aload_n 0, 1) := by decide +kernel
theorem dX5_readHead_85 : decode cX5_readHead 85 = .ok (.getfield 12, 3) := by decide +kernel
theorem dX5_readHead_88 : decode cX5_readHead 88 = .ok (.getfield 72, 3) := by decide +kernel
theorem dX5_readHead_91 : decode cX5_readHead 91 = .ok (.putfield 97, 3) := by decide +kernel
theorem dX5_readHead_94 : decode cX5_readHead 94 = .ok (.aload_n 0, 1) := by decide +kernel
theorem dX5_readHead_95 : decode cX5_readHead 95 = .ok (.invokevirtual 102, 3) := by decide +kernel
theorem dX5_readHead_98 : decode cX5_readHead 98 = .ok (.ireturn, 1) := by decide +kernel
theorem dX5_kindAtWord_0 : decode cX5_kindAtWord 0 = .ok (.aload_n 0, 1) := by decide +kernel
theorem dX5_kindAtWord_1 : decode cX5_kindAtWord 1 = .ok (.ldc 166, 2) := by decide +kernel
theorem dX5_kindAtWord_3 : decode cX5_kindAtWord 3 = .ok (.invokevirtual 80, 3) := by decide +kernel
theorem dX5_kindAtWord_6 : decode cX5_kindAtWord 6 = .ok (.ifCond .eq 5, 3) := by decide +kernel
theorem dX5_kindAtWord_9 : decode cX5_kindAtWord 9 = .ok (.iconst 0, 1) := by decide +kernel
theorem dX5_kindAtWord_10 : decode cX5_kindAtWord 10 = .ok (.ireturn, 1) := by decide +kernel
theorem dX5_kindAtWord_11 : decode cX5_kindAtWord 11 = .ok (.aload_n 0, 1) := by decide +kernel
theorem dX5_kindAtWord_12 : decode cX5_kindAtWord 12 = .ok (.ldc 168, 2) := by decide +kernel
theorem dX5_kindAtWord_14 : decode cX5_kindAtWord 14 = .ok (.invokevirtual 80, 3) := by decide +kernel
theorem dX5_kindAtWord_17 : decode cX5_kindAtWord 17 = .ok (.ifCond .eq 5, 3) := by decide +kernel
theorem dX5_kindAtWord_20 : decode cX5_kindAtWord 20 = .ok (.iconst 1, 1) := by decide +kernel
theorem dX5_kindAtWord_21 : decode cX5_kindAtWord 21 = .ok (.ireturn, 1) := by decide +kernel
theorem dX5_kindAtWord_22 : decode cX5_kindAtWord 22 = .ok (.aload_n 0, 1) := by decide +kernel
theorem dX5_kindAtWord_23 : decode cX5_kindAtWord 23 = .ok (.ldc 170, 2) := by decide +kernel
theorem dX5_kindAtWord_25 : decode cX5_kindAtWord 25 = .ok (.invokevirtual 80, 3) := by decide +kernel
theorem dX5_kindAtWord_28 : decode cX5_kindAtWord 28 = .ok (.ifCond .eq 7, 3) := by decide +kernel
theorem dX5_kindAtWord_31 : decode cX5_kindAtWord 31 = .ok (.iconst 2, 1) := by decide +kernel
theorem dX5_kindAtWord_32 : decode cX5_kindAtWord 32 = .ok (.goto 4, 3) := by decide +kernel
theorem dX5_kindAtWord_35 : decode cX5_kindAtWord 35 = .ok (.iconst (-1), 1) := by decide +kernel
theorem dX5_kindAtWord_36 : decode cX5_kindAtWord 36 = .ok (.ireturn, 1) := by decide +kernel
theorem dX8_stage_0 : decode cX8_stage 0 = .ok (.iload_n 1, 1) := by decide +kernel
theorem dX8_stage_1 : decode cX8_stage 1 = .ok (.aload_n 0, 1) := by decide +kernel
theorem dX8_stage_2 : decode cX8_stage 2 = .ok (.getfield 32, 3) := by decide +kernel
theorem dX8_stage_5 : decode cX8_stage 5 = .ok (.if_icmp .lt 46, 3) := by decide +kernel
theorem dX8_stage_8 : decode cX8_stage 8 = .ok (.iload_n 1, 1) := by decide +kernel
theorem dX8_stage_9 : decode cX8_stage 9 = .ok (.sipush 240, 3) := by decide +kernel
theorem dX8_stage_12 : decode cX8_stage 12 = .ok (.if_icmp .ge 39, 3) := by decide +kernel
theorem dX8_stage_15 : decode cX8_stage 15 = .ok (.aload_n 0, 1) := by decide +kernel
theorem dX8_stage_16 : decode cX8_stage 16 = .ok (.getfield 11, 3) := by decide +kernel
theorem dX8_stage_19 : decode cX8_stage 19 = .ok (.iload_n 1, 1) := by decide +kernel
theorem dX8_stage_20 : decode cX8_stage 20 = .ok (.lload_n 2, 1) := by decide +kernel
theorem dX8_stage_21 : decode cX8_stage 21 = .ok (.lastore, 1) := by decide +kernel
theorem dX8_stage_22 : decode cX8_stage 22 = .ok (.aload_n 0, 1) := by decide +kernel
theorem dX8_stage_23 : decode cX8_stage 23 = .ok (.getfield 15, 3) := by decide +kernel
theorem dX8_stage_26 : decode cX8_stage 26 = .ok (.iload_n 1, 1) := by decide +kernel
theorem dX8_stage_27 : decode cX8_stage 27 = .ok (.iload 4, 2) := by decide +kernel
theorem dX8_stage_29 : decode cX8_stage 29 = .ok (.iastore, 1) := by decide +kernel
theorem dX8_stage_30 : decode cX8_stage 30 = .ok (.aload_n 0, 1) := by decide +kernel
theorem dX8_stage_31 : decode cX8_stage 31 = .ok (.getfield 19, 3) := by decide +kernel
theorem dX8_stage_34 : decode cX8_stage 34 = .ok (.iload_n 1, 1) := by decide +kernel
theorem dX8_stage_35 : decode cX8_stage 35 = .ok (.iconst 0, 1) := by decide +kernel
theorem dX8_stage_36 : decode cX8_stage 36 = .ok (.iastore, 1) := by decide +kernel
theorem dX8_stage_37 : decode cX8_stage 37 = .ok (.aload_n 0, 1) := by decide +kernel
theorem dX8_stage_38 : decode cX8_stage 38 = .ok (.getfield 22, 3) := by decide +kernel
theorem dX8_stage_41 : decode cX8_stage 41 = .ok (.iload_n 1, 1) := by decide +kernel
theorem dX8_stage_42 : decode cX8_stage 42 = .ok (.iconst 0, 1) := by decide +kernel
theorem dX8_stage_43 : decode cX8_stage 43 = .ok (.bastore, 1) := by decide +kernel
theorem dX8_stage_44 : decode cX8_stage 44 = .ok (.aload_n 0, 1) := by decide +kernel
theorem dX8_stage_45 : decode cX8_stage 45 = .ok (.getfield 26, 3) := by decide +kernel
theorem dX8_stage_48 : decode cX8_stage 48 = .ok (.iload_n 1, 1) := by decide +kernel
theorem dX8_stage_49 : decode cX8_stage 49 = .ok (.iconst 0, 1) := by decide +kernel
theorem dX8_stage_50 : decode cX8_stage 50 = .ok (.iastore, 1) := by decide +kernel
theorem dX8_stage_51 : decode cX8_stage 51 = .ok (.return_, 1) := by decide +kernel
theorem dX8_closeBehind_0 : decode cX8_closeBehind 0 = .ok (.iload_n 1, 1) := by decide +kernel
theorem dX8_closeBehind_1 : decode cX8_closeBehind 1 = .ok (.aload_n 0, 1) := by decide +kernel
theorem dX8_closeBehind_2 : decode cX8_closeBehind 2 = .ok (.getfield 32, 3) := by decide +kernel
theorem dX8_closeBehind_5 : decode cX8_closeBehind 5 = .ok (.if_icmp .lt 20, 3) := by decide +kernel
theorem dX8_closeBehind_8 : decode cX8_closeBehind 8 = .ok (.iload_n 1, 1) := by decide +kernel
theorem dX8_closeBehind_9 : decode cX8_closeBehind 9 = .ok (.sipush 240, 3) := by decide +kernel
theorem dX8_closeBehind_12 : decode cX8_closeBehind 12 = .ok (.if_icmp .ge 13, 3) := by decide +kernel
theorem dX8_closeBehind_15 : decode cX8_closeBehind 15 = .ok (.aload_n 0, 1) := by decide +kernel
theorem dX8_closeBehind_16 : decode cX8_closeBehind 16 = .ok (.getfield 19, 3) := by decide +kernel
theorem dX8_closeBehind_19 : decode cX8_closeBehind 19 = .ok (.iload_n 1, 1) := by decide +kernel
theorem dX8_closeBehind_20 : decode cX8_closeBehind 20 = .ok (.dup2, 1) := by decide +kernel
theorem dX8_closeBehind_21 : decode cX8_closeBehind 21 = .ok (.iaload, 1) := by decide +kernel
theorem dX8_closeBehind_22 : decode cX8_closeBehind 22 = .ok (.iconst 1, 1) := by decide +kernel
theorem dX8_closeBehind_23 : decode cX8_closeBehind 23 = .ok (.iadd, 1) := by decide +kernel
theorem dX8_closeBehind_24 : decode cX8_closeBehind 24 = .ok (.iastore, 1) := by decide +kernel
theorem dX8_closeBehind_25 : decode cX8_closeBehind 25 = .ok (.return_, 1) := by decide +kernel
theorem dX5_readBody_0 : decode cX5_readBody 0 = .ok (.aload_n 0, 1) := by decide +kernel
theorem dX5_readBody_1 : decode cX5_readBody 1 = .ok (.getfield 28, 3) := by decide +kernel
theorem dX5_readBody_4 : decode cX5_readBody 4 = .ok (.getfield 172, 3) := by decide +kernel
theorem dX5_readBody_7 : decode cX5_readBody 7 = .ok (.astore_n 1, 1) := by decide +kernel
theorem dX5_readBody_8 : decode cX5_readBody 8 = .ok (.iconst 0, 1) := by decide +kernel
theorem dX5_readBody_9 : decode cX5_readBody 9 = .ok (.istore_n 2, 1) := by decide +kernel
theorem dX5_readBody_10 : decode cX5_readBody 10 = .ok (.iconst 0, 1) := by decide +kernel
theorem dX5_readBody_11 : decode cX5_readBody 11 = .ok (.istore_n 3, 1) := by decide +kernel
theorem dX5_readBody_12 : decode cX5_readBody 12 = .ok (.aload_n 0, 1) := by decide +kernel
theorem dX5_readBody_13 : decode cX5_readBody 13 = .ok (.iconst 0, 1) := by decide +kernel
theorem dX5_readBody_14 : decode cX5_readBody 14 = .ok (.putfield 159, 3) := by decide +kernel
theorem dX5_readBody_17 : decode cX5_readBody 17 = .ok (.iconst 0, 1) := by decide +kernel
theorem dX5_readBody_18 : decode cX5_readBody 18 = .ok (.istore 4, 2) := by decide +kernel
theorem dX5_readBody_20 : decode cX5_readBody 20 = .ok (.iload 4, 2) := by decide +kernel
theorem dX5_readBody_22 : decode cX5_readBody 22 = .ok (.aload_n 0, 1) := by decide +kernel
theorem dX5_readBody_23 : decode cX5_readBody 23 = .ok (.getfield 12, 3) := by decide +kernel
theorem dX5_readBody_26 : decode cX5_readBody 26 = .ok (.getfield 45, 3) := by decide +kernel
theorem dX5_readBody_29 : decode cX5_readBody 29 = .ok (.if_icmp .gt 184, 3) := by decide +kernel
theorem dX5_readBody_32 : decode cX5_readBody 32 = .ok (.aload_n 0, 1) := by decide +kernel
theorem dX5_readBody_33 : decode cX5_readBody 33 = .ok (.getfield 12, 3) := by decide +kernel
theorem dX5_readBody_36 : decode cX5_readBody 36 = .ok (.getfield 48, 3) := by decide +kernel
theorem dX5_readBody_39 : decode cX5_readBody 39 = .ok (.iconst 1, 1) := by decide +kernel
theorem dX5_readBody_40 : decode cX5_readBody 40 = .ok (.if_icmp .ne 64, 3) := by decide +kernel
theorem dX5_readBody_43 : decode cX5_readBody 43 = .ok (.aload_n 1, 1) := by decide +kernel
theorem dX5_readBody_44 : decode cX5_readBody 44 = .ok (.getfield 176, 3) := by decide +kernel
theorem dX5_readBody_47 : decode cX5_readBody 47 = .ok (.aload_n 0, 1) := by decide +kernel
theorem dX5_readBody_48 : decode cX5_readBody 48 = .ok (.getfield 159, 3) := by decide +kernel
theorem dX5_readBody_51 : decode cX5_readBody 51 = .ok (.iadd, 1) := by decide +kernel
theorem dX5_readBody_52 : decode cX5_readBody 52 = .ok (.aload_n 0, 1) := by decide +kernel
theorem dX5_readBody_53 : decode cX5_readBody 53 = .ok (.getfield 28, 3) := by decide +kernel
theorem dX5_readBody_56 : decode cX5_readBody 56 = .ok (.invokevirtual 181, 3) := by decide +kernel
theorem dX5_readBody_59 : decode cX5_readBody 59 = .ok (.if_icmp .lt 9, 3) := by decide +kernel
theorem dX5_readBody_62 : decode cX5_readBody 62 = .ok (.aload_n 0, 1) := by decide +kernel
theorem dX5_readBody_63 : decode cX5_readBody 63 = .ok (.iconst 4, 1) := by decide +kernel
theorem dX5_readBody_64 : decode cX5_readBody 64 = .ok (.invokevirtual 51, 3) := by decide +kernel
theorem dX5_readBody_67 : decode cX5_readBody 67 = .ok (.ireturn, 1) := by decide +kernel
theorem dX5_readBody_68 : decode cX5_readBody 68 = .ok (.aload_n 1, 1) := by decide +kernel
theorem dX5_readBody_69 : decode cX5_readBody 69 = .ok (.aload_n 1, 1) := by decide +kernel
theorem dX5_readBody_70 : decode cX5_readBody 70 = .ok (.getfield 176, 3) := by decide +kernel
theorem dX5_readBody_73 : decode cX5_readBody 73 = .ok (.aload_n 0, 1) := by decide +kernel
theorem dX5_readBody_74 : decode cX5_readBody 74 = .ok (.getfield 159, 3) := by decide +kernel
theorem dX5_readBody_77 : decode cX5_readBody 77 = .ok (.iadd, 1) := by decide +kernel
theorem dX5_readBody_78 : decode cX5_readBody 78 = .ok (.aload_n 0, 1) := by decide +kernel
theorem dX5_readBody_79 : decode cX5_readBody 79 = .ok (.getfield 12, 3) := by decide +kernel
theorem dX5_readBody_82 : decode cX5_readBody 82 = .ok (.getfield 64, 3) := by decide +kernel
theorem dX5_readBody_85 : decode cX5_readBody 85 = .ok (.iload_n 3, 1) := by decide +kernel
theorem dX5_readBody_86 : decode cX5_readBody 86 = .ok (.invokevirtual 184, 3) := by decide +kernel
theorem dX5_readBody_89 : decode cX5_readBody 89 = .ok (.aload_n 0, 1) := by decide +kernel
theorem dX5_readBody_90 : decode cX5_readBody 90 = .ok (.dup, 1) := by decide +kernel
theorem dX5_readBody_91 : decode cX5_readBody 91 = .ok (.getfield 159, 3) := by decide +kernel
theorem dX5_readBody_94 : decode cX5_readBody 94 = .ok (.iconst 1, 1) := by decide +kernel
theorem dX5_readBody_95 : decode cX5_readBody 95 = .ok (.iadd, 1) := by decide +kernel
theorem dX5_readBody_96 : decode cX5_readBody 96 = .ok (.putfield 159, 3) := by decide +kernel
theorem dX5_readBody_99 : decode cX5_readBody 99 = .ok (.iconst 0, 1) := by decide +kernel
theorem dX5_readBody_100 : decode cX5_readBody 100 = .ok (.istore_n 3, 1) := by decide +kernel
theorem dX5_readBody_101 : decode cX5_readBody 101 = .ok (.goto 99, 3) := by decide +kernel
theorem dX5_readBody_104 : decode cX5_readBody 104 = .ok (.aload_n 0, 1) := by decide +kernel
theorem dX5_readBody_105 : decode cX5_readBody 105 = .ok (.getfield 12, 3) := by decide +kernel
theorem dX5_readBody_108 : decode cX5_readBody 108 = .ok (.getfield 48, 3) := by decide +kernel
theorem dX5_readBody_111 : decode cX5_readBody 111 = .ok (.iconst 4, 1) := by decide +kernel
theorem dX5_readBody_112 : decode cX5_readBody 112 = .ok (.if_icmp .ne 23, 3) := by decide +kernel
theorem dX5_readBody_115 : decode cX5_readBody 115 = .ok (.iload_n 2, 1) := by decide +kernel
theorem dX5_readBody_116 : decode cX5_readBody 116 = .ok (.iconst 4, 1) := by decide +kernel
theorem dX5_readBody_117 : decode cX5_readBody 117 = .ok (.if_icmp .ne 9, 3) := by decide +kernel
theorem dX5_readBody_120 : decode cX5_readBody 120 = .ok (.aload_n 0, 1) := by decide +kernel
theorem dX5_readBody_121 : decode cX5_readBody 121 = .ok (.iconst 4, 1) := by decide +kernel
theorem dX5_readBody_122 : decode cX5_readBody 122 = .ok (.invokevirtual 51, 3) := by decide +kernel
theorem dX5_readBody_125 : decode cX5_readBody 125 = .ok (.ireturn, 1) := by decide +kernel
theorem dX5_readBody_126 : decode cX5_readBody 126 = .ok (.iinc 2 1, 3) := by decide +kernel
theorem dX5_readBody_129 : decode cX5_readBody 129 = .ok (.iinc 3 1, 3) := by decide +kernel
theorem dX5_readBody_132 : decode cX5_readBody 132 = .ok (.goto 68, 3) := by decide +kernel
theorem dX5_readBody_135 : decode cX5_readBody 135 = .ok (.aload_n 0, 1) := by decide +kernel
theorem dX5_readBody_136 : decode cX5_readBody 136 = .ok (.getfield 12, 3) := by decide +kernel
theorem dX5_readBody_139 : decode cX5_readBody 139 = .ok (.getfield 48, 3) := by decide +kernel
theorem dX5_readBody_142 : decode cX5_readBody 142 = .ok (.iconst 5, 1) := by decide +kernel
theorem dX5_readBody_143 : decode cX5_readBody 143 = .ok (.if_icmp .ne 32, 3) := by decide +kernel
theorem dX5_readBody_146 : decode cX5_readBody 146 = .ok (.iload_n 2, 1) := by decide +kernel
theorem dX5_readBody_147 : decode cX5_readBody 147 = .ok (.ifCond .le 28, 3) := by decide +kernel
theorem dX5_readBody_150 : decode cX5_readBody 150 = .ok (.iload_n 3, 1) := by decide +kernel
theorem dX5_readBody_151 : decode cX5_readBody 151 = .ok (.ifCond .ne 24, 3) := by decide +kernel
theorem dX5_readBody_154 : decode cX5_readBody 154 = .ok (.aload_n 1, 1) := by decide +kernel
theorem dX5_readBody_155 : decode cX5_readBody 155 = .ok (.aload_n 1, 1) := by decide +kernel
theorem dX5_readBody_156 : decode cX5_readBody 156 = .ok (.getfield 176, 3) := by decide +kernel
theorem dX5_readBody_159 : decode cX5_readBody 159 = .ok (.aload_n 0, 1) := by decide +kernel
theorem dX5_readBody_160 : decode cX5_readBody 160 = .ok (.getfield 159, 3) := by decide +kernel
theorem dX5_readBody_163 : decode cX5_readBody 163 = .ok (.iadd, 1) := by decide +kernel
theorem dX5_readBody_164 : decode cX5_readBody 164 = .ok (.iconst 1, 1) := by decide +kernel
theorem dX5_readBody_165 : decode cX5_readBody 165 = .ok (.isub, 1) := by decide +kernel
theorem dX5_readBody_166 : decode cX5_readBody 166 = .ok (.invokevirtual 188, 3) := by decide +kernel
theorem dX5_readBody_169 : decode cX5_readBody 169 = .ok (.iinc 2 (-1), 3) := by decide +kernel
theorem dX5_readBody_172 : decode cX5_readBody 172 = .ok (.goto 28, 3) := by decide +kernel
theorem dX5_readBody_175 : decode cX5_readBody 175 = .ok (.iload_n 2, 1) := by decide +kernel
theorem dX5_readBody_176 : decode cX5_readBody 176 = .ok (.ifCond .ne 10, 3) := by decide +kernel
theorem dX5_readBody_179 : decode cX5_readBody 179 = .ok (.aload_n 0, 1) := by decide +kernel
theorem dX5_readBody_180 : decode cX5_readBody 180 = .ok (.getfield 159, 3) := by decide +kernel
theorem dX5_readBody_183 : decode cX5_readBody 183 = .ok (.ifCond .gt 11, 3) := by decide +kernel
theorem dX5_readBody_186 : decode cX5_readBody 186 = .ok (.aload_n 0, 1) := by decide +kernel
theorem dX5_readBody_187 : decode cX5_readBody 187 = .ok (.iconst 1, 1) := by decide +kernel
theorem dX5_readBody_188 : decode cX5_readBody 188 = .ok (.invokevirtual 51, 3) := by decide +kernel
theorem dX5_readBody_191 : decode cX5_readBody 191 = .ok (.ifCond .eq 7, 3) := by decide +kernel
theorem dX5_readBody_194 : decode cX5_readBody 194 = .ok (.iconst 1, 1) := by decide +kernel
theorem dX5_readBody_195 : decode cX5_readBody 195 = .ok (.goto 4, 3) := by decide +kernel
theorem dX5_readBody_198 : decode cX5_readBody 198 = .ok (.iconst 0, 1) := by decide +kernel
theorem dX5_readBody_199 : decode cX5_readBody 199 = .ok (.ireturn, 1) := by decide +kernel
theorem dX5_readBody_200 : decode cX5_readBody 200 = .ok (.aload_n 0, 1) := by decide +kernel
theorem dX5_readBody_201 : decode cX5_readBody 201 = .ok (.getfield 12, 3) := by decide +kernel
theorem dX5_readBody_204 : decode cX5_readBody 204 = .ok (.invokevirtual 55, 3) := by decide +kernel
theorem dX5_readBody_207 : decode cX5_readBody 207 = .ok (.iinc 4 1, 3) := by decide +kernel
theorem dX5_readBody_210 : decode cX5_readBody 210 = .ok (.goto (-190), 3) := by decide +kernel
theorem dX5_readBody_213 : decode cX5_readBody 213 = .ok (.aload_n 0, 1) := by decide +kernel
theorem dX5_readBody_214 : decode cX5_readBody 214 = .ok (.iconst 1, 1) := by decide +kernel
theorem dX5_readBody_215 : decode cX5_readBody 215 = .ok (.invokevirtual 51, 3) := by decide +kernel
theorem dX5_readBody_218 : decode cX5_readBody 218 = .ok (.ireturn, 1) := by decide +kernel
theorem dX5_readActLine_0 : decode cX5_readActLine 0 = .ok (.aload_n 0, 1) := by decide +kernel
theorem dX5_readActLine_1 : decode cX5_readActLine 1 = .ok (.getfield 28, 3) := by decide +kernel
theorem dX5_readActLine_4 : decode cX5_readActLine 4 = .ok (.invokevirtual 149, 3) := by decide +kernel
theorem dX5_readActLine_7 : decode cX5_readActLine 7 = .ok (.ifnull 9, 3) := by decide +kernel
theorem dX5_readActLine_10 : decode cX5_readActLine 10 = .ok (.aload_n 0, 1) := by decide +kernel
theorem dX5_readActLine_11 : decode cX5_readActLine 11 = .ok (.iconst 3, 1) := by decide +kernel
theorem dX5_readActLine_12 : decode cX5_readActLine 12 = .ok (.invokevirtual 51, 3) := by decide +kernel
theorem dX5_readActLine_15 : decode cX5_readActLine 15 = .ok (.ireturn, 1) := by decide +kernel
theorem dX5_readActLine_16 : decode cX5_readActLine 16 = .ok (.aload_n 0, 1) := by decide +kernel
theorem dX5_readActLine_17 : decode cX5_readActLine 17 = .ok (.getfield 28, 3) := by decide +kernel
theorem dX5_readActLine_20 : decode cX5_readActLine 20 = .ok (.getfield 153, 3) := by decide +kernel
theorem dX5_readActLine_23 : decode cX5_readActLine 23 = .ok (.bipush 10, 2) := by decide +kernel
theorem dX5_readActLine_25 : decode cX5_readActLine 25 = .ok (.if_icmp .lt 9, 3) := by decide +kernel
theorem dX5_readActLine_28 : decode cX5_readActLine 28 = .ok (.aload_n 0, 1) := by decide +kernel
theorem dX5_readActLine_29 : decode cX5_readActLine 29 = .ok (.iconst 4, 1) := by decide +kernel
theorem dX5_readActLine_30 : decode cX5_readActLine 30 = .ok (.invokevirtual 51, 3) := by decide +kernel
theorem dX5_readActLine_33 : decode cX5_readActLine 33 = .ok (.ireturn, 1) := by decide +kernel
theorem dX5_readActLine_34 : decode cX5_readActLine 34 = .ok (.aload_n 0, 1) := by decide +kernel
theorem dX5_readActLine_35 : decode cX5_readActLine 35 = .ok (.getfield 12, 3) := by decide +kernel
theorem dX5_readActLine_38 : decode cX5_readActLine 38 = .ok (.invokevirtual 55, 3) := by decide +kernel
theorem dX5_readActLine_41 : decode cX5_readActLine 41 = .ok (.aload_n 0, 1) := by decide +kernel
theorem dX5_readActLine_42 : decode cX5_readActLine 42 = .ok (.invokevirtual 156, 3) := by decide +kernel
theorem dX5_readActLine_45 : decode cX5_readActLine 45 = .ok (.istore_n 1, 1) := by decide +kernel
theorem dX5_readActLine_46 : decode cX5_readActLine 46 = .ok (.iload_n 1, 1) := by decide +kernel
theorem dX5_readActLine_47 : decode cX5_readActLine 47 = .ok (.iconst (-1), 1) := by decide +kernel
theorem dX5_readActLine_48 : decode cX5_readActLine 48 = .ok (.if_icmp .ne 9, 3) := by decide +kernel
theorem dX5_readActLine_51 : decode cX5_readActLine 51 = .ok (.aload_n 0, 1) := by decide +kernel
theorem dX5_readActLine_52 : decode cX5_readActLine 52 = .ok (.iconst 1, 1) := by decide +kernel
theorem dX5_readActLine_53 : decode cX5_readActLine 53 = .ok (.invokevirtual 51, 3) := by decide +kernel
theorem dX5_readActLine_56 : decode cX5_readActLine 56 = .ok (.ireturn, 1) := by decide +kernel
theorem dX5_readActLine_57 : decode cX5_readActLine 57 = .ok (.aload_n 0, 1) := by decide +kernel
theorem dX5_readActLine_58 : decode cX5_readActLine 58 = .ok (.getfield 12, 3) := by decide +kernel
theorem dX5_readActLine_61 : decode cX5_readActLine 61 = .ok (.invokevirtual 55, 3) := by decide +kernel
theorem dX5_readActLine_64 : decode cX5_readActLine 64 = .ok (.aload_n 0, 1) := by decide +kernel
theorem dX5_readActLine_65 : decode cX5_readActLine 65 = .ok (.invokevirtual 61, 3) := by decide +kernel
theorem dX5_readActLine_68 : decode cX5_readActLine 68 = .ok (.ifCond .ne 5, 3) := by decide +kernel
theorem dX5_readActLine_71 : decode cX5_readActLine 71 = .ok (.iconst 0, 1) := by decide +kernel
theorem dX5_readActLine_72 : decode cX5_readActLine 72 = .ok (.ireturn, 1) := by decide +kernel
theorem dX5_readActLine_73 : decode cX5_readActLine 73 = .ok (.aload_n 0, 1) := by decide +kernel
theorem dX5_readActLine_74 : decode cX5_readActLine 74 = .ok (.getfield 28, 3) := by decide +kernel
theorem dX5_readActLine_77 : decode cX5_readActLine 77 = .ok (.iload_n 1, 1) := by decide +kernel
theorem dX5_readActLine_78 : decode cX5_readActLine 78 = .ok (.aload_n 0, 1) := by decide +kernel
theorem dX5_readActLine_79 : decode cX5_readActLine 79 = .ok (.getfield 159, 3) := by decide +kernel
theorem dX5_readActLine_82 : decode cX5_readActLine 82 = .ok (.invokevirtual 162, 3) := by decide +kernel
theorem dX5_readActLine_85 : decode cX5_readActLine 85 = .ok (.iconst 1, 1) := by decide +kernel
theorem dX5_readActLine_86 : decode cX5_readActLine 86 = .ok (.ireturn, 1) := by decide +kernel
theorem dX5_readStrikeLine_0 : decode cX5_readStrikeLine 0 = .ok (.aload_n 0, 1) := by decide +kernel
theorem dX5_readStrikeLine_1 : decode cX5_readStrikeLine 1 = .ok (.iconst 0, 1) := by decide +kernel
theorem dX5_readStrikeLine_2 : decode cX5_readStrikeLine 2 = .ok (.aload_n 0, 1) := by decide +kernel
theorem dX5_readStrikeLine_3 : decode cX5_readStrikeLine 3 = .ok (.getfield 28, 3) := by decide +kernel
theorem dX5_readStrikeLine_6 : decode cX5_readStrikeLine 6 = .ok (.invokevirtual 192, 3) := by decide +kernel
theorem dX5_readStrikeLine_9 : decode cX5_readStrikeLine 9 = .ok (.iconst 1, 1) := by decide +kernel
theorem dX5_readStrikeLine_10 : decode cX5_readStrikeLine 10 = .ok (.isub, 1) := by decide +kernel
theorem dX5_readStrikeLine_11 : decode cX5_readStrikeLine 11 = .ok (.invokevirtual 84, 3) := by decide +kernel
theorem dX5_readStrikeLine_14 : decode cX5_readStrikeLine 14 = .ok (.ifCond .ne 5, 3) := by decide +kernel
theorem dX5_readStrikeLine_17 : decode cX5_readStrikeLine 17 = .ok (.iconst 0, 1) := by decide +kernel
theorem dX5_readStrikeLine_18 : decode cX5_readStrikeLine 18 = .ok (.ireturn, 1) := by decide +kernel
theorem dX5_readStrikeLine_19 : decode cX5_readStrikeLine 19 = .ok (.aload_n 0, 1) := by decide +kernel
theorem dX5_readStrikeLine_20 : decode cX5_readStrikeLine 20 = .ok (.getfield 28, 3) := by decide +kernel
theorem dX5_readStrikeLine_23 : decode cX5_readStrikeLine 23 = .ok (.aload_n 0, 1) := by decide +kernel
theorem dX5_readStrikeLine_24 : decode cX5_readStrikeLine 24 = .ok (.getfield 12, 3) := by decide +kernel
theorem dX5_readStrikeLine_27 : decode cX5_readStrikeLine 27 = .ok (.getfield 72, 3) := by decide +kernel
theorem dX5_readStrikeLine_30 : decode cX5_readStrikeLine 30 = .ok (.invokevirtual 195, 3) := by decide +kernel
theorem dX5_readStrikeLine_33 : decode cX5_readStrikeLine 33 = .ok (.ifCond .eq 9, 3) := by decide +kernel
theorem dX5_readStrikeLine_36 : decode cX5_readStrikeLine 36 = .ok (.aload_n 0, 1) := by decide +kernel
theorem dX5_readStrikeLine_37 : decode cX5_readStrikeLine 37 = .ok (.iconst 3, 1) := by decide +kernel
theorem dX5_readStrikeLine_38 : decode cX5_readStrikeLine 38 = .ok (.invokevirtual 51, 3) := by decide +kernel
theorem dX5_readStrikeLine_41 : decode cX5_readStrikeLine 41 = .ok (.ireturn, 1) := by decide +kernel
theorem dX5_readStrikeLine_42 : decode cX5_readStrikeLine 42 = .ok (.aload_n 0, 1) := by decide +kernel
theorem dX5_readStrikeLine_43 : decode cX5_readStrikeLine 43 = .ok (.getfield 28, 3) := by decide +kernel
theorem dX5_readStrikeLine_46 : decode cX5_readStrikeLine 46 = .ok (.aload_n 0, 1) := by decide +kernel
theorem dX5_readStrikeLine_47 : decode cX5_readStrikeLine 47 = .ok (.getfield 12, 3) := by decide +kernel
theorem dX5_readStrikeLine_50 : decode cX5_readStrikeLine 50 = .ok (.getfield 72, 3) := by decide +kernel
theorem dX5_readStrikeLine_53 : decode cX5_readStrikeLine 53 = .ok (.invokevirtual 199, 3) := by decide +kernel
theorem dX5_readStrikeLine_56 : decode cX5_readStrikeLine 56 = .ok (.aload_n 0, 1) := by decide +kernel
theorem dX5_readStrikeLine_57 : decode cX5_readStrikeLine 57 = .ok (.invokevirtual 102, 3) := by decide +kernel
theorem dX5_readStrikeLine_60 : decode cX5_readStrikeLine 60 = .ok (.ireturn, 1) := by decide +kernel
theorem dX5_readOutLine_0 : decode cX5_readOutLine 0 = .ok (.aload_n 0, 1) := by decide +kernel
theorem dX5_readOutLine_1 : decode cX5_readOutLine 1 = .ok (.iconst 0, 1) := by decide +kernel
theorem dX5_readOutLine_2 : decode cX5_readOutLine 2 = .ok (.aload_n 0, 1) := by decide +kernel
theorem dX5_readOutLine_3 : decode cX5_readOutLine 3 = .ok (.getfield 28, 3) := by decide +kernel
theorem dX5_readOutLine_6 : decode cX5_readOutLine 6 = .ok (.invokevirtual 192, 3) := by decide +kernel
theorem dX5_readOutLine_9 : decode cX5_readOutLine 9 = .ok (.iconst 1, 1) := by decide +kernel
theorem dX5_readOutLine_10 : decode cX5_readOutLine 10 = .ok (.isub, 1) := by decide +kernel
theorem dX5_readOutLine_11 : decode cX5_readOutLine 11 = .ok (.invokevirtual 84, 3) := by decide +kernel
theorem dX5_readOutLine_14 : decode cX5_readOutLine 14 = .ok (.ifCond .ne 5, 3) := by decide +kernel
theorem dX5_readOutLine_17 : decode cX5_readOutLine 17 = .ok (.iconst 0, 1) := by decide +kernel
theorem dX5_readOutLine_18 : decode cX5_readOutLine 18 = .ok (.ireturn, 1) := by decide +kernel
theorem dX5_readOutLine_19 : decode cX5_readOutLine 19 = .ok (.aload_n 0, 1) := by decide +kernel
theorem dX5_readOutLine_20 : decode cX5_readOutLine 20 = .ok (.getfield 28, 3) := by decide +kernel
theorem dX5_readOutLine_23 : decode cX5_readOutLine 23 = .ok (.aload_n 0, 1) := by decide +kernel
theorem dX5_readOutLine_24 : decode cX5_readOutLine 24 = .ok (.getfield 12, 3) := by decide +kernel
theorem dX5_readOutLine_27 : decode cX5_readOutLine 27 = .ok (.getfield 72, 3) := by decide +kernel
theorem dX5_readOutLine_30 : decode cX5_readOutLine 30 = .ok (.invokevirtual 202, 3) := by decide +kernel
theorem dX5_readOutLine_33 : decode cX5_readOutLine 33 = .ok (.ifCond .ne 9, 3) := by decide +kernel
theorem dX5_readOutLine_36 : decode cX5_readOutLine 36 = .ok (.aload_n 0, 1) := by decide +kernel
theorem dX5_readOutLine_37 : decode cX5_readOutLine 37 = .ok (.iconst 3, 1) := by decide +kernel
theorem dX5_readOutLine_38 : decode cX5_readOutLine 38 = .ok (.invokevirtual 51, 3) := by decide +kernel
theorem dX5_readOutLine_41 : decode cX5_readOutLine 41 = .ok (.ireturn, 1) := by decide +kernel
theorem dX5_readOutLine_42 : decode cX5_readOutLine 42 = .ok (.aload_n 0, 1) := by decide +kernel
theorem dX5_readOutLine_43 : decode cX5_readOutLine 43 = .ok (.getfield 28, 3) := by decide +kernel
theorem dX5_readOutLine_46 : decode cX5_readOutLine 46 = .ok (.aload_n 0, 1) := by decide +kernel
theorem dX5_readOutLine_47 : decode cX5_readOutLine 47 = .ok (.getfield 12, 3) := by decide +kernel
theorem dX5_readOutLine_50 : decode cX5_readOutLine 50 = .ok (.getfield 72, 3) := by decide +kernel
theorem dX5_readOutLine_53 : decode cX5_readOutLine 53 = .ok (.invokevirtual 205, 3) := by decide +kernel
theorem dX5_readOutLine_56 : decode cX5_readOutLine 56 = .ok (.pop, 1) := by decide +kernel
theorem dX5_readOutLine_57 : decode cX5_readOutLine 57 = .ok (.aload_n 0, 1) := by decide +kernel
theorem dX5_readOutLine_58 : decode cX5_readOutLine 58 = .ok (.invokevirtual 102, 3) := by decide +kernel
theorem dX5_readOutLine_61 : decode cX5_readOutLine 61 = .ok (.ireturn, 1) := by decide +kernel
theorem dX5_readInsertLine_0 : decode cX5_readInsertLine 0 = .ok (.aload_n 0, 1) := by decide +kernel
theorem dX5_readInsertLine_1 : decode cX5_readInsertLine 1 = .ok (.iconst 0, 1) := by decide +kernel
theorem dX5_readInsertLine_2 : decode cX5_readInsertLine 2 = .ok (.aload_n 0, 1) := by decide +kernel
theorem dX5_readInsertLine_3 : decode cX5_readInsertLine 3 = .ok (.getfield 28, 3) := by decide +kernel
theorem dX5_readInsertLine_6 : decode cX5_readInsertLine 6 = .ok (.invokevirtual 192, 3) := by decide +kernel
theorem dX5_readInsertLine_9 : decode cX5_readInsertLine 9 = .ok (.iconst 1, 1) := by decide +kernel
theorem dX5_readInsertLine_10 : decode cX5_readInsertLine 10 = .ok (.isub, 1) := by decide +kernel
theorem dX5_readInsertLine_11 : decode cX5_readInsertLine 11 = .ok (.invokevirtual 84, 3) := by decide +kernel
theorem dX5_readInsertLine_14 : decode cX5_readInsertLine 14 = .ok (.ifCond .ne 5, 3) := by decide +kernel
theorem dX5_readInsertLine_17 : decode cX5_readInsertLine 17 = .ok (.iconst 0, 1) := by decide +kernel
theorem dX5_readInsertLine_18 : decode cX5_readInsertLine 18 = .ok (.ireturn, 1) := by decide +kernel
theorem dX5_readInsertLine_19 : decode cX5_readInsertLine 19 = .ok (.aload_n 0, 1) := by decide +kernel
theorem dX5_readInsertLine_20 : decode cX5_readInsertLine 20 = .ok (.getfield 12, 3) := by decide +kernel
theorem dX5_readInsertLine_23 : decode cX5_readInsertLine 23 = .ok (.getfield 72, 3) := by decide +kernel
theorem dX5_readInsertLine_26 : decode cX5_readInsertLine 26 = .ok (.istore_n 1, 1) := by decide +kernel
theorem dX5_readInsertLine_27 : decode cX5_readInsertLine 27 = .ok (.aload_n 0, 1) := by decide +kernel
theorem dX5_readInsertLine_28 : decode cX5_readInsertLine 28 = .ok (.getfield 28, 3) := by decide +kernel
theorem dX5_readInsertLine_31 : decode cX5_readInsertLine 31 = .ok (.iload_n 1, 1) := by decide +kernel
theorem dX5_readInsertLine_32 : decode cX5_readInsertLine 32 = .ok (.invokevirtual 208, 3) := by decide +kernel
theorem dX5_readInsertLine_35 : decode cX5_readInsertLine 35 = .ok (.ifCond .ne 9, 3) := by decide +kernel
theorem dX5_readInsertLine_38 : decode cX5_readInsertLine 38 = .ok (.aload_n 0, 1) := by decide +kernel
theorem dX5_readInsertLine_39 : decode cX5_readInsertLine 39 = .ok (.iconst 3, 1) := by decide +kernel
theorem dX5_readInsertLine_40 : decode cX5_readInsertLine 40 = .ok (.invokevirtual 51, 3) := by decide +kernel
theorem dX5_readInsertLine_43 : decode cX5_readInsertLine 43 = .ok (.ireturn, 1) := by decide +kernel
theorem dX5_readInsertLine_44 : decode cX5_readInsertLine 44 = .ok (.aload_n 0, 1) := by decide +kernel
theorem dX5_readInsertLine_45 : decode cX5_readInsertLine 45 = .ok (.getfield 12, 3) := by decide +kernel
theorem dX5_readInsertLine_48 : decode cX5_readInsertLine 48 = .ok (.invokevirtual 55, 3) := by decide +kernel
theorem dX5_readInsertLine_51 : decode cX5_readInsertLine 51 = .ok (.aload_n 0, 1) := by decide +kernel
theorem dX5_readInsertLine_52 : decode cX5_readInsertLine 52 = .ok (.getfield 12, 3) := by decide +kernel
theorem dX5_readInsertLine_55 : decode cX5_readInsertLine 55 = .ok (.getfield 48, 3) := by decide +kernel
theorem dX5_readInsertLine_58 : decode cX5_readInsertLine 58 = .ok (.iconst 1, 1) := by decide +kernel
theorem dX5_readInsertLine_59 : decode cX5_readInsertLine 59 = .ok (.if_icmp .eq 9, 3) := by decide +kernel
theorem dX5_readInsertLine_62 : decode cX5_readInsertLine 62 = .ok (.aload_n 0, 1) := by decide +kernel
theorem dX5_readInsertLine_63 : decode cX5_readInsertLine 63 = .ok (.iconst 1, 1) := by decide +kernel
theorem dX5_readInsertLine_64 : decode cX5_readInsertLine 64 = .ok (.invokevirtual 51, 3) := by decide +kernel
theorem dX5_readInsertLine_67 : decode cX5_readInsertLine 67 = .ok (.ireturn, 1) := by decide +kernel
theorem dX5_readInsertLine_68 : decode cX5_readInsertLine 68 = .ok (.aload_n 0, 1) := by decide +kernel
theorem dX5_readInsertLine_69 : decode cX5_readInsertLine 69 = .ok (.getfield 28, 3) := by decide +kernel
theorem dX5_readInsertLine_72 : decode cX5_readInsertLine 72 = .ok (.iload_n 1, 1) := by decide +kernel
theorem dX5_readInsertLine_73 : decode cX5_readInsertLine 73 = .ok (.aload_n 0, 1) := by decide +kernel
theorem dX5_readInsertLine_74 : decode cX5_readInsertLine 74 = .ok (.getfield 12, 3) := by decide +kernel
theorem dX5_readInsertLine_77 : decode cX5_readInsertLine 77 = .ok (.getfield 64, 3) := by decide +kernel
theorem dX5_readInsertLine_80 : decode cX5_readInsertLine 80 = .ok (.invokevirtual 211, 3) := by decide +kernel
theorem dX5_readInsertLine_83 : decode cX5_readInsertLine 83 = .ok (.aload_n 0, 1) := by decide +kernel
theorem dX5_readInsertLine_84 : decode cX5_readInsertLine 84 = .ok (.invokevirtual 102, 3) := by decide +kernel
theorem dX5_readInsertLine_87 : decode cX5_readInsertLine 87 = .ok (.ireturn, 1) := by decide +kernel
theorem dX5_readSealLine_0 : decode cX5_readSealLine 0 = .ok (.aload_n 0, 1) := by decide +kernel
theorem dX5_readSealLine_1 : decode cX5_readSealLine 1 = .ok (.iconst 0, 1) := by decide +kernel
theorem dX5_readSealLine_2 : decode cX5_readSealLine 2 = .ok (.bipush 9, 2) := by decide +kernel
theorem dX5_readSealLine_4 : decode cX5_readSealLine 4 = .ok (.invokevirtual 84, 3) := by decide +kernel
theorem dX5_readSealLine_7 : decode cX5_readSealLine 7 = .ok (.ifCond .ne 5, 3) := by decide +kernel
theorem dX5_readSealLine_10 : decode cX5_readSealLine 10 = .ok (.iconst 0, 1) := by decide +kernel
theorem dX5_readSealLine_11 : decode cX5_readSealLine 11 = .ok (.ireturn, 1) := by decide +kernel
theorem dX5_readSealLine_12 : decode cX5_readSealLine 12 = .ok (.aload_n 0, 1) := by decide +kernel
theorem dX5_readSealLine_13 : decode cX5_readSealLine 13 = .ok (.getfield 12, 3) := by decide +kernel
theorem dX5_readSealLine_16 : decode cX5_readSealLine 16 = .ok (.getfield 72, 3) := by decide +kernel
theorem dX5_readSealLine_19 : decode cX5_readSealLine 19 = .ok (.istore_n 1, 1) := by decide +kernel
theorem dX5_readSealLine_20 : decode cX5_readSealLine 20 = .ok (.aload_n 0, 1) := by decide +kernel
theorem dX5_readSealLine_21 : decode cX5_readSealLine 21 = .ok (.iconst 0, 1) := by decide +kernel
theorem dX5_readSealLine_22 : decode cX5_readSealLine 22 = .ok (.bipush 99, 2) := by decide +kernel
theorem dX5_readSealLine_24 : decode cX5_readSealLine 24 = .ok (.invokevirtual 84, 3) := by decide +kernel
theorem dX5_readSealLine_27 : decode cX5_readSealLine 27 = .ok (.ifCond .ne 5, 3) := by decide +kernel
theorem dX5_readSealLine_30 : decode cX5_readSealLine 30 = .ok (.iconst 0, 1) := by decide +kernel
theorem dX5_readSealLine_31 : decode cX5_readSealLine 31 = .ok (.ireturn, 1) := by decide +kernel
theorem dX5_readSealLine_32 : decode cX5_readSealLine 32 = .ok (.aload_n 0, 1) := by decide +kernel
theorem dX5_readSealLine_33 : decode cX5_readSealLine 33 = .ok (.getfield 28, 3) := by decide +kernel
theorem dX5_readSealLine_36 : decode cX5_readSealLine 36 = .ok (.iload_n 1, 1) := by decide +kernel
theorem dX5_readSealLine_37 : decode cX5_readSealLine 37 = .ok (.aload_n 0, 1) := by decide +kernel
theorem dX5_readSealLine_38 : decode cX5_readSealLine 38 = .ok (.getfield 12, 3) := by decide +kernel
theorem dX5_readSealLine_41 : decode cX5_readSealLine 41 = .ok (.getfield 72, 3) := by decide +kernel
theorem dX5_readSealLine_44 : decode cX5_readSealLine 44 = .ok (.invokevirtual 215, 3) := by decide +kernel
theorem dX5_readSealLine_47 : decode cX5_readSealLine 47 = .ok (.ifCond .eq 9, 3) := by decide +kernel
theorem dX5_readSealLine_50 : decode cX5_readSealLine 50 = .ok (.aload_n 0, 1) := by decide +kernel
theorem dX5_readSealLine_51 : decode cX5_readSealLine 51 = .ok (.iconst 3, 1) := by decide +kernel
theorem dX5_readSealLine_52 : decode cX5_readSealLine 52 = .ok (.invokevirtual 51, 3) := by decide +kernel
theorem dX5_readSealLine_55 : decode cX5_readSealLine 55 = .ok (.ireturn, 1) := by decide +kernel
theorem dX5_readSealLine_56 : decode cX5_readSealLine 56 = .ok (.aload_n 0, 1) := by decide +kernel
theorem dX5_readSealLine_57 : decode cX5_readSealLine 57 = .ok (.getfield 28, 3) := by decide +kernel
theorem dX5_readSealLine_60 : decode cX5_readSealLine 60 = .ok (.iload_n 1, 1) := by decide +kernel
theorem dX5_readSealLine_61 : decode cX5_readSealLine 61 = .ok (.invokevirtual 219, 3) := by decide +kernel
theorem dX5_readSealLine_64 : decode cX5_readSealLine 64 = .ok (.pop, 1) := by decide +kernel
theorem dX5_readSealLine_65 : decode cX5_readSealLine 65 = .ok (.aload_n 0, 1) := by decide +kernel
theorem dX5_readSealLine_66 : decode cX5_readSealLine 66 = .ok (.invokevirtual 102, 3) := by decide +kernel
theorem dX5_readSealLine_69 : decode cX5_readSealLine 69 = .ok (.ireturn, 1) := by decide +kernel
theorem dX5_readCancelLine_0 : decode cX5_readCancelLine 0 = .ok (.aload_n 0, 1) := by decide +kernel
theorem dX5_readCancelLine_1 : decode cX5_readCancelLine 1 = .ok (.getfield 28, 3) := by decide +kernel
theorem dX5_readCancelLine_4 : decode cX5_readCancelLine 4 = .ok (.invokevirtual 149, 3) := by decide +kernel
theorem dX5_readCancelLine_7 : decode cX5_readCancelLine 7 = .ok (.ifnonnull 9, 3) := by decide +kernel
theorem dX5_readCancelLine_10 : decode cX5_readCancelLine 10 = .ok (.aload_n 0, 1) := by decide +kernel
theorem dX5_readCancelLine_11 : decode cX5_readCancelLine 11 = .ok (.iconst 3, 1) := by decide +kernel
theorem dX5_readCancelLine_12 : decode cX5_readCancelLine 12 = .ok (.invokevirtual 51, 3) := by decide +kernel
theorem dX5_readCancelLine_15 : decode cX5_readCancelLine 15 = .ok (.ireturn, 1) := by decide +kernel
theorem dX5_readCancelLine_16 : decode cX5_readCancelLine 16 = .ok (.aload_n 0, 1) := by decide +kernel
theorem dX5_readCancelLine_17 : decode cX5_readCancelLine 17 = .ok (.getfield 28, 3) := by decide +kernel
theorem dX5_readCancelLine_20 : decode cX5_readCancelLine 20 = .ok (.invokevirtual 222, 3) := by decide +kernel
theorem dX5_readCancelLine_23 : decode cX5_readCancelLine 23 = .ok (.aload_n 0, 1) := by decide +kernel
theorem dX5_readCancelLine_24 : decode cX5_readCancelLine 24 = .ok (.invokevirtual 102, 3) := by decide +kernel
theorem dX5_readCancelLine_27 : decode cX5_readCancelLine 27 = .ok (.ireturn, 1) := by decide +kernel
theorem dX5_readCopyLine_0 : decode cX5_readCopyLine 0 = .ok (.aload_n 0, 1) := by decide +kernel
theorem dX5_readCopyLine_1 : decode cX5_readCopyLine 1 = .ok (.getfield 28, 3) := by decide +kernel
theorem dX5_readCopyLine_4 : decode cX5_readCopyLine 4 = .ok (.getfield 225, 3) := by decide +kernel
theorem dX5_readCopyLine_7 : decode cX5_readCopyLine 7 = .ok (.bipush 8, 2) := by decide +kernel
theorem dX5_readCopyLine_9 : decode cX5_readCopyLine 9 = .ok (.if_icmp .lt 9, 3) := by decide +kernel
theorem dX5_readCopyLine_12 : decode cX5_readCopyLine 12 = .ok (.aload_n 0, 1) := by decide +kernel
theorem dX5_readCopyLine_13 : decode cX5_readCopyLine 13 = .ok (.iconst 4, 1) := by decide +kernel
theorem dX5_readCopyLine_14 : decode cX5_readCopyLine 14 = .ok (.invokevirtual 51, 3) := by decide +kernel
theorem dX5_readCopyLine_17 : decode cX5_readCopyLine 17 = .ok (.ireturn, 1) := by decide +kernel
theorem dX5_readCopyLine_18 : decode cX5_readCopyLine 18 = .ok (.aload_n 0, 1) := by decide +kernel
theorem dX5_readCopyLine_19 : decode cX5_readCopyLine 19 = .ok (.iconst 1, 1) := by decide +kernel
theorem dX5_readCopyLine_20 : decode cX5_readCopyLine 20 = .ok (.aload_n 0, 1) := by decide +kernel
theorem dX5_readCopyLine_21 : decode cX5_readCopyLine 21 = .ok (.getfield 28, 3) := by decide +kernel
theorem dX5_readCopyLine_24 : decode cX5_readCopyLine 24 = .ok (.getfield 153, 3) := by decide +kernel
theorem dX5_readCopyLine_27 : decode cX5_readCopyLine 27 = .ok (.invokevirtual 84, 3) := by decide +kernel
theorem dX5_readCopyLine_30 : decode cX5_readCopyLine 30 = .ok (.ifCond .ne 5, 3) := by decide +kernel
theorem dX5_readCopyLine_33 : decode cX5_readCopyLine 33 = .ok (.iconst 0, 1) := by decide +kernel
theorem dX5_readCopyLine_34 : decode cX5_readCopyLine 34 = .ok (.ireturn, 1) := by decide +kernel
theorem dX5_readCopyLine_35 : decode cX5_readCopyLine 35 = .ok (.aload_n 0, 1) := by decide +kernel
theorem dX5_readCopyLine_36 : decode cX5_readCopyLine 36 = .ok (.getfield 12, 3) := by decide +kernel
theorem dX5_readCopyLine_39 : decode cX5_readCopyLine 39 = .ok (.getfield 72, 3) := by decide +kernel
theorem dX5_readCopyLine_42 : decode cX5_readCopyLine 42 = .ok (.istore_n 1, 1) := by decide +kernel
theorem dX5_readCopyLine_43 : decode cX5_readCopyLine 43 = .ok (.aload_n 0, 1) := by decide +kernel
theorem dX5_readCopyLine_44 : decode cX5_readCopyLine 44 = .ok (.iconst 0, 1) := by decide +kernel
theorem dX5_readCopyLine_45 : decode cX5_readCopyLine 45 = .ok (.iconst 2, 1) := by decide +kernel
theorem dX5_readCopyLine_46 : decode cX5_readCopyLine 46 = .ok (.invokevirtual 84, 3) := by decide +kernel
theorem dX5_readCopyLine_49 : decode cX5_readCopyLine 49 = .ok (.ifCond .ne 5, 3) := by decide +kernel
theorem dX5_readCopyLine_52 : decode cX5_readCopyLine 52 = .ok (.iconst 0, 1) := by decide +kernel
theorem dX5_readCopyLine_53 : decode cX5_readCopyLine 53 = .ok (.ireturn, 1) := by decide +kernel
theorem dX5_readCopyLine_54 : decode cX5_readCopyLine 54 = .ok (.aload_n 0, 1) := by decide +kernel
theorem dX5_readCopyLine_55 : decode cX5_readCopyLine 55 = .ok (.getfield 28, 3) := by decide +kernel
theorem dX5_readCopyLine_58 : decode cX5_readCopyLine 58 = .ok (.iload_n 1, 1) := by decide +kernel
theorem dX5_readCopyLine_59 : decode cX5_readCopyLine 59 = .ok (.aload_n 0, 1) := by decide +kernel
theorem dX5_readCopyLine_60 : decode cX5_readCopyLine 60 = .ok (.getfield 12, 3) := by decide +kernel
theorem dX5_readCopyLine_63 : decode cX5_readCopyLine 63 = .ok (.getfield 72, 3) := by decide +kernel
theorem dX5_readCopyLine_66 : decode cX5_readCopyLine 66 = .ok (.invokevirtual 228, 3) := by decide +kernel
theorem dX5_readCopyLine_69 : decode cX5_readCopyLine 69 = .ok (.ifCond .eq 9, 3) := by decide +kernel
theorem dX5_readCopyLine_72 : decode cX5_readCopyLine 72 = .ok (.aload_n 0, 1) := by decide +kernel
theorem dX5_readCopyLine_73 : decode cX5_readCopyLine 73 = .ok (.iconst 3, 1) := by decide +kernel
theorem dX5_readCopyLine_74 : decode cX5_readCopyLine 74 = .ok (.invokevirtual 51, 3) := by decide +kernel
theorem dX5_readCopyLine_77 : decode cX5_readCopyLine 77 = .ok (.ireturn, 1) := by decide +kernel
theorem dX5_readCopyLine_78 : decode cX5_readCopyLine 78 = .ok (.aload_n 0, 1) := by decide +kernel
theorem dX5_readCopyLine_79 : decode cX5_readCopyLine 79 = .ok (.getfield 28, 3) := by decide +kernel
theorem dX5_readCopyLine_82 : decode cX5_readCopyLine 82 = .ok (.iload_n 1, 1) := by decide +kernel
theorem dX5_readCopyLine_83 : decode cX5_readCopyLine 83 = .ok (.aload_n 0, 1) := by decide +kernel
theorem dX5_readCopyLine_84 : decode cX5_readCopyLine 84 = .ok (.getfield 12, 3) := by decide +kernel
theorem dX5_readCopyLine_87 : decode cX5_readCopyLine 87 = .ok (.getfield 72, 3) := by decide +kernel
theorem dX5_readCopyLine_90 : decode cX5_readCopyLine 90 = .ok (.invokevirtual 231, 3) := by decide +kernel
theorem dX5_readCopyLine_93 : decode cX5_readCopyLine 93 = .ok (.aload_n 0, 1) := by decide +kernel
theorem dX5_readCopyLine_94 : decode cX5_readCopyLine 94 = .ok (.invokevirtual 102, 3) := by decide +kernel
theorem dX5_readCopyLine_97 : decode cX5_readCopyLine 97 = .ok (.ireturn, 1) := by decide +kernel
set_option maxRecDepth 100000 in
set_option maxHeartbeats 4000000 in
theorem cX7_isDigitc {l : Launch} {v0 : Int32} {σ : HpT} {r : Bool} (h : fX7_isDigit v0 σ = some r) : Ct l yX7_isDigit cX7_isDigit 1 (some .boolean) 0 0 [.int v0] σ (.ok (some (.int (bI r)))) σ 0 0 := by
  unfold fX7_isDigit at h
  refine ct_start mi_X7_isDigit.1 rfl (al_le (al_1 rfl al_n) (Nat.le_of_ble_eq_true rfl)) (ag_1 rfl ag_n) (fun Δ Γ B hE hnm => ?_)
  refine g_iload_n B 0 dX7_isDigit_0 rfl rfl ?_
  refine g_bipush (v := 48) B dX7_isDigit_1 (by decide) ?_
  refine g_icmp_lt B 16 dX7_isDigit_3 (by decide) (fun hc => ?_) (fun hc => ?_)
  · replace h := ifp hc h
    refine g_iconst (v := 0) B dX7_isDigit_16 (by decide) ?_
    replace h := Option.some.inj h
    subst h
    exact g_zret B hE rfl (Nat.zero_le _) (Nat.zero_le _) dX7_isDigit_17
  · replace h := ifn hc h
    refine g_iload_n B 0 dX7_isDigit_6 rfl rfl ?_
    refine g_bipush (v := 57) B dX7_isDigit_7 (by decide) ?_
    refine g_icmp_gt B 16 dX7_isDigit_9 (by decide) (fun hc => ?_) (fun hc => ?_)
    · replace h := ifp hc h
      refine g_iconst (v := 0) B dX7_isDigit_16 (by decide) ?_
      replace h := Option.some.inj h
      subst h
      exact g_zret B hE rfl (Nat.zero_le _) (Nat.zero_le _) dX7_isDigit_17
    · replace h := ifn hc h
      refine g_iconst (v := 1) B dX7_isDigit_12 (by decide) ?_
      refine g_goto B 17 dX7_isDigit_13 (by decide) ?_
      replace h := Option.some.inj h
      subst h
      exact g_zret B hE rfl (Nat.zero_le _) (Nat.zero_le _) dX7_isDigit_17
set_option maxRecDepth 100000 in
set_option maxHeartbeats 4000000 in
theorem cX7_readNumberc {l : Launch} {v0 : Option Nat} {σ : HpT} {σ' : HpT} (h : fX7_readNumber v0 σ = some σ') : IsK σ v0 7 ∧ Ct l yX7_readNumber cX7_readNumber 1 none 1 20 [va_rf v0] σ (.ok none) σ' 0 0 := by
  unfold fX7_readNumber at h
  replace h := bnP_s h
  obtain ⟨u, hk, h⟩ := h
  replace hk := isK_s hk
  refine ⟨hk, ?_⟩
  refine ct_start mi_X7_readNumber.1 rfl (al_le (al_1 (rf_cat _) al_n) (Nat.le_of_ble_eq_true rfl)) (ag_1 (rf_cat _) ag_n) (fun Δ Γ B hE hnm => ?_)
  refine g_aload_n B 0 dX7_readNumber_0 rfl rfl ?_
  refine g_iconst (v := 0) B dX7_readNumber_1 (by decide) ?_
  replace h := bnP_s h
  obtain ⟨s3, h2, h⟩ := h
  refine g_putI B fl_RX7_62 (by decide) dX7_readNumber_2 h2 ?_
  replace h := bnS_s h
  obtain ⟨r5, s42, h6, h⟩ := h
  have kE7 : GW Δ Γ (0) (0) 68 [(0, va_rf v0)] [] s42 := by
    refine g_aload_n B 0 dX7_readNumber_68 rfl rfl ?_
    refine g_aload_n B 0 dX7_readNumber_69 rfl rfl ?_
    replace h := bnP_s h
    obtain ⟨x43, h44, h⟩ := h
    refine g_getI B fl_RX7_25 (by decide) dX7_readNumber_70 h44 ?_
    refine g_aload_n B 0 dX7_readNumber_73 rfl rfl ?_
    replace h := bnP_s h
    obtain ⟨x45, h46, h⟩ := h
    refine g_getI B fl_RX7_31 (by decide) dX7_readNumber_74 h46 ?_
    refine g_isub B dX7_readNumber_77 ?_
    refine g_iconst (v := 2) B dX7_readNumber_78 (by decide) ?_
    replace h := bnP_s h
    obtain ⟨j47, h48, h⟩ := h
    have k50 : GW Δ Γ (0) (0) 88 [] [.int j47.2, va_rf j47.1] s42 := by
      replace h := bnP_s h
      obtain ⟨s54, h53, h⟩ := h
      refine g_putI B fl_RX7_34 (by decide) dX7_readNumber_88 h53 ?_
      replace h := Option.some.inj h
      subst h
      exact g_vret B hE (Nat.zero_le _) (Nat.zero_le _) dX7_readNumber_91
    clear h
    have h := h48
    clear h48
    refine g_icmp_gt B 86 dX7_readNumber_79 (by decide) (fun hc => ?_) (fun hc => ?_)
    · replace h := ifp hc h
      refine g_bipush (v := 6) B dX7_readNumber_86 (by decide) ?_
      replace h := Option.some.inj h
      subst h
      exact g_sub [] rfl k50
    · replace h := ifn hc h
      refine g_iconst (v := 2) B dX7_readNumber_82 (by decide) ?_
      refine g_goto B 88 dX7_readNumber_83 (by decide) ?_
      replace h := Option.some.inj h
      subst h
      exact g_sub [] rfl k50
  clear h
  refine g_sub [0] rfl ?_
  refine lpS_w (I := fun q4 s13 => GW Δ Γ (0) (0) 5 [(0, va_rf v0)] [] s13) (r := r5) (σr := s42) ?_ FUEL () s3 h6
  intro q4 s13 x11 s9 h hI9 hR10
  unfold fX7_readNumber_l1 at h
  refine g_aload_n B 0 dX7_readNumber_5 rfl rfl ?_
  replace h := bnP_s h
  obtain ⟨x14, h15, h⟩ := h
  refine g_getI B fl_RX7_25 (by decide) dX7_readNumber_6 h15 ?_
  refine g_aload_n B 0 dX7_readNumber_9 rfl rfl ?_
  replace h := bnP_s h
  obtain ⟨x16, h17, h⟩ := h
  refine g_getI B fl_RX7_21 (by decide) dX7_readNumber_10 h17 ?_
  refine g_icmp_ge B 68 dX7_readNumber_13 (by decide) (fun hc => ?_) (fun hc => ?_)
  · replace h := ifp hc h
    obtain ⟨w1, w2⟩ := inS h
    clear h
    subst w1
    subst w2
    obtain ⟨e8, e7⟩ := hR10 _ rfl
    subst e8
    subst e7
    exact g_sub [0] rfl kE7
  · replace h := ifn hc h
    refine g_aload_n B 0 dX7_readNumber_16 rfl rfl ?_
    replace h := bnP_s h
    obtain ⟨x18, h19, h⟩ := h
    refine g_getR B fl_RX7_9 (by decide) dX7_readNumber_17 h19 ?_
    refine g_aload_n B 0 dX7_readNumber_20 rfl rfl ?_
    replace h := bnP_s h
    obtain ⟨x20, h21, h⟩ := h
    refine g_getI B fl_RX7_25 (by decide) dX7_readNumber_21 h21 ?_
    replace h := bnP_s h
    obtain ⟨x22, h23, h⟩ := h
    refine g_bald B dX7_readNumber_24 h23 ?_
    replace h := bnP_s h
    obtain ⟨x24, h25, h⟩ := h
    refine g_callSs0 (st := []) B (cX7_isDigitc h25) mi_X7_isDigit lk_RX7_44 ⟨Nat.le_of_ble_eq_true rfl, Nat.le_of_ble_eq_true rfl⟩ rfl rfl (Nat.le_of_ble_eq_true rfl) dX7_readNumber_25 (Nat.zero_le _) (Nat.zero_le _) ?_
    refine g_if_eq B 68 dX7_readNumber_28 (by decide) (fun hc => ?_) (fun hc => ?_)
    · replace h := ifn (bI0 hc) h
      obtain ⟨w1, w2⟩ := inS h
      clear h
      subst w1
      subst w2
      obtain ⟨e8, e7⟩ := hR10 _ rfl
      subst e8
      subst e7
      exact g_sub [0] rfl kE7
    · replace h := ifp (bI1 hc) h
      refine g_aload_n B 0 dX7_readNumber_31 rfl rfl ?_
      refine g_aload_n B 0 dX7_readNumber_32 rfl rfl ?_
      replace h := bnP_s h
      obtain ⟨x26, h27, h⟩ := h
      refine g_getI B fl_RX7_62 (by decide) dX7_readNumber_33 h27 ?_
      refine g_bipush (v := 10) B dX7_readNumber_36 (by decide) ?_
      refine g_imul B dX7_readNumber_38 ?_
      refine g_aload_n B 0 dX7_readNumber_39 rfl rfl ?_
      replace h := bnP_s h
      obtain ⟨x28, h29, h⟩ := h
      refine g_getR B fl_RX7_9 (by decide) dX7_readNumber_40 h29 ?_
      refine g_aload_n B 0 dX7_readNumber_43 rfl rfl ?_
      replace h := bnP_s h
      obtain ⟨x30, h31, h⟩ := h
      refine g_getI B fl_RX7_25 (by decide) dX7_readNumber_44 h31 ?_
      replace h := bnP_s h
      obtain ⟨x32, h33, h⟩ := h
      refine g_bald B dX7_readNumber_47 h33 ?_
      refine g_iadd B dX7_readNumber_48 ?_
      refine g_bipush (v := 48) B dX7_readNumber_49 (by decide) ?_
      refine g_isub B dX7_readNumber_51 ?_
      replace h := bnP_s h
      obtain ⟨s36, h35, h⟩ := h
      refine g_putI B fl_RX7_62 (by decide) dX7_readNumber_52 h35 ?_
      refine g_aload_n B 0 dX7_readNumber_55 rfl rfl ?_
      refine g_dup B dX7_readNumber_56 (rf_cat _) ?_
      replace h := bnP_s h
      obtain ⟨x37, h38, h⟩ := h
      refine g_getI B fl_RX7_25 (by decide) dX7_readNumber_57 h38 ?_
      refine g_iconst (v := 1) B dX7_readNumber_60 (by decide) ?_
      refine g_iadd B dX7_readNumber_61 ?_
      replace h := bnP_s h
      obtain ⟨s41, h40, h⟩ := h
      refine g_putI B fl_RX7_25 (by decide) dX7_readNumber_62 h40 ?_
      refine g_goto B 5 dX7_readNumber_65 (by decide) ?_
      obtain ⟨w1, w2⟩ := inS h
      clear h
      subst w1
      subst w2
      exact g_sub [0] rfl (hI9 _ rfl)
set_option maxRecDepth 100000 in
set_option maxHeartbeats 4000000 in
theorem cX7_kindOfSignc {l : Launch} {v0 : Int32} {σ : HpT} {r : Int32} (h : fX7_kindOfSign v0 σ = some r) : Ct l yX7_kindOfSign cX7_kindOfSign 1 (some .int) 0 0 [.int v0] σ (.ok (some (.int r))) σ 0 0 := by
  unfold fX7_kindOfSign at h
  refine ct_start mi_X7_kindOfSign.1 rfl (al_le (al_1 rfl al_n) (Nat.le_of_ble_eq_true rfl)) (ag_1 rfl ag_n) (fun Δ Γ B hE hnm => ?_)
  refine g_iload_n B 0 dX7_kindOfSign_0 rfl rfl ?_
  by_cases n40 : v0 = 40
  · replace h := ifp n40 h
    rw [n40]
    refine g_lookup B (off := 37) 38 dX7_kindOfSign_1 (by decide) (by decide) (by decide) ?_
    refine g_iconst (v := 4) B dX7_kindOfSign_38 (by decide) ?_
    replace h := Option.some.inj h
    subst h
    exact g_iret B hE (Nat.zero_le _) (Nat.zero_le _) dX7_kindOfSign_39
  replace h := ifn n40 h
  by_cases n41 : v0 = 41
  · replace h := ifp n41 h
    rw [n41]
    refine g_lookup B (off := 39) 40 dX7_kindOfSign_1 (by decide) (by decide) (by decide) ?_
    refine g_iconst (v := 5) B dX7_kindOfSign_40 (by decide) ?_
    replace h := Option.some.inj h
    subst h
    exact g_iret B hE (Nat.zero_le _) (Nat.zero_le _) dX7_kindOfSign_41
  replace h := ifn n41 h
  by_cases n59 : v0 = 59
  · replace h := ifp n59 h
    rw [n59]
    refine g_lookup B (off := 35) 36 dX7_kindOfSign_1 (by decide) (by decide) (by decide) ?_
    refine g_iconst (v := 3) B dX7_kindOfSign_36 (by decide) ?_
    replace h := Option.some.inj h
    subst h
    exact g_iret B hE (Nat.zero_le _) (Nat.zero_le _) dX7_kindOfSign_37
  replace h := ifn n59 h
  have mn40 := tne n40 (k := 40) (by decide)
  have mn41 := tne n41 (k := 41) (by decide)
  have mn59 := tne n59 (k := 59) (by decide)
  refine g_lookup B (off := 41) 42 dX7_kindOfSign_1 (by decide) (lk_df3 mn40 mn41 mn59) (by decide) ?_
  refine g_bipush (v := 6) B dX7_kindOfSign_42 (by decide) ?_
  replace h := Option.some.inj h
  subst h
  exact g_iret B hE (Nat.zero_le _) (Nat.zero_le _) dX7_kindOfSign_44
set_option maxRecDepth 100000 in
set_option maxHeartbeats 4000000 in
theorem cX7_stepc {l : Launch} {v0 : Option Nat} {σ : HpT} {σ' : HpT} (h : fX7_step v0 σ = some σ') : IsK σ v0 7 ∧ Ct l yX7_step cX7_step 1 none 2 42 [va_rf v0] σ (.ok none) σ' 0 0 := by
  unfold fX7_step at h
  replace h := bnP_s h
  obtain ⟨u, hk, h⟩ := h
  replace hk := isK_s hk
  refine ⟨hk, ?_⟩
  refine ct_start mi_X7_step.1 rfl (al_le (al_1 (rf_cat _) al_n) (Nat.le_of_ble_eq_true rfl)) (ag_1 (rf_cat _) ag_n) (fun Δ Γ B hE hnm => ?_)
  replace h := bnS_s h
  obtain ⟨r2, s26, h3, h⟩ := h
  have kE4 : GW Δ Γ (0) (0) 38 [(0, va_rf v0)] [] s26 := by
    refine g_aload_n B 0 dX7_step_38 rfl rfl ?_
    refine g_aload_n B 0 dX7_step_39 rfl rfl ?_
    replace h := bnP_s h
    obtain ⟨x27, h28, h⟩ := h
    refine g_getI B fl_RX7_25 (by decide) dX7_step_40 h28 ?_
    replace h := bnP_s h
    obtain ⟨s31, h30, h⟩ := h
    refine g_putI B fl_RX7_31 (by decide) dX7_step_43 h30 ?_
    refine g_aload_n B 0 dX7_step_46 rfl rfl ?_
    replace h := bnP_s h
    obtain ⟨x32, h33, h⟩ := h
    refine g_getI B fl_RX7_25 (by decide) dX7_step_47 h33 ?_
    refine g_aload_n B 0 dX7_step_50 rfl rfl ?_
    replace h := bnP_s h
    obtain ⟨x34, h35, h⟩ := h
    refine g_getI B fl_RX7_21 (by decide) dX7_step_51 h35 ?_
    refine g_icmp_lt B 65 dX7_step_54 (by decide) (fun hc => ?_) (fun hc => ?_)
    · replace h := ifp hc h
      refine g_aload_n B 0 dX7_step_65 rfl rfl ?_
      replace h := bnP_s h
      obtain ⟨x36, h37, h⟩ := h
      refine g_getR B fl_RX7_9 (by decide) dX7_step_66 h37 ?_
      refine g_aload_n B 0 dX7_step_69 rfl rfl ?_
      replace h := bnP_s h
      obtain ⟨x38, h39, h⟩ := h
      refine g_getI B fl_RX7_25 (by decide) dX7_step_70 h39 ?_
      replace h := bnP_s h
      obtain ⟨x40, h41, h⟩ := h
      refine g_bald B dX7_step_73 h41 ?_
      replace h := bnP_s h
      obtain ⟨x42, h43, h⟩ := h
      refine g_callNSs0 (st := []) B (cX9_isLetterc h43) mi_X9_isLetter lk_RX7_37 ⟨Nat.le_of_ble_eq_true rfl, Nat.le_of_ble_eq_true rfl⟩ rfl rfl (Nat.le_of_ble_eq_true rfl) dX7_step_74 (Nat.zero_le _) (Nat.zero_le _) ?_
      refine g_if_eq B 87 dX7_step_77 (by decide) (fun hc => ?_) (fun hc => ?_)
      · replace h := ifn (bI0 hc) h
        refine g_aload_n B 0 dX7_step_87 rfl rfl ?_
        replace h := bnP_s h
        obtain ⟨x44, h45, h⟩ := h
        refine g_getR B fl_RX7_9 (by decide) dX7_step_88 h45 ?_
        refine g_aload_n B 0 dX7_step_91 rfl rfl ?_
        replace h := bnP_s h
        obtain ⟨x46, h47, h⟩ := h
        refine g_getI B fl_RX7_25 (by decide) dX7_step_92 h47 ?_
        replace h := bnP_s h
        obtain ⟨x48, h49, h⟩ := h
        refine g_bald B dX7_step_95 h49 ?_
        replace h := bnP_s h
        obtain ⟨x50, h51, h⟩ := h
        refine g_callSs0 (st := []) B (cX7_isDigitc h51) mi_X7_isDigit lk_RX7_44 ⟨Nat.le_of_ble_eq_true rfl, Nat.le_of_ble_eq_true rfl⟩ rfl rfl (Nat.le_of_ble_eq_true rfl) dX7_step_96 (Nat.zero_le _) (Nat.zero_le _) ?_
        refine g_if_eq B 109 dX7_step_99 (by decide) (fun hc => ?_) (fun hc => ?_)
        · replace h := ifn (bI0 hc) h
          refine g_aload_n B 0 dX7_step_109 rfl rfl ?_
          refine g_aload_n B 0 dX7_step_110 rfl rfl ?_
          replace h := bnP_s h
          obtain ⟨x52, h53, h⟩ := h
          refine g_getR B fl_RX7_9 (by decide) dX7_step_111 h53 ?_
          refine g_aload_n B 0 dX7_step_114 rfl rfl ?_
          replace h := bnP_s h
          obtain ⟨x54, h55, h⟩ := h
          refine g_getI B fl_RX7_25 (by decide) dX7_step_115 h55 ?_
          replace h := bnP_s h
          obtain ⟨x56, h57, h⟩ := h
          refine g_bald B dX7_step_118 h57 ?_
          replace h := bnP_s h
          obtain ⟨x58, h59, h⟩ := h
          refine g_callSs0 (st := [va_rf v0]) B (cX7_kindOfSignc h59) mi_X7_kindOfSign lk_RX7_50 ⟨Nat.le_of_ble_eq_true rfl, Nat.le_of_ble_eq_true rfl⟩ rfl rfl (Nat.le_of_ble_eq_true rfl) dX7_step_119 (Nat.zero_le _) (Nat.zero_le _) ?_
          replace h := bnP_s h
          obtain ⟨s62, h61, h⟩ := h
          refine g_putI B fl_RX7_34 (by decide) dX7_step_122 h61 ?_
          refine g_aload_n B 0 dX7_step_125 rfl rfl ?_
          refine g_dup B dX7_step_126 (rf_cat _) ?_
          replace h := bnP_s h
          obtain ⟨x63, h64, h⟩ := h
          refine g_getI B fl_RX7_25 (by decide) dX7_step_127 h64 ?_
          refine g_iconst (v := 1) B dX7_step_130 (by decide) ?_
          refine g_iadd B dX7_step_131 ?_
          replace h := bnP_s h
          obtain ⟨s67, h66, h⟩ := h
          refine g_putI B fl_RX7_25 (by decide) dX7_step_132 h66 ?_
          replace h := Option.some.inj h
          subst h
          exact g_vret B hE (Nat.zero_le _) (Nat.zero_le _) dX7_step_135
        · replace h := ifp (bI1 hc) h
          refine g_aload_n B 0 dX7_step_102 rfl rfl ?_
          replace h := bnP_s h
          obtain ⟨s70, h69, h⟩ := h
          refine g_callVv0 (st := []) B (cX7_readNumberc h69) (Nat.le_of_ble_eq_true rfl) rfl rfl mi_X7_readNumber lk_RX7_47 ⟨Nat.le_of_ble_eq_true rfl, Nat.le_of_ble_eq_true rfl⟩ rfl rfl (Nat.le_of_ble_eq_true rfl) dX7_step_103 (Nat.zero_le _) (Nat.zero_le _) ?_
          refine g_goto B 135 dX7_step_106 (by decide) ?_
          replace h := Option.some.inj h
          subst h
          exact g_vret B hE (Nat.zero_le _) (Nat.zero_le _) dX7_step_135
      · replace h := ifp (bI1 hc) h
        refine g_aload_n B 0 dX7_step_80 rfl rfl ?_
        replace h := bnP_s h
        obtain ⟨s73, h72, h⟩ := h
        refine g_callVv0 (st := []) B (cX7_readWordc h72) (Nat.le_of_ble_eq_true rfl) rfl rfl mi_X7_readWord lk_RX7_41 ⟨Nat.le_of_ble_eq_true rfl, Nat.le_of_ble_eq_true rfl⟩ rfl rfl (Nat.le_of_ble_eq_true rfl) dX7_step_81 (Nat.zero_le _) (Nat.zero_le _) ?_
        refine g_goto B 135 dX7_step_84 (by decide) ?_
        replace h := Option.some.inj h
        subst h
        exact g_vret B hE (Nat.zero_le _) (Nat.zero_le _) dX7_step_135
    · replace h := ifn hc h
      refine g_aload_n B 0 dX7_step_57 rfl rfl ?_
      refine g_iconst (v := 0) B dX7_step_58 (by decide) ?_
      replace h := bnP_s h
      obtain ⟨s76, h75, h⟩ := h
      refine g_putI B fl_RX7_34 (by decide) dX7_step_59 h75 ?_
      refine g_goto B 135 dX7_step_62 (by decide) ?_
      replace h := Option.some.inj h
      subst h
      exact g_vret B hE (Nat.zero_le _) (Nat.zero_le _) dX7_step_135
  clear h
  refine g_sub [0] rfl ?_
  refine lpS_w (I := fun q1 s10 => GW Δ Γ (0) (0) 0 [(0, va_rf v0)] [] s10) (r := r2) (σr := s26) ?_ FUEL () σ h3
  intro q1 s10 x8 s9 h hI6 hR7
  unfold fX7_step_l1 at h
  refine g_aload_n B 0 dX7_step_0 rfl rfl ?_
  replace h := bnP_s h
  obtain ⟨x11, h12, h⟩ := h
  refine g_getI B fl_RX7_25 (by decide) dX7_step_1 h12 ?_
  refine g_aload_n B 0 dX7_step_4 rfl rfl ?_
  replace h := bnP_s h
  obtain ⟨x13, h14, h⟩ := h
  refine g_getI B fl_RX7_21 (by decide) dX7_step_5 h14 ?_
  refine g_icmp_ge B 38 dX7_step_8 (by decide) (fun hc => ?_) (fun hc => ?_)
  · replace h := ifp hc h
    obtain ⟨w1, w2⟩ := inS h
    clear h
    subst w1
    subst w2
    obtain ⟨e8, e7⟩ := hR7 _ rfl
    subst e8
    subst e7
    exact g_sub [0] rfl kE4
  · replace h := ifn hc h
    refine g_aload_n B 0 dX7_step_11 rfl rfl ?_
    replace h := bnP_s h
    obtain ⟨x15, h16, h⟩ := h
    refine g_getR B fl_RX7_9 (by decide) dX7_step_12 h16 ?_
    refine g_aload_n B 0 dX7_step_15 rfl rfl ?_
    replace h := bnP_s h
    obtain ⟨x17, h18, h⟩ := h
    refine g_getI B fl_RX7_25 (by decide) dX7_step_16 h18 ?_
    replace h := bnP_s h
    obtain ⟨x19, h20, h⟩ := h
    refine g_bald B dX7_step_19 h20 ?_
    refine g_bipush (v := 32) B dX7_step_20 (by decide) ?_
    refine g_icmp_ne B 38 dX7_step_22 (by decide) (fun hc => ?_) (fun hc => ?_)
    · replace h := ifn hc h
      obtain ⟨w1, w2⟩ := inS h
      clear h
      subst w1
      subst w2
      obtain ⟨e8, e7⟩ := hR7 _ rfl
      subst e8
      subst e7
      exact g_sub [0] rfl kE4
    · replace h := ifp hc h
      refine g_aload_n B 0 dX7_step_25 rfl rfl ?_
      refine g_dup B dX7_step_26 (rf_cat _) ?_
      replace h := bnP_s h
      obtain ⟨x21, h22, h⟩ := h
      refine g_getI B fl_RX7_25 (by decide) dX7_step_27 h22 ?_
      refine g_iconst (v := 1) B dX7_step_30 (by decide) ?_
      refine g_iadd B dX7_step_31 ?_
      replace h := bnP_s h
      obtain ⟨s25, h24, h⟩ := h
      refine g_putI B fl_RX7_25 (by decide) dX7_step_32 h24 ?_
      refine g_goto B 0 dX7_step_35 (by decide) ?_
      obtain ⟨w1, w2⟩ := inS h
      clear h
      subst w1
      subst w2
      exact g_sub [0] rfl (hI6 _ rfl)
set_option maxRecDepth 100000 in
set_option maxHeartbeats 4000000 in
theorem cX7_startAtc {l : Launch} {v0 : Option Nat} {v1 : Option Nat} {v2 : Int32} {σ : HpT} {σ' : HpT} (h : fX7_startAt v0 v1 v2 σ = some σ') : IsK σ v0 7 ∧ Ct l yX7_startAt cX7_startAt 3 none 3 62 [va_rf v0, va_rf v1, .int v2] σ (.ok none) σ' 0 0 := by
  unfold fX7_startAt at h
  replace h := bnP_s h
  obtain ⟨u, hk, h⟩ := h
  replace hk := isK_s hk
  refine ⟨hk, ?_⟩
  refine ct_start mi_X7_startAt.1 rfl (al_le (al_1 (rf_cat _) (al_1 (rf_cat _) (al_1 rfl al_n))) (Nat.le_of_ble_eq_true rfl)) (ag_1 (rf_cat _) (ag_1 (rf_cat _) (ag_1 rfl ag_n))) (fun Δ Γ B hE hnm => ?_)
  refine g_aload_n B 0 dX7_startAt_0 rfl rfl ?_
  refine g_aload_n B 1 dX7_startAt_1 rfl rfl ?_
  replace h := bnP_s h
  obtain ⟨s3, h2, h⟩ := h
  refine g_putR B fl_RX7_9 (by decide) (Or.inr ⟨_, rfl⟩) dX7_startAt_2 h2 ?_
  refine g_aload_n B 0 dX7_startAt_5 rfl rfl ?_
  refine g_iload_n B 2 dX7_startAt_6 rfl rfl ?_
  refine g_aload_n B 1 dX7_startAt_7 rfl rfl ?_
  replace h := bnP_s h
  obtain ⟨x4, h5, h⟩ := h
  refine g_alen B (κ := 22) (by decide) dX7_startAt_8 h5 ?_
  refine g_mmin B mt_RX7_15 (by decide) (Nat.le_of_ble_eq_true rfl) dX7_startAt_9 (Nat.zero_le _) (Nat.zero_le _) ?_
  replace h := bnP_s h
  obtain ⟨s8, h7, h⟩ := h
  refine g_putI B fl_RX7_21 (by decide) dX7_startAt_12 h7 ?_
  refine g_aload_n B 0 dX7_startAt_15 rfl rfl ?_
  refine g_iconst (v := 0) B dX7_startAt_16 (by decide) ?_
  replace h := bnP_s h
  obtain ⟨s11, h10, h⟩ := h
  refine g_putI B fl_RX7_25 (by decide) dX7_startAt_17 h10 ?_
  refine g_aload_n B 0 dX7_startAt_20 rfl rfl ?_
  replace h := bnP_s h
  obtain ⟨s14, h13, h⟩ := h
  refine g_callVv0 (st := []) B (cX7_stepc h13) (Nat.le_of_ble_eq_true rfl) rfl rfl mi_X7_step lk_RX7_28 ⟨Nat.le_of_ble_eq_true rfl, Nat.le_of_ble_eq_true rfl⟩ rfl rfl (Nat.le_of_ble_eq_true rfl) dX7_startAt_21 (Nat.zero_le _) (Nat.zero_le _) ?_
  replace h := Option.some.inj h
  subst h
  exact g_vret B hE (Nat.zero_le _) (Nat.zero_le _) dX7_startAt_24
set_option maxRecDepth 100000 in
set_option maxHeartbeats 4000000 in
theorem cX9_packedc {l : Launch} {v0 : Option Nat} {σ : HpT} {r : Int64} (h : fX9_packed v0 σ = some r) : Ct l yX9_packed cX9_packed 4 (some .long) 4 85 [va_rf v0] σ (.ok (some (.long r))) σ 0 0 := by
  unfold fX9_packed at h
  refine ct_start mi_X9_packed.1 rfl (al_le (al_1 (rf_cat _) al_n) (Nat.le_of_ble_eq_true rfl)) (ag_1 (rf_cat _) ag_n) (fun Δ Γ B hE hnm => ?_)
  refine g_lconst (v := 0) B dX9_packed_0 (by decide) ?_
  refine g_lstore_n B dX9_packed_1 rfl (Nat.le_of_ble_eq_true rfl) (s2_c (f2_1 rfl (rf_cat _) f2_n)) ?_
  refine g_iconst (v := 0) B dX9_packed_2 (by decide) ?_
  refine g_istore_n B dX9_packed_3 rfl (Nat.le_of_ble_eq_true rfl) (s1_c (f1_k rfl (f1_k rfl f1_n))) ?_
  replace h := bnP_s h
  obtain ⟨r2, h3, h⟩ := h
  have kE4 : GW Δ Γ (0) (0) 28 [(1, .long r2)] [] σ := by
    refine g_lload_n B 0 dX9_packed_28 rfl rfl ?_
    replace h := Option.some.inj h
    subst h
    exact g_lret B hE (Nat.zero_le _) (Nat.zero_le _) dX9_packed_29
  clear h
  refine g_sub [2, 1, 0] rfl ?_
  refine lpP_w (I := fun q1 => GW Δ Γ (0) (0) 4 [(0, va_rf v0), (1, .long q1.1), (3, .int q1.2)] [] σ) (r := r2) ?_ FUEL (0, 0) h3
  intro q1 x8 h hI6 hR7
  unfold fX9_packed_l1 at h
  refine g_iload_n B 2 dX9_packed_4 rfl rfl ?_
  refine g_aload_n B 0 dX9_packed_5 rfl rfl ?_
  replace h := bnP_s h
  obtain ⟨x10, h11, h⟩ := h
  refine g_callQs0 (st := [.int q1.2]) B (cJ0_length_8abf5c h11) rfl mi_J0_length_8abf5 lk_RX9_543 ⟨Nat.le_of_ble_eq_true rfl, Nat.le_of_ble_eq_true rfl⟩ rfl rfl (Nat.le_of_ble_eq_true rfl) dX9_packed_6 (Nat.zero_le _) (Nat.zero_le _) ?_
  refine g_icmp_ge B 28 dX9_packed_9 (by decide) (fun hc => ?_) (fun hc => ?_)
  · replace h := ifp hc h
    replace h := Option.some.inj h
    subst h
    have e8 := hR7 _ rfl
    subst e8
    exact g_sub [1] rfl kE4
  · replace h := ifn hc h
    refine g_lload_n B 1 dX9_packed_12 rfl rfl ?_
    refine g_aload_n B 0 dX9_packed_13 rfl rfl ?_
    refine g_iload_n B 2 dX9_packed_14 rfl rfl ?_
    replace h := bnP_s h
    obtain ⟨x12, h13, h⟩ := h
    refine g_callQs0 (st := [.long q1.1]) B (cJ0_charAt_5068ec h13) rfl mi_J0_charAt_5068e lk_RX9_546 ⟨Nat.le_of_ble_eq_true rfl, Nat.le_of_ble_eq_true rfl⟩ rfl rfl (Nat.le_of_ble_eq_true rfl) dX9_packed_15 (Nat.zero_le _) (Nat.zero_le _) ?_
    replace h := bnP_s h
    obtain ⟨x14, h15, h⟩ := h
    refine g_callSs0 (st := []) B (cX9_joinedc h15) mi_X9_joined lk_RX9_547 ⟨Nat.le_of_ble_eq_true rfl, Nat.le_of_ble_eq_true rfl⟩ rfl rfl (Nat.le_of_ble_eq_true rfl) dX9_packed_18 (Nat.zero_le _) (Nat.zero_le _) ?_
    refine g_lstore_n B dX9_packed_21 rfl (Nat.le_of_ble_eq_true rfl) (s2_c (f2_1 rfl (rf_cat _) (f2_x (f2_k rfl f2_n)))) ?_
    refine g_iinc (v := (q1.2 + 1)) B 2 dX9_packed_22 rfl (by first | rfl | (congr 1; decide)) (Nat.le_of_ble_eq_true rfl) (s1_c (f1_k rfl (f1_k rfl (f1_x f1_n)))) ?_
    refine g_goto B 4 dX9_packed_25 (by decide) ?_
    replace h := Option.some.inj h
    subst h
    exact g_sub [2, 1, 0] rfl (hI6 _ rfl)
set_option maxRecDepth 100000 in
set_option maxHeartbeats 4000000 in
theorem cX5_isAtWordc {l : Launch} {v0 : Option Nat} {v1 : Option Nat} {σ : HpT} {r : Bool} (h : fX5_isAtWord v0 v1 σ = some r) : IsK σ v0 5 ∧ Ct l yX5_isAtWord cX5_isAtWord 2 (some .boolean) 5 108 [va_rf v0, va_rf v1] σ (.ok (some (.int (bI r)))) σ 0 0 := by
  unfold fX5_isAtWord at h
  replace h := bnP_s h
  obtain ⟨u, hk, h⟩ := h
  replace hk := isK_s hk
  refine ⟨hk, ?_⟩
  refine ct_start mi_X5_isAtWord.1 rfl (al_le (al_1 (rf_cat _) (al_1 (rf_cat _) al_n)) (Nat.le_of_ble_eq_true rfl)) (ag_1 (rf_cat _) (ag_1 (rf_cat _) ag_n)) (fun Δ Γ B hE hnm => ?_)
  refine g_aload_n B 0 dX5_isAtWord_0 rfl rfl ?_
  replace h := bnP_s h
  obtain ⟨x1, h2, h⟩ := h
  refine g_getR B fl_RX5_12 (by decide) dX5_isAtWord_1 h2 ?_
  replace h := bnP_s h
  obtain ⟨x3, h4, h⟩ := h
  refine g_getI B fl_RX5_48 (by decide) dX5_isAtWord_4 h4 ?_
  refine g_iconst (v := 1) B dX5_isAtWord_7 (by decide) ?_
  refine g_icmp_ne B 30 dX5_isAtWord_8 (by decide) (fun hc => ?_) (fun hc => ?_)
  · replace h := ifn hc h
    refine g_iconst (v := 0) B dX5_isAtWord_30 (by decide) ?_
    replace h := Option.some.inj h
    subst h
    exact g_zret B hE rfl (Nat.zero_le _) (Nat.zero_le _) dX5_isAtWord_31
  · replace h := ifp hc h
    refine g_aload_n B 0 dX5_isAtWord_11 rfl rfl ?_
    replace h := bnP_s h
    obtain ⟨x5, h6, h⟩ := h
    refine g_getR B fl_RX5_12 (by decide) dX5_isAtWord_12 h6 ?_
    replace h := bnP_s h
    obtain ⟨x7, h8, h⟩ := h
    refine g_getJ B fl_RX5_64 (by decide) dX5_isAtWord_15 h8 ?_
    refine g_aload_n B 1 dX5_isAtWord_18 rfl rfl ?_
    replace h := bnP_s h
    obtain ⟨x9, h10, h⟩ := h
    refine g_callNSs0 (st := [.long x7]) B (cX9_packedc h10) mi_X9_packed lk_RX5_68 ⟨Nat.le_of_ble_eq_true rfl, Nat.le_of_ble_eq_true rfl⟩ rfl rfl (Nat.le_of_ble_eq_true rfl) dX5_isAtWord_19 (Nat.zero_le _) (Nat.zero_le _) ?_
    refine g_lcmp B dX5_isAtWord_22 ?_
    refine g_if_ne B 30 dX5_isAtWord_23 (by decide) (fun hc => ?_) (fun hc => ?_)
    · replace h := ifn hc h
      refine g_iconst (v := 0) B dX5_isAtWord_30 (by decide) ?_
      replace h := Option.some.inj h
      subst h
      exact g_zret B hE rfl (Nat.zero_le _) (Nat.zero_le _) dX5_isAtWord_31
    · replace h := ifp hc h
      refine g_iconst (v := 1) B dX5_isAtWord_26 (by decide) ?_
      refine g_goto B 31 dX5_isAtWord_27 (by decide) ?_
      replace h := Option.some.inj h
      subst h
      exact g_zret B hE rfl (Nat.zero_le _) (Nat.zero_le _) dX5_isAtWord_31
set_option maxRecDepth 100000 in
set_option maxHeartbeats 4000000 in
theorem cX5_checkNumberc {l : Launch} {v0 : Option Nat} {v1 : Int32} {v2 : Int32} {σ : HpT} {r : Bool} {σ' : HpT} (h : fX5_checkNumber v0 v1 v2 σ = some (r, σ')) : IsK σ v0 5 ∧ Ct l yX5_checkNumber cX5_checkNumber 3 (some .boolean) 1 21 [va_rf v0, .int v1, .int v2] σ (.ok (some (.int (bI r)))) σ' 0 0 := by
  unfold fX5_checkNumber at h
  replace h := bnP_s h
  obtain ⟨u, hk, h⟩ := h
  replace hk := isK_s hk
  refine ⟨hk, ?_⟩
  refine ct_start mi_X5_checkNumber.1 rfl (al_le (al_1 (rf_cat _) (al_1 rfl (al_1 rfl al_n))) (Nat.le_of_ble_eq_true rfl)) (ag_1 (rf_cat _) (ag_1 rfl (ag_1 rfl ag_n))) (fun Δ Γ B hE hnm => ?_)
  refine g_aload_n B 0 dX5_checkNumber_0 rfl rfl ?_
  replace h := bnP_s h
  obtain ⟨x1, h2, h⟩ := h
  refine g_getR B fl_RX5_12 (by decide) dX5_checkNumber_1 h2 ?_
  replace h := bnP_s h
  obtain ⟨x3, h4, h⟩ := h
  refine g_getI B fl_RX5_48 (by decide) dX5_checkNumber_4 h4 ?_
  refine g_iconst (v := 2) B dX5_checkNumber_7 (by decide) ?_
  refine g_icmp_eq B 17 dX5_checkNumber_8 (by decide) (fun hc => ?_) (fun hc => ?_)
  · replace h := ifp hc h
    refine g_aload_n B 0 dX5_checkNumber_17 rfl rfl ?_
    replace h := bnP_s h
    obtain ⟨x5, h6, h⟩ := h
    refine g_getR B fl_RX5_12 (by decide) dX5_checkNumber_18 h6 ?_
    replace h := bnP_s h
    obtain ⟨x7, h8, h⟩ := h
    refine g_getI B fl_RX5_72 (by decide) dX5_checkNumber_21 h8 ?_
    refine g_iload_n B 1 dX5_checkNumber_24 rfl rfl ?_
    refine g_icmp_lt B 39 dX5_checkNumber_25 (by decide) (fun hc => ?_) (fun hc => ?_)
    · replace h := ifp hc h
      refine g_aload_n B 0 dX5_checkNumber_39 rfl rfl ?_
      refine g_iconst (v := 2) B dX5_checkNumber_40 (by decide) ?_
      replace h := bnS_s h
      obtain ⟨x9, s11, h10, h⟩ := h
      refine g_callVs0 (st := []) B (cX5_failc h10) (Nat.le_of_ble_eq_true rfl) rfl rfl mi_X5_fail lk_RX5_51 ⟨Nat.le_of_ble_eq_true rfl, Nat.le_of_ble_eq_true rfl⟩ rfl rfl (Nat.le_of_ble_eq_true rfl) dX5_checkNumber_41 (Nat.zero_le _) (Nat.zero_le _) ?_
      refine g_if_eq B 51 dX5_checkNumber_44 (by decide) (fun hc => ?_) (fun hc => ?_)
      · replace h := ifn (bI0 hc) h
        refine g_iconst (v := 0) B dX5_checkNumber_51 (by decide) ?_
        obtain ⟨w1, w2⟩ := inS h
        clear h
        subst w1
        subst w2
        exact g_zret B hE rfl (Nat.zero_le _) (Nat.zero_le _) dX5_checkNumber_52
      · replace h := ifp (bI1 hc) h
        refine g_iconst (v := 1) B dX5_checkNumber_47 (by decide) ?_
        refine g_goto B 52 dX5_checkNumber_48 (by decide) ?_
        obtain ⟨w1, w2⟩ := inS h
        clear h
        subst w1
        subst w2
        exact g_zret B hE rfl (Nat.zero_le _) (Nat.zero_le _) dX5_checkNumber_52
    · replace h := ifn hc h
      refine g_aload_n B 0 dX5_checkNumber_28 rfl rfl ?_
      replace h := bnP_s h
      obtain ⟨x12, h13, h⟩ := h
      refine g_getR B fl_RX5_12 (by decide) dX5_checkNumber_29 h13 ?_
      replace h := bnP_s h
      obtain ⟨x14, h15, h⟩ := h
      refine g_getI B fl_RX5_72 (by decide) dX5_checkNumber_32 h15 ?_
      refine g_iload_n B 2 dX5_checkNumber_35 rfl rfl ?_
      refine g_icmp_le B 47 dX5_checkNumber_36 (by decide) (fun hc => ?_) (fun hc => ?_)
      · replace h := ifp hc h
        refine g_iconst (v := 1) B dX5_checkNumber_47 (by decide) ?_
        refine g_goto B 52 dX5_checkNumber_48 (by decide) ?_
        obtain ⟨w1, w2⟩ := inS h
        clear h
        subst w1
        subst w2
        exact g_zret B hE rfl (Nat.zero_le _) (Nat.zero_le _) dX5_checkNumber_52
      · replace h := ifn hc h
        refine g_aload_n B 0 dX5_checkNumber_39 rfl rfl ?_
        refine g_iconst (v := 2) B dX5_checkNumber_40 (by decide) ?_
        replace h := bnS_s h
        obtain ⟨x16, s18, h17, h⟩ := h
        refine g_callVs0 (st := []) B (cX5_failc h17) (Nat.le_of_ble_eq_true rfl) rfl rfl mi_X5_fail lk_RX5_51 ⟨Nat.le_of_ble_eq_true rfl, Nat.le_of_ble_eq_true rfl⟩ rfl rfl (Nat.le_of_ble_eq_true rfl) dX5_checkNumber_41 (Nat.zero_le _) (Nat.zero_le _) ?_
        refine g_if_eq B 51 dX5_checkNumber_44 (by decide) (fun hc => ?_) (fun hc => ?_)
        · replace h := ifn (bI0 hc) h
          refine g_iconst (v := 0) B dX5_checkNumber_51 (by decide) ?_
          obtain ⟨w1, w2⟩ := inS h
          clear h
          subst w1
          subst w2
          exact g_zret B hE rfl (Nat.zero_le _) (Nat.zero_le _) dX5_checkNumber_52
        · replace h := ifp (bI1 hc) h
          refine g_iconst (v := 1) B dX5_checkNumber_47 (by decide) ?_
          refine g_goto B 52 dX5_checkNumber_48 (by decide) ?_
          obtain ⟨w1, w2⟩ := inS h
          clear h
          subst w1
          subst w2
          exact g_zret B hE rfl (Nat.zero_le _) (Nat.zero_le _) dX5_checkNumber_52
  · replace h := ifn hc h
    refine g_aload_n B 0 dX5_checkNumber_11 rfl rfl ?_
    refine g_iconst (v := 1) B dX5_checkNumber_12 (by decide) ?_
    replace h := bnS_s h
    obtain ⟨x19, s21, h20, h⟩ := h
    refine g_callVs0 (st := []) B (cX5_failc h20) (Nat.le_of_ble_eq_true rfl) rfl rfl mi_X5_fail lk_RX5_51 ⟨Nat.le_of_ble_eq_true rfl, Nat.le_of_ble_eq_true rfl⟩ rfl rfl (Nat.le_of_ble_eq_true rfl) dX5_checkNumber_13 (Nat.zero_le _) (Nat.zero_le _) ?_
    obtain ⟨w1, w2⟩ := inS h
    clear h
    subst w1
    subst w2
    exact g_zret B hE (nar_bI _) (Nat.zero_le _) (Nat.zero_le _) dX5_checkNumber_16
set_option maxRecDepth 100000 in
set_option maxHeartbeats 4000000 in
theorem cX5_checkNextNumberc {l : Launch} {v0 : Option Nat} {v1 : Int32} {v2 : Int32} {σ : HpT} {r : Bool} {σ' : HpT} (h : fX5_checkNextNumber v0 v1 v2 σ = some (r, σ')) : IsK σ v0 5 ∧ Ct l yX5_checkNextNumber cX5_checkNextNumber 3 (some .boolean) 3 62 [va_rf v0, .int v1, .int v2] σ (.ok (some (.int (bI r)))) σ' 0 0 := by
  unfold fX5_checkNextNumber at h
  replace h := bnP_s h
  obtain ⟨u, hk, h⟩ := h
  replace hk := isK_s hk
  refine ⟨hk, ?_⟩
  refine ct_start mi_X5_checkNextNumber.1 rfl (al_le (al_1 (rf_cat _) (al_1 rfl (al_1 rfl al_n))) (Nat.le_of_ble_eq_true rfl)) (ag_1 (rf_cat _) (ag_1 rfl (ag_1 rfl ag_n))) (fun Δ Γ B hE hnm => ?_)
  refine g_aload_n B 0 dX5_checkNextNumber_0 rfl rfl ?_
  replace h := bnP_s h
  obtain ⟨x1, h2, h⟩ := h
  refine g_getR B fl_RX5_12 (by decide) dX5_checkNextNumber_1 h2 ?_
  replace h := bnP_s h
  obtain ⟨s5, h4, h⟩ := h
  refine g_callVv0 (st := []) B (cX7_stepc h4) (Nat.le_of_ble_eq_true rfl) rfl rfl mi_X7_step lk_RX5_55 ⟨Nat.le_of_ble_eq_true rfl, Nat.le_of_ble_eq_true rfl⟩ rfl rfl (Nat.le_of_ble_eq_true rfl) dX5_checkNextNumber_4 (Nat.zero_le _) (Nat.zero_le _) ?_
  refine g_aload_n B 0 dX5_checkNextNumber_7 rfl rfl ?_
  refine g_iload_n B 1 dX5_checkNextNumber_8 rfl rfl ?_
  refine g_iload_n B 2 dX5_checkNextNumber_9 rfl rfl ?_
  replace h := bnS_s h
  obtain ⟨x6, s8, h7, h⟩ := h
  refine g_callVs0 (st := []) B (cX5_checkNumberc h7) (Nat.le_of_ble_eq_true rfl) rfl rfl mi_X5_checkNumber lk_RX5_75 ⟨Nat.le_of_ble_eq_true rfl, Nat.le_of_ble_eq_true rfl⟩ rfl rfl (Nat.le_of_ble_eq_true rfl) dX5_checkNextNumber_10 (Nat.zero_le _) (Nat.zero_le _) ?_
  obtain ⟨w1, w2⟩ := inS h
  clear h
  subst w1
  subst w2
  exact g_zret B hE (nar_bI _) (Nat.zero_le _) (Nat.zero_le _) dX5_checkNextNumber_13
set_option maxRecDepth 100000 in
set_option maxHeartbeats 4000000 in
theorem cX5_finishLinec {l : Launch} {v0 : Option Nat} {σ : HpT} {r : Bool} {σ' : HpT} (h : fX5_finishLine v0 σ = some (r, σ')) : IsK σ v0 5 ∧ Ct l yX5_finishLine cX5_finishLine 1 (some .boolean) 3 62 [va_rf v0] σ (.ok (some (.int (bI r)))) σ' 0 0 := by
  unfold fX5_finishLine at h
  replace h := bnP_s h
  obtain ⟨u, hk, h⟩ := h
  replace hk := isK_s hk
  refine ⟨hk, ?_⟩
  refine ct_start mi_X5_finishLine.1 rfl (al_le (al_1 (rf_cat _) al_n) (Nat.le_of_ble_eq_true rfl)) (ag_1 (rf_cat _) ag_n) (fun Δ Γ B hE hnm => ?_)
  refine g_aload_n B 0 dX5_finishLine_0 rfl rfl ?_
  replace h := bnP_s h
  obtain ⟨x1, h2, h⟩ := h
  refine g_getR B fl_RX5_12 (by decide) dX5_finishLine_1 h2 ?_
  replace h := bnP_s h
  obtain ⟨s5, h4, h⟩ := h
  refine g_callVv0 (st := []) B (cX7_stepc h4) (Nat.le_of_ble_eq_true rfl) rfl rfl mi_X7_step lk_RX5_55 ⟨Nat.le_of_ble_eq_true rfl, Nat.le_of_ble_eq_true rfl⟩ rfl rfl (Nat.le_of_ble_eq_true rfl) dX5_finishLine_4 (Nat.zero_le _) (Nat.zero_le _) ?_
  refine g_iconst (v := 1) B dX5_finishLine_7 (by decide) ?_
  obtain ⟨w1, w2⟩ := inS h
  clear h
  subst w1
  subst w2
  exact g_zret B hE rfl (Nat.zero_le _) (Nat.zero_le _) dX5_finishLine_8
set_option maxRecDepth 100000 in
set_option maxHeartbeats 4000000 in
theorem cX5_readHeadc {l : Launch} {v0 : Option Nat} {σ : HpT} {r : Bool} {σ' : HpT} (h : fX5_readHead v0 σ = some (r, σ')) : IsK σ v0 5 ∧ Ct l yX5_readHead cX5_readHead 1 (some .boolean) 6 129 [va_rf v0] σ (.ok (some (.int (bI r)))) σ' 0 0 := by
  unfold fX5_readHead at h
  replace h := bnP_s h
  obtain ⟨u, hk, h⟩ := h
  replace hk := isK_s hk
  refine ⟨hk, ?_⟩
  refine ct_start mi_X5_readHead.1 rfl (al_le (al_1 (rf_cat _) al_n) (Nat.le_of_ble_eq_true rfl)) (ag_1 (rf_cat _) ag_n) (fun Δ Γ B hE hnm => ?_)
  refine g_aload_n B 0 dX5_readHead_0 rfl rfl ?_
  refine g_ldcS B (j := 1) rfl dX5_readHead_1 ?_
  replace h := bnP_s h
  obtain ⟨x1, h2, h⟩ := h
  refine g_callVs0 (st := []) B (cX5_isAtWordc h2) (Nat.le_of_ble_eq_true rfl) rfl rfl mi_X5_isAtWord lk_RX5_80 ⟨Nat.le_of_ble_eq_true rfl, Nat.le_of_ble_eq_true rfl⟩ rfl rfl (Nat.le_of_ble_eq_true rfl) dX5_readHead_3 (Nat.zero_le _) (Nat.zero_le _) ?_
  refine g_if_ne B 15 dX5_readHead_6 (by decide) (fun hc => ?_) (fun hc => ?_)
  · replace h := ifp (bI1 hc) h
    refine g_aload_n B 0 dX5_readHead_15 rfl rfl ?_
    refine g_iconst (v := 4) B dX5_readHead_16 (by decide) ?_
    refine g_bipush (v := 20) B dX5_readHead_17 (by decide) ?_
    replace h := bnS_s h
    obtain ⟨x3, s5, h4, h⟩ := h
    refine g_callVs0 (st := []) B (cX5_checkNextNumberc h4) (Nat.le_of_ble_eq_true rfl) rfl rfl mi_X5_checkNextNumber lk_RX5_84 ⟨Nat.le_of_ble_eq_true rfl, Nat.le_of_ble_eq_true rfl⟩ rfl rfl (Nat.le_of_ble_eq_true rfl) dX5_readHead_19 (Nat.zero_le _) (Nat.zero_le _) ?_
    refine g_if_ne B 27 dX5_readHead_22 (by decide) (fun hc => ?_) (fun hc => ?_)
    · replace h := ifp (bI1 hc) h
      refine g_aload_n B 0 dX5_readHead_27 rfl rfl ?_
      replace h := bnP_s h
      obtain ⟨x6, h7, h⟩ := h
      refine g_getR B fl_RX5_28 (by decide) dX5_readHead_28 h7 ?_
      refine g_aload_n B 0 dX5_readHead_31 rfl rfl ?_
      replace h := bnP_s h
      obtain ⟨x8, h9, h⟩ := h
      refine g_getR B fl_RX5_12 (by decide) dX5_readHead_32 h9 ?_
      replace h := bnP_s h
      obtain ⟨x10, h11, h⟩ := h
      refine g_getI B fl_RX5_72 (by decide) dX5_readHead_35 h11 ?_
      replace h := bnP_s h
      obtain ⟨s14, h13, h⟩ := h
      refine g_putI B fl_RX5_87 (by decide) dX5_readHead_38 h13 ?_
      refine g_aload_n B 0 dX5_readHead_41 rfl rfl ?_
      refine g_iconst (v := 0) B dX5_readHead_42 (by decide) ?_
      refine g_iconst (v := 4) B dX5_readHead_43 (by decide) ?_
      replace h := bnS_s h
      obtain ⟨x15, s17, h16, h⟩ := h
      refine g_callVs0 (st := []) B (cX5_checkNextNumberc h16) (Nat.le_of_ble_eq_true rfl) rfl rfl mi_X5_checkNextNumber lk_RX5_84 ⟨Nat.le_of_ble_eq_true rfl, Nat.le_of_ble_eq_true rfl⟩ rfl rfl (Nat.le_of_ble_eq_true rfl) dX5_readHead_44 (Nat.zero_le _) (Nat.zero_le _) ?_
      refine g_if_ne B 52 dX5_readHead_47 (by decide) (fun hc => ?_) (fun hc => ?_)
      · replace h := ifp (bI1 hc) h
        refine g_aload_n B 0 dX5_readHead_52 rfl rfl ?_
        replace h := bnP_s h
        obtain ⟨x18, h19, h⟩ := h
        refine g_getR B fl_RX5_28 (by decide) dX5_readHead_53 h19 ?_
        refine g_aload_n B 0 dX5_readHead_56 rfl rfl ?_
        replace h := bnP_s h
        obtain ⟨x20, h21, h⟩ := h
        refine g_getR B fl_RX5_12 (by decide) dX5_readHead_57 h21 ?_
        replace h := bnP_s h
        obtain ⟨x22, h23, h⟩ := h
        refine g_getI B fl_RX5_72 (by decide) dX5_readHead_60 h23 ?_
        replace h := bnP_s h
        obtain ⟨s26, h25, h⟩ := h
        refine g_putI B fl_RX5_90 (by decide) dX5_readHead_63 h25 ?_
        refine g_aload_n B 0 dX5_readHead_66 rfl rfl ?_
        refine g_iconst (v := 2) B dX5_readHead_67 (by decide) ?_
        refine g_iconst (v := 4) B dX5_readHead_68 (by decide) ?_
        replace h := bnS_s h
        obtain ⟨x27, s29, h28, h⟩ := h
        refine g_callVs0 (st := []) B (cX5_checkNextNumberc h28) (Nat.le_of_ble_eq_true rfl) rfl rfl mi_X5_checkNextNumber lk_RX5_84 ⟨Nat.le_of_ble_eq_true rfl, Nat.le_of_ble_eq_true rfl⟩ rfl rfl (Nat.le_of_ble_eq_true rfl) dX5_readHead_69 (Nat.zero_le _) (Nat.zero_le _) ?_
        refine g_if_ne B 77 dX5_readHead_72 (by decide) (fun hc => ?_) (fun hc => ?_)
        · replace h := ifp (bI1 hc) h
          refine g_aload_n B 0 dX5_readHead_77 rfl rfl ?_
          replace h := bnP_s h
          obtain ⟨x30, h31, h⟩ := h
          refine g_getR B fl_RX5_28 (by decide) dX5_readHead_78 h31 ?_
          replace h := bnP_s h
          obtain ⟨x32, h33, h⟩ := h
          refine g_getRg B fl_RX5_93 (by decide) dX5_readHead_81 h33 ?_
          refine g_aload_n B 0 dX5_readHead_84 rfl rfl ?_
          replace h := bnP_s h
          obtain ⟨x34, h35, h⟩ := h
          refine g_getR B fl_RX5_12 (by decide) dX5_readHead_85 h35 ?_
          replace h := bnP_s h
          obtain ⟨x36, h37, h⟩ := h
          refine g_getI B fl_RX5_72 (by decide) dX5_readHead_88 h37 ?_
          replace h := bnP_s h
          obtain ⟨s40, h39, h⟩ := h
          refine g_putI B fl_RX5_97 (by decide) dX5_readHead_91 h39 ?_
          refine g_aload_n B 0 dX5_readHead_94 rfl rfl ?_
          replace h := bnS_s h
          obtain ⟨x41, s43, h42, h⟩ := h
          refine g_callVs0 (st := []) B (cX5_finishLinec h42) (Nat.le_of_ble_eq_true rfl) rfl rfl mi_X5_finishLine lk_RX5_102 ⟨Nat.le_of_ble_eq_true rfl, Nat.le_of_ble_eq_true rfl⟩ rfl rfl (Nat.le_of_ble_eq_true rfl) dX5_readHead_95 (Nat.zero_le _) (Nat.zero_le _) ?_
          obtain ⟨w1, w2⟩ := inS h
          clear h
          subst w1
          subst w2
          exact g_zret B hE (nar_bI _) (Nat.zero_le _) (Nat.zero_le _) dX5_readHead_98
        · replace h := ifn (bI0 hc) h
          refine g_iconst (v := 0) B dX5_readHead_75 (by decide) ?_
          obtain ⟨w1, w2⟩ := inS h
          clear h
          subst w1
          subst w2
          exact g_zret B hE rfl (Nat.zero_le _) (Nat.zero_le _) dX5_readHead_76
      · replace h := ifn (bI0 hc) h
        refine g_iconst (v := 0) B dX5_readHead_50 (by decide) ?_
        obtain ⟨w1, w2⟩ := inS h
        clear h
        subst w1
        subst w2
        exact g_zret B hE rfl (Nat.zero_le _) (Nat.zero_le _) dX5_readHead_51
    · replace h := ifn (bI0 hc) h
      refine g_iconst (v := 0) B dX5_readHead_25 (by decide) ?_
      obtain ⟨w1, w2⟩ := inS h
      clear h
      subst w1
      subst w2
      exact g_zret B hE rfl (Nat.zero_le _) (Nat.zero_le _) dX5_readHead_26
  · replace h := ifn (bI0 hc) h
    refine g_aload_n B 0 dX5_readHead_9 rfl rfl ?_
    refine g_iconst (v := 1) B dX5_readHead_10 (by decide) ?_
    replace h := bnS_s h
    obtain ⟨x44, s46, h45, h⟩ := h
    refine g_callVs0 (st := []) B (cX5_failc h45) (Nat.le_of_ble_eq_true rfl) rfl rfl mi_X5_fail lk_RX5_51 ⟨Nat.le_of_ble_eq_true rfl, Nat.le_of_ble_eq_true rfl⟩ rfl rfl (Nat.le_of_ble_eq_true rfl) dX5_readHead_11 (Nat.zero_le _) (Nat.zero_le _) ?_
    obtain ⟨w1, w2⟩ := inS h
    clear h
    subst w1
    subst w2
    exact g_zret B hE (nar_bI _) (Nat.zero_le _) (Nat.zero_le _) dX5_readHead_14
set_option maxRecDepth 100000 in
set_option maxHeartbeats 4000000 in
theorem cX5_kindAtWordc {l : Launch} {v0 : Option Nat} {σ : HpT} {r : Int32} (h : fX5_kindAtWord v0 σ = some r) : IsK σ v0 5 ∧ Ct l yX5_kindAtWord cX5_kindAtWord 1 (some .int) 6 129 [va_rf v0] σ (.ok (some (.int r))) σ 0 0 := by
  unfold fX5_kindAtWord at h
  replace h := bnP_s h
  obtain ⟨u, hk, h⟩ := h
  replace hk := isK_s hk
  refine ⟨hk, ?_⟩
  refine ct_start mi_X5_kindAtWord.1 rfl (al_le (al_1 (rf_cat _) al_n) (Nat.le_of_ble_eq_true rfl)) (ag_1 (rf_cat _) ag_n) (fun Δ Γ B hE hnm => ?_)
  refine g_aload_n B 0 dX5_kindAtWord_0 rfl rfl ?_
  refine g_ldcS B (j := 3) rfl dX5_kindAtWord_1 ?_
  replace h := bnP_s h
  obtain ⟨x1, h2, h⟩ := h
  refine g_callVs0 (st := []) B (cX5_isAtWordc h2) (Nat.le_of_ble_eq_true rfl) rfl rfl mi_X5_isAtWord lk_RX5_80 ⟨Nat.le_of_ble_eq_true rfl, Nat.le_of_ble_eq_true rfl⟩ rfl rfl (Nat.le_of_ble_eq_true rfl) dX5_kindAtWord_3 (Nat.zero_le _) (Nat.zero_le _) ?_
  refine g_if_eq B 11 dX5_kindAtWord_6 (by decide) (fun hc => ?_) (fun hc => ?_)
  · replace h := ifn (bI0 hc) h
    refine g_aload_n B 0 dX5_kindAtWord_11 rfl rfl ?_
    refine g_ldcS B (j := 4) rfl dX5_kindAtWord_12 ?_
    replace h := bnP_s h
    obtain ⟨x3, h4, h⟩ := h
    refine g_callVs0 (st := []) B (cX5_isAtWordc h4) (Nat.le_of_ble_eq_true rfl) rfl rfl mi_X5_isAtWord lk_RX5_80 ⟨Nat.le_of_ble_eq_true rfl, Nat.le_of_ble_eq_true rfl⟩ rfl rfl (Nat.le_of_ble_eq_true rfl) dX5_kindAtWord_14 (Nat.zero_le _) (Nat.zero_le _) ?_
    refine g_if_eq B 22 dX5_kindAtWord_17 (by decide) (fun hc => ?_) (fun hc => ?_)
    · replace h := ifn (bI0 hc) h
      refine g_aload_n B 0 dX5_kindAtWord_22 rfl rfl ?_
      refine g_ldcS B (j := 5) rfl dX5_kindAtWord_23 ?_
      replace h := bnP_s h
      obtain ⟨x5, h6, h⟩ := h
      refine g_callVs0 (st := []) B (cX5_isAtWordc h6) (Nat.le_of_ble_eq_true rfl) rfl rfl mi_X5_isAtWord lk_RX5_80 ⟨Nat.le_of_ble_eq_true rfl, Nat.le_of_ble_eq_true rfl⟩ rfl rfl (Nat.le_of_ble_eq_true rfl) dX5_kindAtWord_25 (Nat.zero_le _) (Nat.zero_le _) ?_
      refine g_if_eq B 35 dX5_kindAtWord_28 (by decide) (fun hc => ?_) (fun hc => ?_)
      · replace h := ifn (bI0 hc) h
        refine g_iconst (v := (-1)) B dX5_kindAtWord_35 (by decide) ?_
        replace h := Option.some.inj h
        subst h
        exact g_iret B hE (Nat.zero_le _) (Nat.zero_le _) dX5_kindAtWord_36
      · replace h := ifp (bI1 hc) h
        refine g_iconst (v := 2) B dX5_kindAtWord_31 (by decide) ?_
        refine g_goto B 36 dX5_kindAtWord_32 (by decide) ?_
        replace h := Option.some.inj h
        subst h
        exact g_iret B hE (Nat.zero_le _) (Nat.zero_le _) dX5_kindAtWord_36
    · replace h := ifp (bI1 hc) h
      refine g_iconst (v := 1) B dX5_kindAtWord_20 (by decide) ?_
      replace h := Option.some.inj h
      subst h
      exact g_iret B hE (Nat.zero_le _) (Nat.zero_le _) dX5_kindAtWord_21
  · replace h := ifp (bI1 hc) h
    refine g_iconst (v := 0) B dX5_kindAtWord_9 (by decide) ?_
    replace h := Option.some.inj h
    subst h
    exact g_iret B hE (Nat.zero_le _) (Nat.zero_le _) dX5_kindAtWord_10
set_option maxRecDepth 100000 in
set_option maxHeartbeats 4000000 in
theorem cX8_stagec {l : Launch} {v0 : Option Nat} {v1 : Int32} {v2 : Int64} {v4 : Int32} {σ : HpT} {σ' : HpT} (h : fX8_stage v0 v1 v2 v4 σ = some σ') : IsK σ v0 8 ∧ Ct l yX8_stage cX8_stage 5 none 0 0 [va_rf v0, .int v1, .long v2, .int v4] σ (.ok none) σ' 0 0 := by
  unfold fX8_stage at h
  replace h := bnP_s h
  obtain ⟨u, hk, h⟩ := h
  replace hk := isK_s hk
  refine ⟨hk, ?_⟩
  refine ct_start mi_X8_stage.1 rfl (al_le (al_1 (rf_cat _) (al_1 rfl (al_2 rfl (al_1 rfl al_n)))) (Nat.le_of_ble_eq_true rfl)) (ag_1 (rf_cat _) (ag_1 rfl (ag_2 rfl (ag_1 rfl ag_n)))) (fun Δ Γ B hE hnm => ?_)
  refine g_iload_n B 1 dX8_stage_0 rfl rfl ?_
  refine g_aload_n B 0 dX8_stage_1 rfl rfl ?_
  replace h := bnP_s h
  obtain ⟨x1, h2, h⟩ := h
  refine g_getI B fl_RX8_32 (by decide) dX8_stage_2 h2 ?_
  refine g_icmp_lt B 51 dX8_stage_5 (by decide) (fun hc => ?_) (fun hc => ?_)
  · replace h := ifp hc h
    replace h := Option.some.inj h
    subst h
    exact g_vret B hE (Nat.zero_le _) (Nat.zero_le _) dX8_stage_51
  · replace h := ifn hc h
    refine g_iload_n B 1 dX8_stage_8 rfl rfl ?_
    refine g_sipush (v := 240) B dX8_stage_9 (by decide) ?_
    refine g_icmp_ge B 51 dX8_stage_12 (by decide) (fun hc => ?_) (fun hc => ?_)
    · replace h := ifp hc h
      replace h := Option.some.inj h
      subst h
      exact g_vret B hE (Nat.zero_le _) (Nat.zero_le _) dX8_stage_51
    · replace h := ifn hc h
      refine g_aload_n B 0 dX8_stage_15 rfl rfl ?_
      replace h := bnP_s h
      obtain ⟨x3, h4, h⟩ := h
      refine g_getR B fl_RX8_11 (by decide) dX8_stage_16 h4 ?_
      refine g_iload_n B 1 dX8_stage_19 rfl rfl ?_
      refine g_lload_n B 2 dX8_stage_20 rfl rfl ?_
      replace h := bnP_s h
      obtain ⟨s7, h6, h⟩ := h
      refine g_last B dX8_stage_21 h6 ?_
      refine g_aload_n B 0 dX8_stage_22 rfl rfl ?_
      replace h := bnP_s h
      obtain ⟨x8, h9, h⟩ := h
      refine g_getR B fl_RX8_15 (by decide) dX8_stage_23 h9 ?_
      refine g_iload_n B 1 dX8_stage_26 rfl rfl ?_
      refine g_iload B 3 dX8_stage_27 rfl ?_
      replace h := bnP_s h
      obtain ⟨s12, h11, h⟩ := h
      refine g_iast B dX8_stage_29 h11 ?_
      refine g_aload_n B 0 dX8_stage_30 rfl rfl ?_
      replace h := bnP_s h
      obtain ⟨x13, h14, h⟩ := h
      refine g_getR B fl_RX8_19 (by decide) dX8_stage_31 h14 ?_
      refine g_iload_n B 1 dX8_stage_34 rfl rfl ?_
      refine g_iconst (v := 0) B dX8_stage_35 (by decide) ?_
      replace h := bnP_s h
      obtain ⟨s17, h16, h⟩ := h
      refine g_iast B dX8_stage_36 h16 ?_
      refine g_aload_n B 0 dX8_stage_37 rfl rfl ?_
      replace h := bnP_s h
      obtain ⟨x18, h19, h⟩ := h
      refine g_getR B fl_RX8_22 (by decide) dX8_stage_38 h19 ?_
      refine g_iload_n B 1 dX8_stage_41 rfl rfl ?_
      refine g_iconst (v := 0) B dX8_stage_42 (by decide) ?_
      replace h := bnP_s h
      obtain ⟨s22, h21, h⟩ := h
      refine g_zast B dX8_stage_43 h21 ?_
      refine g_aload_n B 0 dX8_stage_44 rfl rfl ?_
      replace h := bnP_s h
      obtain ⟨x23, h24, h⟩ := h
      refine g_getR B fl_RX8_26 (by decide) dX8_stage_45 h24 ?_
      refine g_iload_n B 1 dX8_stage_48 rfl rfl ?_
      refine g_iconst (v := 0) B dX8_stage_49 (by decide) ?_
      replace h := bnP_s h
      obtain ⟨s27, h26, h⟩ := h
      refine g_iast B dX8_stage_50 h26 ?_
      replace h := Option.some.inj h
      subst h
      exact g_vret B hE (Nat.zero_le _) (Nat.zero_le _) dX8_stage_51
set_option maxRecDepth 100000 in
set_option maxHeartbeats 4000000 in
theorem cX8_closeBehindc {l : Launch} {v0 : Option Nat} {v1 : Int32} {σ : HpT} {σ' : HpT} (h : fX8_closeBehind v0 v1 σ = some σ') : IsK σ v0 8 ∧ Ct l yX8_closeBehind cX8_closeBehind 2 none 0 0 [va_rf v0, .int v1] σ (.ok none) σ' 0 0 := by
  unfold fX8_closeBehind at h
  replace h := bnP_s h
  obtain ⟨u, hk, h⟩ := h
  replace hk := isK_s hk
  refine ⟨hk, ?_⟩
  refine ct_start mi_X8_closeBehind.1 rfl (al_le (al_1 (rf_cat _) (al_1 rfl al_n)) (Nat.le_of_ble_eq_true rfl)) (ag_1 (rf_cat _) (ag_1 rfl ag_n)) (fun Δ Γ B hE hnm => ?_)
  refine g_iload_n B 1 dX8_closeBehind_0 rfl rfl ?_
  refine g_aload_n B 0 dX8_closeBehind_1 rfl rfl ?_
  replace h := bnP_s h
  obtain ⟨x1, h2, h⟩ := h
  refine g_getI B fl_RX8_32 (by decide) dX8_closeBehind_2 h2 ?_
  refine g_icmp_lt B 25 dX8_closeBehind_5 (by decide) (fun hc => ?_) (fun hc => ?_)
  · replace h := ifp hc h
    replace h := Option.some.inj h
    subst h
    exact g_vret B hE (Nat.zero_le _) (Nat.zero_le _) dX8_closeBehind_25
  · replace h := ifn hc h
    refine g_iload_n B 1 dX8_closeBehind_8 rfl rfl ?_
    refine g_sipush (v := 240) B dX8_closeBehind_9 (by decide) ?_
    refine g_icmp_ge B 25 dX8_closeBehind_12 (by decide) (fun hc => ?_) (fun hc => ?_)
    · replace h := ifp hc h
      replace h := Option.some.inj h
      subst h
      exact g_vret B hE (Nat.zero_le _) (Nat.zero_le _) dX8_closeBehind_25
    · replace h := ifn hc h
      refine g_aload_n B 0 dX8_closeBehind_15 rfl rfl ?_
      replace h := bnP_s h
      obtain ⟨x3, h4, h⟩ := h
      refine g_getR B fl_RX8_19 (by decide) dX8_closeBehind_16 h4 ?_
      refine g_iload_n B 1 dX8_closeBehind_19 rfl rfl ?_
      refine g_dup2 B dX8_closeBehind_20 rfl (rf_cat _) ?_
      replace h := bnP_s h
      obtain ⟨x5, h6, h⟩ := h
      refine g_iald B dX8_closeBehind_21 h6 ?_
      refine g_iconst (v := 1) B dX8_closeBehind_22 (by decide) ?_
      refine g_iadd B dX8_closeBehind_23 ?_
      replace h := bnP_s h
      obtain ⟨s9, h8, h⟩ := h
      refine g_iast B dX8_closeBehind_24 h8 ?_
      replace h := Option.some.inj h
      subst h
      exact g_vret B hE (Nat.zero_le _) (Nat.zero_le _) dX8_closeBehind_25
set_option maxRecDepth 100000 in
set_option maxHeartbeats 4000000 in
theorem cX5_readBodyc {l : Launch} {v0 : Option Nat} {σ : HpT} {r : Bool} {σ' : HpT} (h : fX5_readBody v0 σ = some (r, σ')) : IsK σ v0 5 ∧ Ct l yX5_readBody cX5_readBody 5 (some .boolean) 3 62 [va_rf v0] σ (.ok (some (.int (bI r)))) σ' 0 0 := by
  unfold fX5_readBody at h
  replace h := bnP_s h
  obtain ⟨u, hk, h⟩ := h
  replace hk := isK_s hk
  refine ⟨hk, ?_⟩
  refine ct_start mi_X5_readBody.1 rfl (al_le (al_1 (rf_cat _) al_n) (Nat.le_of_ble_eq_true rfl)) (ag_1 (rf_cat _) ag_n) (fun Δ Γ B hE hnm => ?_)
  refine g_aload_n B 0 dX5_readBody_0 rfl rfl ?_
  replace h := bnP_s h
  obtain ⟨x1, h2, h⟩ := h
  refine g_getR B fl_RX5_28 (by decide) dX5_readBody_1 h2 ?_
  replace h := bnP_s h
  obtain ⟨x3, h4, h⟩ := h
  refine g_getRg B fl_RX5_172 (by decide) dX5_readBody_4 h4 ?_
  refine g_astore_n B dX5_readBody_7 rfl (Nat.le_of_ble_eq_true rfl) (s1_c (f1_1 rfl (rf_cat _) f1_n)) ?_
  refine g_iconst (v := 0) B dX5_readBody_8 (by decide) ?_
  refine g_istore_n B dX5_readBody_9 rfl (Nat.le_of_ble_eq_true rfl) (s1_c (f1_1 rfl (rf_cat _) (f1_k rfl f1_n))) ?_
  refine g_iconst (v := 0) B dX5_readBody_10 (by decide) ?_
  refine g_istore_n B dX5_readBody_11 rfl (Nat.le_of_ble_eq_true rfl) (s1_c (f1_1 rfl rfl (f1_k rfl (f1_k rfl f1_n)))) ?_
  refine g_aload_n B 3 dX5_readBody_12 rfl rfl ?_
  refine g_iconst (v := 0) B dX5_readBody_13 (by decide) ?_
  replace h := bnP_s h
  obtain ⟨s7, h6, h⟩ := h
  refine g_putI B fl_RX5_159 (by decide) dX5_readBody_14 h6 ?_
  refine g_iconst (v := 0) B dX5_readBody_17 (by decide) ?_
  refine g_istore B dX5_readBody_18 (Nat.le_of_ble_eq_true rfl) (s1_c (f1_1 rfl rfl (f1_k rfl (f1_k rfl (f1_k rfl f1_n))))) ?_
  replace h := bnS_s h
  obtain ⟨r9, s114, h10, h⟩ := h
  have kE11 : ∀ y113, r9 = .inl y113 → GW Δ Γ (0) (0) 213 [(0, va_rf v0)] [] s114 := by
    intro y113 er
    subst er
    dsimp only at h
    refine g_aload_n B 0 dX5_readBody_213 rfl rfl ?_
    refine g_iconst (v := 1) B dX5_readBody_214 (by decide) ?_
    replace h := bnS_s h
    obtain ⟨x115, s117, h116, h⟩ := h
    refine g_callVs0 (st := []) B (cX5_failc h116) (Nat.le_of_ble_eq_true rfl) rfl rfl mi_X5_fail lk_RX5_51 ⟨Nat.le_of_ble_eq_true rfl, Nat.le_of_ble_eq_true rfl⟩ rfl rfl (Nat.le_of_ble_eq_true rfl) dX5_readBody_215 (Nat.zero_le _) (Nat.zero_le _) ?_
    obtain ⟨w1, w2⟩ := inS h
    clear h
    subst w1
    subst w2
    exact g_zret B hE (nar_bI _) (Nat.zero_le _) (Nat.zero_le _) dX5_readBody_218
  have kR12 : ∀ vv, r9 = .inr vv → En Δ Γ (.ok (some (.int (bI vv)))) s114 0 0 (some .boolean) ∧ 0 ≤ 0 ∧ 0 ≤ 0 := by
    intro vv er
    subst er
    dsimp only at h
    obtain ⟨w1, w2⟩ := inS h
    clear h
    subst w1
    subst w2
    exact ⟨hE, Nat.zero_le _, Nat.zero_le _⟩
  clear h
  refine g_sub [4, 3, 2, 1, 0] rfl ?_
  refine lpS_w (I := fun q8 s17 => GW Δ Γ (0) (0) 20 [(0, va_rf v0), (1, va_rf x3), (2, .int q8.1), (3, .int q8.2.1), (4, .int q8.2.2)] [] s17) (r := r9) (σr := s114) ?_ FUEL (0, 0, 0) s7 h10
  intro q8 s17 x15 s9 h hI13 hR14
  unfold fX5_readBody_l1 at h
  obtain ⟨qv18, qv19, qv20⟩ := q8
  show GW Δ Γ (0) (0) 20 [(0, va_rf v0), (1, va_rf x3), (2, .int qv18), (3, .int qv19), (4, .int qv20)] [] s17
  dsimp only at h
  refine g_iload B 4 dX5_readBody_20 rfl ?_
  refine g_aload_n B 0 dX5_readBody_22 rfl rfl ?_
  replace h := bnP_s h
  obtain ⟨x21, h22, h⟩ := h
  refine g_getR B fl_RX5_12 (by decide) dX5_readBody_23 h22 ?_
  replace h := bnP_s h
  obtain ⟨x23, h24, h⟩ := h
  refine g_getI B fl_RX5_45 (by decide) dX5_readBody_26 h24 ?_
  refine g_icmp_gt B 213 dX5_readBody_29 (by decide) (fun hc => ?_) (fun hc => ?_)
  · replace h := ifp hc h
    obtain ⟨w1, w2⟩ := inS h
    clear h
    subst w1
    subst w2
    obtain ⟨e8, e7⟩ := hR14 _ rfl
    subst e8
    subst e7
    exact g_sub [0] rfl (kE11 _ rfl)
  · replace h := ifn hc h
    refine g_aload_n B 0 dX5_readBody_32 rfl rfl ?_
    replace h := bnP_s h
    obtain ⟨x25, h26, h⟩ := h
    refine g_getR B fl_RX5_12 (by decide) dX5_readBody_33 h26 ?_
    replace h := bnP_s h
    obtain ⟨x27, h28, h⟩ := h
    refine g_getI B fl_RX5_48 (by decide) dX5_readBody_36 h28 ?_
    refine g_iconst (v := 1) B dX5_readBody_39 (by decide) ?_
    refine g_icmp_ne B 104 dX5_readBody_40 (by decide) (fun hc => ?_) (fun hc => ?_)
    · replace h := ifn hc h
      refine g_aload_n B 0 dX5_readBody_104 rfl rfl ?_
      replace h := bnP_s h
      obtain ⟨x29, h30, h⟩ := h
      refine g_getR B fl_RX5_12 (by decide) dX5_readBody_105 h30 ?_
      replace h := bnP_s h
      obtain ⟨x31, h32, h⟩ := h
      refine g_getI B fl_RX5_48 (by decide) dX5_readBody_108 h32 ?_
      refine g_iconst (v := 4) B dX5_readBody_111 (by decide) ?_
      refine g_icmp_ne B 135 dX5_readBody_112 (by decide) (fun hc => ?_) (fun hc => ?_)
      · replace h := ifn hc h
        refine g_aload_n B 0 dX5_readBody_135 rfl rfl ?_
        replace h := bnP_s h
        obtain ⟨x33, h34, h⟩ := h
        refine g_getR B fl_RX5_12 (by decide) dX5_readBody_136 h34 ?_
        replace h := bnP_s h
        obtain ⟨x35, h36, h⟩ := h
        refine g_getI B fl_RX5_48 (by decide) dX5_readBody_139 h36 ?_
        refine g_iconst (v := 5) B dX5_readBody_142 (by decide) ?_
        refine g_icmp_ne B 175 dX5_readBody_143 (by decide) (fun hc => ?_) (fun hc => ?_)
        · replace h := ifn hc h
          refine g_iload_n B 2 dX5_readBody_175 rfl rfl ?_
          refine g_if_ne B 186 dX5_readBody_176 (by decide) (fun hc => ?_) (fun hc => ?_)
          · replace h := ifn hc h
            refine g_aload_n B 0 dX5_readBody_186 rfl rfl ?_
            refine g_iconst (v := 1) B dX5_readBody_187 (by decide) ?_
            replace h := bnS_s h
            obtain ⟨x37, s39, h38, h⟩ := h
            refine g_callVs0 (st := []) B (cX5_failc h38) (Nat.le_of_ble_eq_true rfl) rfl rfl mi_X5_fail lk_RX5_51 ⟨Nat.le_of_ble_eq_true rfl, Nat.le_of_ble_eq_true rfl⟩ rfl rfl (Nat.le_of_ble_eq_true rfl) dX5_readBody_188 (Nat.zero_le _) (Nat.zero_le _) ?_
            refine g_if_eq B 198 dX5_readBody_191 (by decide) (fun hc => ?_) (fun hc => ?_)
            · replace h := ifn (bI0 hc) h
              refine g_iconst (v := 0) B dX5_readBody_198 (by decide) ?_
              obtain ⟨w1, w2⟩ := inS h
              clear h
              subst w1
              subst w2
              obtain ⟨e8, e7⟩ := hR14 _ rfl
              subst e7
              obtain ⟨hE, hc9, hs9⟩ := kR12 _ e8.symm
              exact g_zret B hE rfl hc9 hs9 dX5_readBody_199
            · replace h := ifp (bI1 hc) h
              refine g_iconst (v := 1) B dX5_readBody_194 (by decide) ?_
              refine g_goto B 199 dX5_readBody_195 (by decide) ?_
              obtain ⟨w1, w2⟩ := inS h
              clear h
              subst w1
              subst w2
              obtain ⟨e8, e7⟩ := hR14 _ rfl
              subst e7
              obtain ⟨hE, hc9, hs9⟩ := kR12 _ e8.symm
              exact g_zret B hE rfl hc9 hs9 dX5_readBody_199
          · replace h := ifp hc h
            refine g_aload_n B 0 dX5_readBody_179 rfl rfl ?_
            replace h := bnP_s h
            obtain ⟨x40, h41, h⟩ := h
            refine g_getI B fl_RX5_159 (by decide) dX5_readBody_180 h41 ?_
            refine g_if_gt B 194 dX5_readBody_183 (by decide) (fun hc => ?_) (fun hc => ?_)
            · replace h := ifp hc h
              refine g_iconst (v := 1) B dX5_readBody_194 (by decide) ?_
              refine g_goto B 199 dX5_readBody_195 (by decide) ?_
              obtain ⟨w1, w2⟩ := inS h
              clear h
              subst w1
              subst w2
              obtain ⟨e8, e7⟩ := hR14 _ rfl
              subst e7
              obtain ⟨hE, hc9, hs9⟩ := kR12 _ e8.symm
              exact g_zret B hE rfl hc9 hs9 dX5_readBody_199
            · replace h := ifn hc h
              refine g_aload_n B 0 dX5_readBody_186 rfl rfl ?_
              refine g_iconst (v := 1) B dX5_readBody_187 (by decide) ?_
              replace h := bnS_s h
              obtain ⟨x42, s44, h43, h⟩ := h
              refine g_callVs0 (st := []) B (cX5_failc h43) (Nat.le_of_ble_eq_true rfl) rfl rfl mi_X5_fail lk_RX5_51 ⟨Nat.le_of_ble_eq_true rfl, Nat.le_of_ble_eq_true rfl⟩ rfl rfl (Nat.le_of_ble_eq_true rfl) dX5_readBody_188 (Nat.zero_le _) (Nat.zero_le _) ?_
              refine g_if_eq B 198 dX5_readBody_191 (by decide) (fun hc => ?_) (fun hc => ?_)
              · replace h := ifn (bI0 hc) h
                refine g_iconst (v := 0) B dX5_readBody_198 (by decide) ?_
                obtain ⟨w1, w2⟩ := inS h
                clear h
                subst w1
                subst w2
                obtain ⟨e8, e7⟩ := hR14 _ rfl
                subst e7
                obtain ⟨hE, hc9, hs9⟩ := kR12 _ e8.symm
                exact g_zret B hE rfl hc9 hs9 dX5_readBody_199
              · replace h := ifp (bI1 hc) h
                refine g_iconst (v := 1) B dX5_readBody_194 (by decide) ?_
                refine g_goto B 199 dX5_readBody_195 (by decide) ?_
                obtain ⟨w1, w2⟩ := inS h
                clear h
                subst w1
                subst w2
                obtain ⟨e8, e7⟩ := hR14 _ rfl
                subst e7
                obtain ⟨hE, hc9, hs9⟩ := kR12 _ e8.symm
                exact g_zret B hE rfl hc9 hs9 dX5_readBody_199
        · replace h := ifp hc h
          refine g_iload_n B 2 dX5_readBody_146 rfl rfl ?_
          refine g_if_le B 175 dX5_readBody_147 (by decide) (fun hc => ?_) (fun hc => ?_)
          · replace h := ifp hc h
            refine g_iload_n B 2 dX5_readBody_175 rfl rfl ?_
            refine g_if_ne B 186 dX5_readBody_176 (by decide) (fun hc => ?_) (fun hc => ?_)
            · replace h := ifn hc h
              refine g_aload_n B 0 dX5_readBody_186 rfl rfl ?_
              refine g_iconst (v := 1) B dX5_readBody_187 (by decide) ?_
              replace h := bnS_s h
              obtain ⟨x45, s47, h46, h⟩ := h
              refine g_callVs0 (st := []) B (cX5_failc h46) (Nat.le_of_ble_eq_true rfl) rfl rfl mi_X5_fail lk_RX5_51 ⟨Nat.le_of_ble_eq_true rfl, Nat.le_of_ble_eq_true rfl⟩ rfl rfl (Nat.le_of_ble_eq_true rfl) dX5_readBody_188 (Nat.zero_le _) (Nat.zero_le _) ?_
              refine g_if_eq B 198 dX5_readBody_191 (by decide) (fun hc => ?_) (fun hc => ?_)
              · replace h := ifn (bI0 hc) h
                refine g_iconst (v := 0) B dX5_readBody_198 (by decide) ?_
                obtain ⟨w1, w2⟩ := inS h
                clear h
                subst w1
                subst w2
                obtain ⟨e8, e7⟩ := hR14 _ rfl
                subst e7
                obtain ⟨hE, hc9, hs9⟩ := kR12 _ e8.symm
                exact g_zret B hE rfl hc9 hs9 dX5_readBody_199
              · replace h := ifp (bI1 hc) h
                refine g_iconst (v := 1) B dX5_readBody_194 (by decide) ?_
                refine g_goto B 199 dX5_readBody_195 (by decide) ?_
                obtain ⟨w1, w2⟩ := inS h
                clear h
                subst w1
                subst w2
                obtain ⟨e8, e7⟩ := hR14 _ rfl
                subst e7
                obtain ⟨hE, hc9, hs9⟩ := kR12 _ e8.symm
                exact g_zret B hE rfl hc9 hs9 dX5_readBody_199
            · replace h := ifp hc h
              refine g_aload_n B 0 dX5_readBody_179 rfl rfl ?_
              replace h := bnP_s h
              obtain ⟨x48, h49, h⟩ := h
              refine g_getI B fl_RX5_159 (by decide) dX5_readBody_180 h49 ?_
              refine g_if_gt B 194 dX5_readBody_183 (by decide) (fun hc => ?_) (fun hc => ?_)
              · replace h := ifp hc h
                refine g_iconst (v := 1) B dX5_readBody_194 (by decide) ?_
                refine g_goto B 199 dX5_readBody_195 (by decide) ?_
                obtain ⟨w1, w2⟩ := inS h
                clear h
                subst w1
                subst w2
                obtain ⟨e8, e7⟩ := hR14 _ rfl
                subst e7
                obtain ⟨hE, hc9, hs9⟩ := kR12 _ e8.symm
                exact g_zret B hE rfl hc9 hs9 dX5_readBody_199
              · replace h := ifn hc h
                refine g_aload_n B 0 dX5_readBody_186 rfl rfl ?_
                refine g_iconst (v := 1) B dX5_readBody_187 (by decide) ?_
                replace h := bnS_s h
                obtain ⟨x50, s52, h51, h⟩ := h
                refine g_callVs0 (st := []) B (cX5_failc h51) (Nat.le_of_ble_eq_true rfl) rfl rfl mi_X5_fail lk_RX5_51 ⟨Nat.le_of_ble_eq_true rfl, Nat.le_of_ble_eq_true rfl⟩ rfl rfl (Nat.le_of_ble_eq_true rfl) dX5_readBody_188 (Nat.zero_le _) (Nat.zero_le _) ?_
                refine g_if_eq B 198 dX5_readBody_191 (by decide) (fun hc => ?_) (fun hc => ?_)
                · replace h := ifn (bI0 hc) h
                  refine g_iconst (v := 0) B dX5_readBody_198 (by decide) ?_
                  obtain ⟨w1, w2⟩ := inS h
                  clear h
                  subst w1
                  subst w2
                  obtain ⟨e8, e7⟩ := hR14 _ rfl
                  subst e7
                  obtain ⟨hE, hc9, hs9⟩ := kR12 _ e8.symm
                  exact g_zret B hE rfl hc9 hs9 dX5_readBody_199
                · replace h := ifp (bI1 hc) h
                  refine g_iconst (v := 1) B dX5_readBody_194 (by decide) ?_
                  refine g_goto B 199 dX5_readBody_195 (by decide) ?_
                  obtain ⟨w1, w2⟩ := inS h
                  clear h
                  subst w1
                  subst w2
                  obtain ⟨e8, e7⟩ := hR14 _ rfl
                  subst e7
                  obtain ⟨hE, hc9, hs9⟩ := kR12 _ e8.symm
                  exact g_zret B hE rfl hc9 hs9 dX5_readBody_199
          · replace h := ifn hc h
            refine g_iload_n B 3 dX5_readBody_150 rfl rfl ?_
            refine g_if_ne B 175 dX5_readBody_151 (by decide) (fun hc => ?_) (fun hc => ?_)
            · replace h := ifn hc h
              refine g_iload_n B 2 dX5_readBody_175 rfl rfl ?_
              refine g_if_ne B 186 dX5_readBody_176 (by decide) (fun hc => ?_) (fun hc => ?_)
              · replace h := ifn hc h
                refine g_aload_n B 0 dX5_readBody_186 rfl rfl ?_
                refine g_iconst (v := 1) B dX5_readBody_187 (by decide) ?_
                replace h := bnS_s h
                obtain ⟨x53, s55, h54, h⟩ := h
                refine g_callVs0 (st := []) B (cX5_failc h54) (Nat.le_of_ble_eq_true rfl) rfl rfl mi_X5_fail lk_RX5_51 ⟨Nat.le_of_ble_eq_true rfl, Nat.le_of_ble_eq_true rfl⟩ rfl rfl (Nat.le_of_ble_eq_true rfl) dX5_readBody_188 (Nat.zero_le _) (Nat.zero_le _) ?_
                refine g_if_eq B 198 dX5_readBody_191 (by decide) (fun hc => ?_) (fun hc => ?_)
                · replace h := ifn (bI0 hc) h
                  refine g_iconst (v := 0) B dX5_readBody_198 (by decide) ?_
                  obtain ⟨w1, w2⟩ := inS h
                  clear h
                  subst w1
                  subst w2
                  obtain ⟨e8, e7⟩ := hR14 _ rfl
                  subst e7
                  obtain ⟨hE, hc9, hs9⟩ := kR12 _ e8.symm
                  exact g_zret B hE rfl hc9 hs9 dX5_readBody_199
                · replace h := ifp (bI1 hc) h
                  refine g_iconst (v := 1) B dX5_readBody_194 (by decide) ?_
                  refine g_goto B 199 dX5_readBody_195 (by decide) ?_
                  obtain ⟨w1, w2⟩ := inS h
                  clear h
                  subst w1
                  subst w2
                  obtain ⟨e8, e7⟩ := hR14 _ rfl
                  subst e7
                  obtain ⟨hE, hc9, hs9⟩ := kR12 _ e8.symm
                  exact g_zret B hE rfl hc9 hs9 dX5_readBody_199
              · replace h := ifp hc h
                refine g_aload_n B 0 dX5_readBody_179 rfl rfl ?_
                replace h := bnP_s h
                obtain ⟨x56, h57, h⟩ := h
                refine g_getI B fl_RX5_159 (by decide) dX5_readBody_180 h57 ?_
                refine g_if_gt B 194 dX5_readBody_183 (by decide) (fun hc => ?_) (fun hc => ?_)
                · replace h := ifp hc h
                  refine g_iconst (v := 1) B dX5_readBody_194 (by decide) ?_
                  refine g_goto B 199 dX5_readBody_195 (by decide) ?_
                  obtain ⟨w1, w2⟩ := inS h
                  clear h
                  subst w1
                  subst w2
                  obtain ⟨e8, e7⟩ := hR14 _ rfl
                  subst e7
                  obtain ⟨hE, hc9, hs9⟩ := kR12 _ e8.symm
                  exact g_zret B hE rfl hc9 hs9 dX5_readBody_199
                · replace h := ifn hc h
                  refine g_aload_n B 0 dX5_readBody_186 rfl rfl ?_
                  refine g_iconst (v := 1) B dX5_readBody_187 (by decide) ?_
                  replace h := bnS_s h
                  obtain ⟨x58, s60, h59, h⟩ := h
                  refine g_callVs0 (st := []) B (cX5_failc h59) (Nat.le_of_ble_eq_true rfl) rfl rfl mi_X5_fail lk_RX5_51 ⟨Nat.le_of_ble_eq_true rfl, Nat.le_of_ble_eq_true rfl⟩ rfl rfl (Nat.le_of_ble_eq_true rfl) dX5_readBody_188 (Nat.zero_le _) (Nat.zero_le _) ?_
                  refine g_if_eq B 198 dX5_readBody_191 (by decide) (fun hc => ?_) (fun hc => ?_)
                  · replace h := ifn (bI0 hc) h
                    refine g_iconst (v := 0) B dX5_readBody_198 (by decide) ?_
                    obtain ⟨w1, w2⟩ := inS h
                    clear h
                    subst w1
                    subst w2
                    obtain ⟨e8, e7⟩ := hR14 _ rfl
                    subst e7
                    obtain ⟨hE, hc9, hs9⟩ := kR12 _ e8.symm
                    exact g_zret B hE rfl hc9 hs9 dX5_readBody_199
                  · replace h := ifp (bI1 hc) h
                    refine g_iconst (v := 1) B dX5_readBody_194 (by decide) ?_
                    refine g_goto B 199 dX5_readBody_195 (by decide) ?_
                    obtain ⟨w1, w2⟩ := inS h
                    clear h
                    subst w1
                    subst w2
                    obtain ⟨e8, e7⟩ := hR14 _ rfl
                    subst e7
                    obtain ⟨hE, hc9, hs9⟩ := kR12 _ e8.symm
                    exact g_zret B hE rfl hc9 hs9 dX5_readBody_199
            · replace h := ifp hc h
              refine g_aload_n B 1 dX5_readBody_154 rfl rfl ?_
              refine g_aload_n B 1 dX5_readBody_155 rfl rfl ?_
              replace h := bnP_s h
              obtain ⟨x61, h62, h⟩ := h
              refine g_getI B fl_RX5_176 (by decide) dX5_readBody_156 h62 ?_
              refine g_aload_n B 0 dX5_readBody_159 rfl rfl ?_
              replace h := bnP_s h
              obtain ⟨x63, h64, h⟩ := h
              refine g_getI B fl_RX5_159 (by decide) dX5_readBody_160 h64 ?_
              refine g_iadd B dX5_readBody_163 ?_
              refine g_iconst (v := 1) B dX5_readBody_164 (by decide) ?_
              refine g_isub B dX5_readBody_165 ?_
              replace h := bnP_s h
              obtain ⟨s67, h66, h⟩ := h
              refine g_callVv0 (st := []) B (cX8_closeBehindc h66) (Nat.le_of_ble_eq_true rfl) rfl rfl mi_X8_closeBehind lk_RX5_188 ⟨Nat.le_of_ble_eq_true rfl, Nat.le_of_ble_eq_true rfl⟩ rfl rfl (Nat.le_of_ble_eq_true rfl) dX5_readBody_166 (Nat.zero_le _) (Nat.zero_le _) ?_
              refine g_iinc (v := (qv18 + (-1))) B 2 dX5_readBody_169 rfl (by first | rfl | (congr 1; decide)) (Nat.le_of_ble_eq_true rfl) (s1_c (f1_k rfl (f1_1 rfl (rf_cat _) (f1_x (f1_k rfl (f1_k rfl f1_n)))))) ?_
              refine g_goto B 200 dX5_readBody_172 (by decide) ?_
              refine g_aload_n B 1 dX5_readBody_200 rfl rfl ?_
              replace h := bnP_s h
              obtain ⟨x68, h69, h⟩ := h
              refine g_getR B fl_RX5_12 (by decide) dX5_readBody_201 h69 ?_
              replace h := bnP_s h
              obtain ⟨s72, h71, h⟩ := h
              refine g_callVv0 (st := []) B (cX7_stepc h71) (Nat.le_of_ble_eq_true rfl) rfl rfl mi_X7_step lk_RX5_55 ⟨Nat.le_of_ble_eq_true rfl, Nat.le_of_ble_eq_true rfl⟩ rfl rfl (Nat.le_of_ble_eq_true rfl) dX5_readBody_204 (Nat.zero_le _) (Nat.zero_le _) ?_
              refine g_iinc (v := (qv20 + 1)) B 4 dX5_readBody_207 rfl (by first | rfl | (congr 1; decide)) (Nat.le_of_ble_eq_true rfl) (s1_c (f1_k rfl (f1_k rfl (f1_k rfl (f1_1 rfl rfl (f1_x f1_n)))))) ?_
              refine g_goto B 20 dX5_readBody_210 (by decide) ?_
              obtain ⟨w1, w2⟩ := inS h
              clear h
              subst w1
              subst w2
              exact g_sub [2, 3, 1, 4, 0] rfl (hI13 ((qv18 + (-1)), qv19, (qv20 + 1)) rfl)
      · replace h := ifp hc h
        refine g_iload_n B 2 dX5_readBody_115 rfl rfl ?_
        refine g_iconst (v := 4) B dX5_readBody_116 (by decide) ?_
        refine g_icmp_ne B 126 dX5_readBody_117 (by decide) (fun hc => ?_) (fun hc => ?_)
        · replace h := ifn hc h
          refine g_iinc (v := (qv18 + 1)) B 2 dX5_readBody_126 rfl (by first | rfl | (congr 1; decide)) (Nat.le_of_ble_eq_true rfl) (s1_c (f1_k rfl (f1_1 rfl (rf_cat _) (f1_x (f1_k rfl (f1_k rfl f1_n)))))) ?_
          refine g_iinc (v := (qv19 + 1)) B 3 dX5_readBody_129 rfl (by first | rfl | (congr 1; decide)) (Nat.le_of_ble_eq_true rfl) (s1_c (f1_1 rfl rfl (f1_k rfl (f1_k rfl (f1_x (f1_k rfl f1_n)))))) ?_
          refine g_goto B 200 dX5_readBody_132 (by decide) ?_
          refine g_aload_n B 2 dX5_readBody_200 rfl rfl ?_
          replace h := bnP_s h
          obtain ⟨x73, h74, h⟩ := h
          refine g_getR B fl_RX5_12 (by decide) dX5_readBody_201 h74 ?_
          replace h := bnP_s h
          obtain ⟨s77, h76, h⟩ := h
          refine g_callVv0 (st := []) B (cX7_stepc h76) (Nat.le_of_ble_eq_true rfl) rfl rfl mi_X7_step lk_RX5_55 ⟨Nat.le_of_ble_eq_true rfl, Nat.le_of_ble_eq_true rfl⟩ rfl rfl (Nat.le_of_ble_eq_true rfl) dX5_readBody_204 (Nat.zero_le _) (Nat.zero_le _) ?_
          refine g_iinc (v := (qv20 + 1)) B 4 dX5_readBody_207 rfl (by first | rfl | (congr 1; decide)) (Nat.le_of_ble_eq_true rfl) (s1_c (f1_1 rfl rfl (f1_k rfl (f1_k rfl (f1_k rfl (f1_x f1_n)))))) ?_
          refine g_goto B 20 dX5_readBody_210 (by decide) ?_
          obtain ⟨w1, w2⟩ := inS h
          clear h
          subst w1
          subst w2
          exact g_sub [3, 4, 2, 1, 0] rfl (hI13 ((qv18 + 1), (qv19 + 1), (qv20 + 1)) rfl)
        · replace h := ifp hc h
          refine g_aload_n B 0 dX5_readBody_120 rfl rfl ?_
          refine g_iconst (v := 4) B dX5_readBody_121 (by decide) ?_
          replace h := bnS_s h
          obtain ⟨x78, s80, h79, h⟩ := h
          refine g_callVs0 (st := []) B (cX5_failc h79) (Nat.le_of_ble_eq_true rfl) rfl rfl mi_X5_fail lk_RX5_51 ⟨Nat.le_of_ble_eq_true rfl, Nat.le_of_ble_eq_true rfl⟩ rfl rfl (Nat.le_of_ble_eq_true rfl) dX5_readBody_122 (Nat.zero_le _) (Nat.zero_le _) ?_
          obtain ⟨w1, w2⟩ := inS h
          clear h
          subst w1
          subst w2
          obtain ⟨e8, e7⟩ := hR14 _ rfl
          subst e7
          obtain ⟨hE, hc9, hs9⟩ := kR12 _ e8.symm
          exact g_zret B hE (nar_bI _) hc9 hs9 dX5_readBody_125
    · replace h := ifp hc h
      refine g_aload_n B 1 dX5_readBody_43 rfl rfl ?_
      replace h := bnP_s h
      obtain ⟨x81, h82, h⟩ := h
      refine g_getI B fl_RX5_176 (by decide) dX5_readBody_44 h82 ?_
      refine g_aload_n B 0 dX5_readBody_47 rfl rfl ?_
      replace h := bnP_s h
      obtain ⟨x83, h84, h⟩ := h
      refine g_getI B fl_RX5_159 (by decide) dX5_readBody_48 h84 ?_
      refine g_iadd B dX5_readBody_51 ?_
      refine g_aload_n B 0 dX5_readBody_52 rfl rfl ?_
      replace h := bnP_s h
      obtain ⟨x85, h86, h⟩ := h
      refine g_getR B fl_RX5_28 (by decide) dX5_readBody_53 h86 ?_
      replace h := bnP_s h
      obtain ⟨x87, h88, h⟩ := h
      refine g_callVs0 (st := [.int (x81 + x83)]) B (cX1_mostWordsc h88) (Nat.le_of_ble_eq_true rfl) rfl rfl mi_X1_mostWords lk_RX5_181 ⟨Nat.le_of_ble_eq_true rfl, Nat.le_of_ble_eq_true rfl⟩ rfl rfl (Nat.le_of_ble_eq_true rfl) dX5_readBody_56 (Nat.zero_le _) (Nat.zero_le _) ?_
      refine g_icmp_lt B 68 dX5_readBody_59 (by decide) (fun hc => ?_) (fun hc => ?_)
      · replace h := ifp hc h
        refine g_aload_n B 1 dX5_readBody_68 rfl rfl ?_
        refine g_aload_n B 1 dX5_readBody_69 rfl rfl ?_
        replace h := bnP_s h
        obtain ⟨x89, h90, h⟩ := h
        refine g_getI B fl_RX5_176 (by decide) dX5_readBody_70 h90 ?_
        refine g_aload_n B 0 dX5_readBody_73 rfl rfl ?_
        replace h := bnP_s h
        obtain ⟨x91, h92, h⟩ := h
        refine g_getI B fl_RX5_159 (by decide) dX5_readBody_74 h92 ?_
        refine g_iadd B dX5_readBody_77 ?_
        refine g_aload_n B 0 dX5_readBody_78 rfl rfl ?_
        replace h := bnP_s h
        obtain ⟨x93, h94, h⟩ := h
        refine g_getR B fl_RX5_12 (by decide) dX5_readBody_79 h94 ?_
        replace h := bnP_s h
        obtain ⟨x95, h96, h⟩ := h
        refine g_getJ B fl_RX5_64 (by decide) dX5_readBody_82 h96 ?_
        refine g_iload_n B 3 dX5_readBody_85 rfl rfl ?_
        replace h := bnP_s h
        obtain ⟨s99, h98, h⟩ := h
        refine g_callVv0 (st := []) B (cX8_stagec h98) (Nat.le_of_ble_eq_true rfl) rfl rfl mi_X8_stage lk_RX5_184 ⟨Nat.le_of_ble_eq_true rfl, Nat.le_of_ble_eq_true rfl⟩ rfl rfl (Nat.le_of_ble_eq_true rfl) dX5_readBody_86 (Nat.zero_le _) (Nat.zero_le _) ?_
        refine g_aload_n B 0 dX5_readBody_89 rfl rfl ?_
        refine g_dup B dX5_readBody_90 (rf_cat _) ?_
        replace h := bnP_s h
        obtain ⟨x100, h101, h⟩ := h
        refine g_getI B fl_RX5_159 (by decide) dX5_readBody_91 h101 ?_
        refine g_iconst (v := 1) B dX5_readBody_94 (by decide) ?_
        refine g_iadd B dX5_readBody_95 ?_
        replace h := bnP_s h
        obtain ⟨s104, h103, h⟩ := h
        refine g_putI B fl_RX5_159 (by decide) dX5_readBody_96 h103 ?_
        refine g_iconst (v := 0) B dX5_readBody_99 (by decide) ?_
        refine g_istore_n B dX5_readBody_100 rfl (Nat.le_of_ble_eq_true rfl) (s1_c (f1_k rfl (f1_k rfl (f1_1 rfl rfl (f1_x (f1_k rfl f1_n)))))) ?_
        refine g_goto B 200 dX5_readBody_101 (by decide) ?_
        refine g_aload_n B 1 dX5_readBody_200 rfl rfl ?_
        replace h := bnP_s h
        obtain ⟨x105, h106, h⟩ := h
        refine g_getR B fl_RX5_12 (by decide) dX5_readBody_201 h106 ?_
        replace h := bnP_s h
        obtain ⟨s109, h108, h⟩ := h
        refine g_callVv0 (st := []) B (cX7_stepc h108) (Nat.le_of_ble_eq_true rfl) rfl rfl mi_X7_step lk_RX5_55 ⟨Nat.le_of_ble_eq_true rfl, Nat.le_of_ble_eq_true rfl⟩ rfl rfl (Nat.le_of_ble_eq_true rfl) dX5_readBody_204 (Nat.zero_le _) (Nat.zero_le _) ?_
        refine g_iinc (v := (qv20 + 1)) B 4 dX5_readBody_207 rfl (by first | rfl | (congr 1; decide)) (Nat.le_of_ble_eq_true rfl) (s1_c (f1_1 rfl rfl (f1_k rfl (f1_k rfl (f1_k rfl (f1_x f1_n)))))) ?_
        refine g_goto B 20 dX5_readBody_210 (by decide) ?_
        obtain ⟨w1, w2⟩ := inS h
        clear h
        subst w1
        subst w2
        exact g_sub [2, 3, 4, 1, 0] rfl (hI13 (qv18, 0, (qv20 + 1)) rfl)
      · replace h := ifn hc h
        refine g_aload_n B 0 dX5_readBody_62 rfl rfl ?_
        refine g_iconst (v := 4) B dX5_readBody_63 (by decide) ?_
        replace h := bnS_s h
        obtain ⟨x110, s112, h111, h⟩ := h
        refine g_callVs0 (st := []) B (cX5_failc h111) (Nat.le_of_ble_eq_true rfl) rfl rfl mi_X5_fail lk_RX5_51 ⟨Nat.le_of_ble_eq_true rfl, Nat.le_of_ble_eq_true rfl⟩ rfl rfl (Nat.le_of_ble_eq_true rfl) dX5_readBody_64 (Nat.zero_le _) (Nat.zero_le _) ?_
        obtain ⟨w1, w2⟩ := inS h
        clear h
        subst w1
        subst w2
        obtain ⟨e8, e7⟩ := hR14 _ rfl
        subst e7
        obtain ⟨hE, hc9, hs9⟩ := kR12 _ e8.symm
        exact g_zret B hE (nar_bI _) hc9 hs9 dX5_readBody_67
set_option maxRecDepth 100000 in
set_option maxHeartbeats 4000000 in
theorem cX5_readActLinec {l : Launch} {v0 : Option Nat} {σ : HpT} {r : Bool} {σ' : HpT} (h : fX5_readActLine v0 σ = some (r, σ')) : IsK σ v0 5 ∧ Ct l yX5_readActLine cX5_readActLine 2 (some .boolean) 7 149 [va_rf v0] σ (.ok (some (.int (bI r)))) σ' 0 0 := by
  unfold fX5_readActLine at h
  replace h := bnP_s h
  obtain ⟨u, hk, h⟩ := h
  replace hk := isK_s hk
  refine ⟨hk, ?_⟩
  refine ct_start mi_X5_readActLine.1 rfl (al_le (al_1 (rf_cat _) al_n) (Nat.le_of_ble_eq_true rfl)) (ag_1 (rf_cat _) ag_n) (fun Δ Γ B hE hnm => ?_)
  refine g_aload_n B 0 dX5_readActLine_0 rfl rfl ?_
  replace h := bnP_s h
  obtain ⟨x1, h2, h⟩ := h
  refine g_getR B fl_RX5_28 (by decide) dX5_readActLine_1 h2 ?_
  replace h := bnP_s h
  obtain ⟨x3, h4, h⟩ := h
  refine g_callVs0 (st := []) B (cX1_openActc h4) (Nat.le_of_ble_eq_true rfl) rfl rfl mi_X1_openAct lk_RX5_149 ⟨Nat.le_of_ble_eq_true rfl, Nat.le_of_ble_eq_true rfl⟩ rfl rfl (Nat.le_of_ble_eq_true rfl) dX5_readActLine_4 (Nat.zero_le _) (Nat.zero_le _) ?_
  refine g_ifnull B 16 dX5_readActLine_7 (by decide) (fun hc => ?_) (fun hc => ?_)
  · replace h := ifp hc h
    refine g_aload_n B 0 dX5_readActLine_16 rfl rfl ?_
    replace h := bnP_s h
    obtain ⟨x5, h6, h⟩ := h
    refine g_getR B fl_RX5_28 (by decide) dX5_readActLine_17 h6 ?_
    replace h := bnP_s h
    obtain ⟨x7, h8, h⟩ := h
    refine g_getI B fl_RX5_153 (by decide) dX5_readActLine_20 h8 ?_
    refine g_bipush (v := 10) B dX5_readActLine_23 (by decide) ?_
    refine g_icmp_lt B 34 dX5_readActLine_25 (by decide) (fun hc => ?_) (fun hc => ?_)
    · replace h := ifp hc h
      refine g_aload_n B 0 dX5_readActLine_34 rfl rfl ?_
      replace h := bnP_s h
      obtain ⟨x9, h10, h⟩ := h
      refine g_getR B fl_RX5_12 (by decide) dX5_readActLine_35 h10 ?_
      replace h := bnP_s h
      obtain ⟨s13, h12, h⟩ := h
      refine g_callVv0 (st := []) B (cX7_stepc h12) (Nat.le_of_ble_eq_true rfl) rfl rfl mi_X7_step lk_RX5_55 ⟨Nat.le_of_ble_eq_true rfl, Nat.le_of_ble_eq_true rfl⟩ rfl rfl (Nat.le_of_ble_eq_true rfl) dX5_readActLine_38 (Nat.zero_le _) (Nat.zero_le _) ?_
      refine g_aload_n B 0 dX5_readActLine_41 rfl rfl ?_
      replace h := bnP_s h
      obtain ⟨x14, h15, h⟩ := h
      refine g_callVs0 (st := []) B (cX5_kindAtWordc h15) (Nat.le_of_ble_eq_true rfl) rfl rfl mi_X5_kindAtWord lk_RX5_156 ⟨Nat.le_of_ble_eq_true rfl, Nat.le_of_ble_eq_true rfl⟩ rfl rfl (Nat.le_of_ble_eq_true rfl) dX5_readActLine_42 (Nat.zero_le _) (Nat.zero_le _) ?_
      refine g_istore_n B dX5_readActLine_45 rfl (Nat.le_of_ble_eq_true rfl) (s1_c (f1_1 rfl (rf_cat _) f1_n)) ?_
      refine g_iload_n B 0 dX5_readActLine_46 rfl rfl ?_
      refine g_iconst (v := (-1)) B dX5_readActLine_47 (by decide) ?_
      refine g_icmp_ne B 57 dX5_readActLine_48 (by decide) (fun hc => ?_) (fun hc => ?_)
      · replace h := ifn hc h
        refine g_aload_n B 1 dX5_readActLine_57 rfl rfl ?_
        replace h := bnP_s h
        obtain ⟨x16, h17, h⟩ := h
        refine g_getR B fl_RX5_12 (by decide) dX5_readActLine_58 h17 ?_
        replace h := bnP_s h
        obtain ⟨s20, h19, h⟩ := h
        refine g_callVv0 (st := []) B (cX7_stepc h19) (Nat.le_of_ble_eq_true rfl) rfl rfl mi_X7_step lk_RX5_55 ⟨Nat.le_of_ble_eq_true rfl, Nat.le_of_ble_eq_true rfl⟩ rfl rfl (Nat.le_of_ble_eq_true rfl) dX5_readActLine_61 (Nat.zero_le _) (Nat.zero_le _) ?_
        refine g_aload_n B 1 dX5_readActLine_64 rfl rfl ?_
        replace h := bnS_s h
        obtain ⟨x21, s23, h22, h⟩ := h
        refine g_callVs0 (st := []) B (cX5_readBodyc h22) (Nat.le_of_ble_eq_true rfl) rfl rfl mi_X5_readBody lk_RX5_61 ⟨Nat.le_of_ble_eq_true rfl, Nat.le_of_ble_eq_true rfl⟩ rfl rfl (Nat.le_of_ble_eq_true rfl) dX5_readActLine_65 (Nat.zero_le _) (Nat.zero_le _) ?_
        refine g_if_ne B 73 dX5_readActLine_68 (by decide) (fun hc => ?_) (fun hc => ?_)
        · replace h := ifp (bI1 hc) h
          refine g_aload_n B 1 dX5_readActLine_73 rfl rfl ?_
          replace h := bnP_s h
          obtain ⟨x24, h25, h⟩ := h
          refine g_getR B fl_RX5_28 (by decide) dX5_readActLine_74 h25 ?_
          refine g_iload_n B 0 dX5_readActLine_77 rfl rfl ?_
          refine g_aload_n B 1 dX5_readActLine_78 rfl rfl ?_
          replace h := bnP_s h
          obtain ⟨x26, h27, h⟩ := h
          refine g_getI B fl_RX5_159 (by decide) dX5_readActLine_79 h27 ?_
          replace h := bnP_s h
          obtain ⟨s30, h29, h⟩ := h
          refine g_callVv0 (st := []) B (cX1_beginActc h29) (Nat.le_of_ble_eq_true rfl) rfl rfl mi_X1_beginAct lk_RX5_162 ⟨Nat.le_of_ble_eq_true rfl, Nat.le_of_ble_eq_true rfl⟩ rfl rfl (Nat.le_of_ble_eq_true rfl) dX5_readActLine_82 (Nat.zero_le _) (Nat.zero_le _) ?_
          refine g_iconst (v := 1) B dX5_readActLine_85 (by decide) ?_
          obtain ⟨w1, w2⟩ := inS h
          clear h
          subst w1
          subst w2
          exact g_zret B hE rfl (Nat.zero_le _) (Nat.zero_le _) dX5_readActLine_86
        · replace h := ifn (bI0 hc) h
          refine g_iconst (v := 0) B dX5_readActLine_71 (by decide) ?_
          obtain ⟨w1, w2⟩ := inS h
          clear h
          subst w1
          subst w2
          exact g_zret B hE rfl (Nat.zero_le _) (Nat.zero_le _) dX5_readActLine_72
      · replace h := ifp hc h
        refine g_aload_n B 1 dX5_readActLine_51 rfl rfl ?_
        refine g_iconst (v := 1) B dX5_readActLine_52 (by decide) ?_
        replace h := bnS_s h
        obtain ⟨x31, s33, h32, h⟩ := h
        refine g_callVs0 (st := []) B (cX5_failc h32) (Nat.le_of_ble_eq_true rfl) rfl rfl mi_X5_fail lk_RX5_51 ⟨Nat.le_of_ble_eq_true rfl, Nat.le_of_ble_eq_true rfl⟩ rfl rfl (Nat.le_of_ble_eq_true rfl) dX5_readActLine_53 (Nat.zero_le _) (Nat.zero_le _) ?_
        obtain ⟨w1, w2⟩ := inS h
        clear h
        subst w1
        subst w2
        exact g_zret B hE (nar_bI _) (Nat.zero_le _) (Nat.zero_le _) dX5_readActLine_56
    · replace h := ifn hc h
      refine g_aload_n B 0 dX5_readActLine_28 rfl rfl ?_
      refine g_iconst (v := 4) B dX5_readActLine_29 (by decide) ?_
      replace h := bnS_s h
      obtain ⟨x34, s36, h35, h⟩ := h
      refine g_callVs0 (st := []) B (cX5_failc h35) (Nat.le_of_ble_eq_true rfl) rfl rfl mi_X5_fail lk_RX5_51 ⟨Nat.le_of_ble_eq_true rfl, Nat.le_of_ble_eq_true rfl⟩ rfl rfl (Nat.le_of_ble_eq_true rfl) dX5_readActLine_30 (Nat.zero_le _) (Nat.zero_le _) ?_
      obtain ⟨w1, w2⟩ := inS h
      clear h
      subst w1
      subst w2
      exact g_zret B hE (nar_bI _) (Nat.zero_le _) (Nat.zero_le _) dX5_readActLine_33
  · replace h := ifn hc h
    refine g_aload_n B 0 dX5_readActLine_10 rfl rfl ?_
    refine g_iconst (v := 3) B dX5_readActLine_11 (by decide) ?_
    replace h := bnS_s h
    obtain ⟨x37, s39, h38, h⟩ := h
    refine g_callVs0 (st := []) B (cX5_failc h38) (Nat.le_of_ble_eq_true rfl) rfl rfl mi_X5_fail lk_RX5_51 ⟨Nat.le_of_ble_eq_true rfl, Nat.le_of_ble_eq_true rfl⟩ rfl rfl (Nat.le_of_ble_eq_true rfl) dX5_readActLine_12 (Nat.zero_le _) (Nat.zero_le _) ?_
    obtain ⟨w1, w2⟩ := inS h
    clear h
    subst w1
    subst w2
    exact g_zret B hE (nar_bI _) (Nat.zero_le _) (Nat.zero_le _) dX5_readActLine_15
set_option maxRecDepth 100000 in
set_option maxHeartbeats 4000000 in
theorem cX5_readStrikeLinec {l : Launch} {v0 : Option Nat} {σ : HpT} {r : Bool} {σ' : HpT} (h : fX5_readStrikeLine v0 σ = some (r, σ')) : IsK σ v0 5 ∧ Ct l yX5_readStrikeLine cX5_readStrikeLine 1 (some .boolean) 4 84 [va_rf v0] σ (.ok (some (.int (bI r)))) σ' 0 0 := by
  unfold fX5_readStrikeLine at h
  replace h := bnP_s h
  obtain ⟨u, hk, h⟩ := h
  replace hk := isK_s hk
  refine ⟨hk, ?_⟩
  refine ct_start mi_X5_readStrikeLine.1 rfl (al_le (al_1 (rf_cat _) al_n) (Nat.le_of_ble_eq_true rfl)) (ag_1 (rf_cat _) ag_n) (fun Δ Γ B hE hnm => ?_)
  refine g_aload_n B 0 dX5_readStrikeLine_0 rfl rfl ?_
  refine g_iconst (v := 0) B dX5_readStrikeLine_1 (by decide) ?_
  refine g_aload_n B 0 dX5_readStrikeLine_2 rfl rfl ?_
  replace h := bnP_s h
  obtain ⟨x1, h2, h⟩ := h
  refine g_getR B fl_RX5_28 (by decide) dX5_readStrikeLine_3 h2 ?_
  replace h := bnP_s h
  obtain ⟨x3, h4, h⟩ := h
  refine g_callVs0 (st := [.int 0, va_rf v0]) B (cX1_openSizec h4) (Nat.le_of_ble_eq_true rfl) rfl rfl mi_X1_openSize lk_RX5_192 ⟨Nat.le_of_ble_eq_true rfl, Nat.le_of_ble_eq_true rfl⟩ rfl rfl (Nat.le_of_ble_eq_true rfl) dX5_readStrikeLine_6 (Nat.zero_le _) (Nat.zero_le _) ?_
  refine g_iconst (v := 1) B dX5_readStrikeLine_9 (by decide) ?_
  refine g_isub B dX5_readStrikeLine_10 ?_
  replace h := bnS_s h
  obtain ⟨x5, s7, h6, h⟩ := h
  refine g_callVs0 (st := []) B (cX5_checkNextNumberc h6) (Nat.le_of_ble_eq_true rfl) rfl rfl mi_X5_checkNextNumber lk_RX5_84 ⟨Nat.le_of_ble_eq_true rfl, Nat.le_of_ble_eq_true rfl⟩ rfl rfl (Nat.le_of_ble_eq_true rfl) dX5_readStrikeLine_11 (Nat.zero_le _) (Nat.zero_le _) ?_
  refine g_if_ne B 19 dX5_readStrikeLine_14 (by decide) (fun hc => ?_) (fun hc => ?_)
  · replace h := ifp (bI1 hc) h
    refine g_aload_n B 0 dX5_readStrikeLine_19 rfl rfl ?_
    replace h := bnP_s h
    obtain ⟨x8, h9, h⟩ := h
    refine g_getR B fl_RX5_28 (by decide) dX5_readStrikeLine_20 h9 ?_
    refine g_aload_n B 0 dX5_readStrikeLine_23 rfl rfl ?_
    replace h := bnP_s h
    obtain ⟨x10, h11, h⟩ := h
    refine g_getR B fl_RX5_12 (by decide) dX5_readStrikeLine_24 h11 ?_
    replace h := bnP_s h
    obtain ⟨x12, h13, h⟩ := h
    refine g_getI B fl_RX5_72 (by decide) dX5_readStrikeLine_27 h13 ?_
    replace h := bnP_s h
    obtain ⟨x14, h15, h⟩ := h
    refine g_callVs0 (st := []) B (cX1_strikeReasonc h15) (Nat.le_of_ble_eq_true rfl) rfl rfl mi_X1_strikeReason lk_RX5_195 ⟨Nat.le_of_ble_eq_true rfl, Nat.le_of_ble_eq_true rfl⟩ rfl rfl (Nat.le_of_ble_eq_true rfl) dX5_readStrikeLine_30 (Nat.zero_le _) (Nat.zero_le _) ?_
    refine g_if_eq B 42 dX5_readStrikeLine_33 (by decide) (fun hc => ?_) (fun hc => ?_)
    · replace h := ifp hc h
      refine g_aload_n B 0 dX5_readStrikeLine_42 rfl rfl ?_
      replace h := bnP_s h
      obtain ⟨x16, h17, h⟩ := h
      refine g_getR B fl_RX5_28 (by decide) dX5_readStrikeLine_43 h17 ?_
      refine g_aload_n B 0 dX5_readStrikeLine_46 rfl rfl ?_
      replace h := bnP_s h
      obtain ⟨x18, h19, h⟩ := h
      refine g_getR B fl_RX5_12 (by decide) dX5_readStrikeLine_47 h19 ?_
      replace h := bnP_s h
      obtain ⟨x20, h21, h⟩ := h
      refine g_getI B fl_RX5_72 (by decide) dX5_readStrikeLine_50 h21 ?_
      replace h := bnP_s h
      obtain ⟨s24, h23, h⟩ := h
      refine g_callVv0 (st := []) B (cX1_strikeWordc h23) (Nat.le_of_ble_eq_true rfl) rfl rfl mi_X1_strikeWord lk_RX5_199 ⟨Nat.le_of_ble_eq_true rfl, Nat.le_of_ble_eq_true rfl⟩ rfl rfl (Nat.le_of_ble_eq_true rfl) dX5_readStrikeLine_53 (Nat.zero_le _) (Nat.zero_le _) ?_
      refine g_aload_n B 0 dX5_readStrikeLine_56 rfl rfl ?_
      replace h := bnS_s h
      obtain ⟨x25, s27, h26, h⟩ := h
      refine g_callVs0 (st := []) B (cX5_finishLinec h26) (Nat.le_of_ble_eq_true rfl) rfl rfl mi_X5_finishLine lk_RX5_102 ⟨Nat.le_of_ble_eq_true rfl, Nat.le_of_ble_eq_true rfl⟩ rfl rfl (Nat.le_of_ble_eq_true rfl) dX5_readStrikeLine_57 (Nat.zero_le _) (Nat.zero_le _) ?_
      obtain ⟨w1, w2⟩ := inS h
      clear h
      subst w1
      subst w2
      exact g_zret B hE (nar_bI _) (Nat.zero_le _) (Nat.zero_le _) dX5_readStrikeLine_60
    · replace h := ifn hc h
      refine g_aload_n B 0 dX5_readStrikeLine_36 rfl rfl ?_
      refine g_iconst (v := 3) B dX5_readStrikeLine_37 (by decide) ?_
      replace h := bnS_s h
      obtain ⟨x28, s30, h29, h⟩ := h
      refine g_callVs0 (st := []) B (cX5_failc h29) (Nat.le_of_ble_eq_true rfl) rfl rfl mi_X5_fail lk_RX5_51 ⟨Nat.le_of_ble_eq_true rfl, Nat.le_of_ble_eq_true rfl⟩ rfl rfl (Nat.le_of_ble_eq_true rfl) dX5_readStrikeLine_38 (Nat.zero_le _) (Nat.zero_le _) ?_
      obtain ⟨w1, w2⟩ := inS h
      clear h
      subst w1
      subst w2
      exact g_zret B hE (nar_bI _) (Nat.zero_le _) (Nat.zero_le _) dX5_readStrikeLine_41
  · replace h := ifn (bI0 hc) h
    refine g_iconst (v := 0) B dX5_readStrikeLine_17 (by decide) ?_
    obtain ⟨w1, w2⟩ := inS h
    clear h
    subst w1
    subst w2
    exact g_zret B hE rfl (Nat.zero_le _) (Nat.zero_le _) dX5_readStrikeLine_18
set_option maxRecDepth 100000 in
set_option maxHeartbeats 4000000 in
theorem cX5_readOutLinec {l : Launch} {v0 : Option Nat} {σ : HpT} {r : Bool} {σ' : HpT} (h : fX5_readOutLine v0 σ = some (r, σ')) : IsK σ v0 5 ∧ Ct l yX5_readOutLine cX5_readOutLine 1 (some .boolean) 4 95 [va_rf v0] σ (.ok (some (.int (bI r)))) σ' 0 0 := by
  unfold fX5_readOutLine at h
  replace h := bnP_s h
  obtain ⟨u, hk, h⟩ := h
  replace hk := isK_s hk
  refine ⟨hk, ?_⟩
  refine ct_start mi_X5_readOutLine.1 rfl (al_le (al_1 (rf_cat _) al_n) (Nat.le_of_ble_eq_true rfl)) (ag_1 (rf_cat _) ag_n) (fun Δ Γ B hE hnm => ?_)
  refine g_aload_n B 0 dX5_readOutLine_0 rfl rfl ?_
  refine g_iconst (v := 0) B dX5_readOutLine_1 (by decide) ?_
  refine g_aload_n B 0 dX5_readOutLine_2 rfl rfl ?_
  replace h := bnP_s h
  obtain ⟨x1, h2, h⟩ := h
  refine g_getR B fl_RX5_28 (by decide) dX5_readOutLine_3 h2 ?_
  replace h := bnP_s h
  obtain ⟨x3, h4, h⟩ := h
  refine g_callVs0 (st := [.int 0, va_rf v0]) B (cX1_openSizec h4) (Nat.le_of_ble_eq_true rfl) rfl rfl mi_X1_openSize lk_RX5_192 ⟨Nat.le_of_ble_eq_true rfl, Nat.le_of_ble_eq_true rfl⟩ rfl rfl (Nat.le_of_ble_eq_true rfl) dX5_readOutLine_6 (Nat.zero_le _) (Nat.zero_le _) ?_
  refine g_iconst (v := 1) B dX5_readOutLine_9 (by decide) ?_
  refine g_isub B dX5_readOutLine_10 ?_
  replace h := bnS_s h
  obtain ⟨x5, s7, h6, h⟩ := h
  refine g_callVs0 (st := []) B (cX5_checkNextNumberc h6) (Nat.le_of_ble_eq_true rfl) rfl rfl mi_X5_checkNextNumber lk_RX5_84 ⟨Nat.le_of_ble_eq_true rfl, Nat.le_of_ble_eq_true rfl⟩ rfl rfl (Nat.le_of_ble_eq_true rfl) dX5_readOutLine_11 (Nat.zero_le _) (Nat.zero_le _) ?_
  refine g_if_ne B 19 dX5_readOutLine_14 (by decide) (fun hc => ?_) (fun hc => ?_)
  · replace h := ifp (bI1 hc) h
    refine g_aload_n B 0 dX5_readOutLine_19 rfl rfl ?_
    replace h := bnP_s h
    obtain ⟨x8, h9, h⟩ := h
    refine g_getR B fl_RX5_28 (by decide) dX5_readOutLine_20 h9 ?_
    refine g_aload_n B 0 dX5_readOutLine_23 rfl rfl ?_
    replace h := bnP_s h
    obtain ⟨x10, h11, h⟩ := h
    refine g_getR B fl_RX5_12 (by decide) dX5_readOutLine_24 h11 ?_
    replace h := bnP_s h
    obtain ⟨x12, h13, h⟩ := h
    refine g_getI B fl_RX5_72 (by decide) dX5_readOutLine_27 h13 ?_
    replace h := bnS_s h
    obtain ⟨x14, s16, h15, h⟩ := h
    refine g_callVs0 (st := []) B (cX1_seekClauseAroundc h15) (Nat.le_of_ble_eq_true rfl) rfl rfl mi_X1_seekClauseAround lk_RX5_202 ⟨Nat.le_of_ble_eq_true rfl, Nat.le_of_ble_eq_true rfl⟩ rfl rfl (Nat.le_of_ble_eq_true rfl) dX5_readOutLine_30 (Nat.zero_le _) (Nat.zero_le _) ?_
    refine g_if_ne B 42 dX5_readOutLine_33 (by decide) (fun hc => ?_) (fun hc => ?_)
    · replace h := ifp (bI1 hc) h
      refine g_aload_n B 0 dX5_readOutLine_42 rfl rfl ?_
      replace h := bnP_s h
      obtain ⟨x17, h18, h⟩ := h
      refine g_getR B fl_RX5_28 (by decide) dX5_readOutLine_43 h18 ?_
      refine g_aload_n B 0 dX5_readOutLine_46 rfl rfl ?_
      replace h := bnP_s h
      obtain ⟨x19, h20, h⟩ := h
      refine g_getR B fl_RX5_12 (by decide) dX5_readOutLine_47 h20 ?_
      replace h := bnP_s h
      obtain ⟨x21, h22, h⟩ := h
      refine g_getI B fl_RX5_72 (by decide) dX5_readOutLine_50 h22 ?_
      replace h := bnS_s h
      obtain ⟨x23, s25, h24, h⟩ := h
      refine g_callVs0 (st := []) B (cX1_strikeAroundc h24) (Nat.le_of_ble_eq_true rfl) rfl rfl mi_X1_strikeAround lk_RX5_205 ⟨Nat.le_of_ble_eq_true rfl, Nat.le_of_ble_eq_true rfl⟩ rfl rfl (Nat.le_of_ble_eq_true rfl) dX5_readOutLine_53 (Nat.zero_le _) (Nat.zero_le _) ?_
      refine g_pop B dX5_readOutLine_56 rfl ?_
      refine g_aload_n B 0 dX5_readOutLine_57 rfl rfl ?_
      replace h := bnS_s h
      obtain ⟨x26, s28, h27, h⟩ := h
      refine g_callVs0 (st := []) B (cX5_finishLinec h27) (Nat.le_of_ble_eq_true rfl) rfl rfl mi_X5_finishLine lk_RX5_102 ⟨Nat.le_of_ble_eq_true rfl, Nat.le_of_ble_eq_true rfl⟩ rfl rfl (Nat.le_of_ble_eq_true rfl) dX5_readOutLine_58 (Nat.zero_le _) (Nat.zero_le _) ?_
      obtain ⟨w1, w2⟩ := inS h
      clear h
      subst w1
      subst w2
      exact g_zret B hE (nar_bI _) (Nat.zero_le _) (Nat.zero_le _) dX5_readOutLine_61
    · replace h := ifn (bI0 hc) h
      refine g_aload_n B 0 dX5_readOutLine_36 rfl rfl ?_
      refine g_iconst (v := 3) B dX5_readOutLine_37 (by decide) ?_
      replace h := bnS_s h
      obtain ⟨x29, s31, h30, h⟩ := h
      refine g_callVs0 (st := []) B (cX5_failc h30) (Nat.le_of_ble_eq_true rfl) rfl rfl mi_X5_fail lk_RX5_51 ⟨Nat.le_of_ble_eq_true rfl, Nat.le_of_ble_eq_true rfl⟩ rfl rfl (Nat.le_of_ble_eq_true rfl) dX5_readOutLine_38 (Nat.zero_le _) (Nat.zero_le _) ?_
      obtain ⟨w1, w2⟩ := inS h
      clear h
      subst w1
      subst w2
      exact g_zret B hE (nar_bI _) (Nat.zero_le _) (Nat.zero_le _) dX5_readOutLine_41
  · replace h := ifn (bI0 hc) h
    refine g_iconst (v := 0) B dX5_readOutLine_17 (by decide) ?_
    obtain ⟨w1, w2⟩ := inS h
    clear h
    subst w1
    subst w2
    exact g_zret B hE rfl (Nat.zero_le _) (Nat.zero_le _) dX5_readOutLine_18
set_option maxRecDepth 100000 in
set_option maxHeartbeats 4000000 in
theorem cX5_readInsertLinec {l : Launch} {v0 : Option Nat} {σ : HpT} {r : Bool} {σ' : HpT} (h : fX5_readInsertLine v0 σ = some (r, σ')) : IsK σ v0 5 ∧ Ct l yX5_readInsertLine cX5_readInsertLine 2 (some .boolean) 4 84 [va_rf v0] σ (.ok (some (.int (bI r)))) σ' 0 0 := by
  unfold fX5_readInsertLine at h
  replace h := bnP_s h
  obtain ⟨u, hk, h⟩ := h
  replace hk := isK_s hk
  refine ⟨hk, ?_⟩
  refine ct_start mi_X5_readInsertLine.1 rfl (al_le (al_1 (rf_cat _) al_n) (Nat.le_of_ble_eq_true rfl)) (ag_1 (rf_cat _) ag_n) (fun Δ Γ B hE hnm => ?_)
  refine g_aload_n B 0 dX5_readInsertLine_0 rfl rfl ?_
  refine g_iconst (v := 0) B dX5_readInsertLine_1 (by decide) ?_
  refine g_aload_n B 0 dX5_readInsertLine_2 rfl rfl ?_
  replace h := bnP_s h
  obtain ⟨x1, h2, h⟩ := h
  refine g_getR B fl_RX5_28 (by decide) dX5_readInsertLine_3 h2 ?_
  replace h := bnP_s h
  obtain ⟨x3, h4, h⟩ := h
  refine g_callVs0 (st := [.int 0, va_rf v0]) B (cX1_openSizec h4) (Nat.le_of_ble_eq_true rfl) rfl rfl mi_X1_openSize lk_RX5_192 ⟨Nat.le_of_ble_eq_true rfl, Nat.le_of_ble_eq_true rfl⟩ rfl rfl (Nat.le_of_ble_eq_true rfl) dX5_readInsertLine_6 (Nat.zero_le _) (Nat.zero_le _) ?_
  refine g_iconst (v := 1) B dX5_readInsertLine_9 (by decide) ?_
  refine g_isub B dX5_readInsertLine_10 ?_
  replace h := bnS_s h
  obtain ⟨x5, s7, h6, h⟩ := h
  refine g_callVs0 (st := []) B (cX5_checkNextNumberc h6) (Nat.le_of_ble_eq_true rfl) rfl rfl mi_X5_checkNextNumber lk_RX5_84 ⟨Nat.le_of_ble_eq_true rfl, Nat.le_of_ble_eq_true rfl⟩ rfl rfl (Nat.le_of_ble_eq_true rfl) dX5_readInsertLine_11 (Nat.zero_le _) (Nat.zero_le _) ?_
  refine g_if_ne B 19 dX5_readInsertLine_14 (by decide) (fun hc => ?_) (fun hc => ?_)
  · replace h := ifp (bI1 hc) h
    refine g_aload_n B 0 dX5_readInsertLine_19 rfl rfl ?_
    replace h := bnP_s h
    obtain ⟨x8, h9, h⟩ := h
    refine g_getR B fl_RX5_12 (by decide) dX5_readInsertLine_20 h9 ?_
    replace h := bnP_s h
    obtain ⟨x10, h11, h⟩ := h
    refine g_getI B fl_RX5_72 (by decide) dX5_readInsertLine_23 h11 ?_
    refine g_istore_n B dX5_readInsertLine_26 rfl (Nat.le_of_ble_eq_true rfl) (s1_c (f1_1 rfl (rf_cat _) f1_n)) ?_
    refine g_aload_n B 1 dX5_readInsertLine_27 rfl rfl ?_
    replace h := bnP_s h
    obtain ⟨x12, h13, h⟩ := h
    refine g_getR B fl_RX5_28 (by decide) dX5_readInsertLine_28 h13 ?_
    refine g_iload_n B 0 dX5_readInsertLine_31 rfl rfl ?_
    replace h := bnP_s h
    obtain ⟨x14, h15, h⟩ := h
    refine g_callVs0 (st := []) B (cX1_canInsertc h15) (Nat.le_of_ble_eq_true rfl) rfl rfl mi_X1_canInsert lk_RX5_208 ⟨Nat.le_of_ble_eq_true rfl, Nat.le_of_ble_eq_true rfl⟩ rfl rfl (Nat.le_of_ble_eq_true rfl) dX5_readInsertLine_32 (Nat.zero_le _) (Nat.zero_le _) ?_
    refine g_if_ne B 44 dX5_readInsertLine_35 (by decide) (fun hc => ?_) (fun hc => ?_)
    · replace h := ifp (bI1 hc) h
      refine g_aload_n B 1 dX5_readInsertLine_44 rfl rfl ?_
      replace h := bnP_s h
      obtain ⟨x16, h17, h⟩ := h
      refine g_getR B fl_RX5_12 (by decide) dX5_readInsertLine_45 h17 ?_
      replace h := bnP_s h
      obtain ⟨s20, h19, h⟩ := h
      refine g_callVv0 (st := []) B (cX7_stepc h19) (Nat.le_of_ble_eq_true rfl) rfl rfl mi_X7_step lk_RX5_55 ⟨Nat.le_of_ble_eq_true rfl, Nat.le_of_ble_eq_true rfl⟩ rfl rfl (Nat.le_of_ble_eq_true rfl) dX5_readInsertLine_48 (Nat.zero_le _) (Nat.zero_le _) ?_
      refine g_aload_n B 1 dX5_readInsertLine_51 rfl rfl ?_
      replace h := bnP_s h
      obtain ⟨x21, h22, h⟩ := h
      refine g_getR B fl_RX5_12 (by decide) dX5_readInsertLine_52 h22 ?_
      replace h := bnP_s h
      obtain ⟨x23, h24, h⟩ := h
      refine g_getI B fl_RX5_48 (by decide) dX5_readInsertLine_55 h24 ?_
      refine g_iconst (v := 1) B dX5_readInsertLine_58 (by decide) ?_
      refine g_icmp_eq B 68 dX5_readInsertLine_59 (by decide) (fun hc => ?_) (fun hc => ?_)
      · replace h := ifp hc h
        refine g_aload_n B 1 dX5_readInsertLine_68 rfl rfl ?_
        replace h := bnP_s h
        obtain ⟨x25, h26, h⟩ := h
        refine g_getR B fl_RX5_28 (by decide) dX5_readInsertLine_69 h26 ?_
        refine g_iload_n B 0 dX5_readInsertLine_72 rfl rfl ?_
        refine g_aload_n B 1 dX5_readInsertLine_73 rfl rfl ?_
        replace h := bnP_s h
        obtain ⟨x27, h28, h⟩ := h
        refine g_getR B fl_RX5_12 (by decide) dX5_readInsertLine_74 h28 ?_
        replace h := bnP_s h
        obtain ⟨x29, h30, h⟩ := h
        refine g_getJ B fl_RX5_64 (by decide) dX5_readInsertLine_77 h30 ?_
        replace h := bnP_s h
        obtain ⟨s33, h32, h⟩ := h
        refine g_callVv0 (st := []) B (cX1_insertWordc h32) (Nat.le_of_ble_eq_true rfl) rfl rfl mi_X1_insertWord lk_RX5_211 ⟨Nat.le_of_ble_eq_true rfl, Nat.le_of_ble_eq_true rfl⟩ rfl rfl (Nat.le_of_ble_eq_true rfl) dX5_readInsertLine_80 (Nat.zero_le _) (Nat.zero_le _) ?_
        refine g_aload_n B 1 dX5_readInsertLine_83 rfl rfl ?_
        replace h := bnS_s h
        obtain ⟨x34, s36, h35, h⟩ := h
        refine g_callVs0 (st := []) B (cX5_finishLinec h35) (Nat.le_of_ble_eq_true rfl) rfl rfl mi_X5_finishLine lk_RX5_102 ⟨Nat.le_of_ble_eq_true rfl, Nat.le_of_ble_eq_true rfl⟩ rfl rfl (Nat.le_of_ble_eq_true rfl) dX5_readInsertLine_84 (Nat.zero_le _) (Nat.zero_le _) ?_
        obtain ⟨w1, w2⟩ := inS h
        clear h
        subst w1
        subst w2
        exact g_zret B hE (nar_bI _) (Nat.zero_le _) (Nat.zero_le _) dX5_readInsertLine_87
      · replace h := ifn hc h
        refine g_aload_n B 1 dX5_readInsertLine_62 rfl rfl ?_
        refine g_iconst (v := 1) B dX5_readInsertLine_63 (by decide) ?_
        replace h := bnS_s h
        obtain ⟨x37, s39, h38, h⟩ := h
        refine g_callVs0 (st := []) B (cX5_failc h38) (Nat.le_of_ble_eq_true rfl) rfl rfl mi_X5_fail lk_RX5_51 ⟨Nat.le_of_ble_eq_true rfl, Nat.le_of_ble_eq_true rfl⟩ rfl rfl (Nat.le_of_ble_eq_true rfl) dX5_readInsertLine_64 (Nat.zero_le _) (Nat.zero_le _) ?_
        obtain ⟨w1, w2⟩ := inS h
        clear h
        subst w1
        subst w2
        exact g_zret B hE (nar_bI _) (Nat.zero_le _) (Nat.zero_le _) dX5_readInsertLine_67
    · replace h := ifn (bI0 hc) h
      refine g_aload_n B 1 dX5_readInsertLine_38 rfl rfl ?_
      refine g_iconst (v := 3) B dX5_readInsertLine_39 (by decide) ?_
      replace h := bnS_s h
      obtain ⟨x40, s42, h41, h⟩ := h
      refine g_callVs0 (st := []) B (cX5_failc h41) (Nat.le_of_ble_eq_true rfl) rfl rfl mi_X5_fail lk_RX5_51 ⟨Nat.le_of_ble_eq_true rfl, Nat.le_of_ble_eq_true rfl⟩ rfl rfl (Nat.le_of_ble_eq_true rfl) dX5_readInsertLine_40 (Nat.zero_le _) (Nat.zero_le _) ?_
      obtain ⟨w1, w2⟩ := inS h
      clear h
      subst w1
      subst w2
      exact g_zret B hE (nar_bI _) (Nat.zero_le _) (Nat.zero_le _) dX5_readInsertLine_43
  · replace h := ifn (bI0 hc) h
    refine g_iconst (v := 0) B dX5_readInsertLine_17 (by decide) ?_
    obtain ⟨w1, w2⟩ := inS h
    clear h
    subst w1
    subst w2
    exact g_zret B hE rfl (Nat.zero_le _) (Nat.zero_le _) dX5_readInsertLine_18
set_option maxRecDepth 100000 in
set_option maxHeartbeats 4000000 in
theorem cX5_readSealLinec {l : Launch} {v0 : Option Nat} {σ : HpT} {r : Bool} {σ' : HpT} (h : fX5_readSealLine v0 σ = some (r, σ')) : IsK σ v0 5 ∧ Ct l yX5_readSealLine cX5_readSealLine 2 (some .boolean) 4 92 [va_rf v0] σ (.ok (some (.int (bI r)))) σ' 0 0 := by
  unfold fX5_readSealLine at h
  replace h := bnP_s h
  obtain ⟨u, hk, h⟩ := h
  replace hk := isK_s hk
  refine ⟨hk, ?_⟩
  refine ct_start mi_X5_readSealLine.1 rfl (al_le (al_1 (rf_cat _) al_n) (Nat.le_of_ble_eq_true rfl)) (ag_1 (rf_cat _) ag_n) (fun Δ Γ B hE hnm => ?_)
  refine g_aload_n B 0 dX5_readSealLine_0 rfl rfl ?_
  refine g_iconst (v := 0) B dX5_readSealLine_1 (by decide) ?_
  refine g_bipush (v := 9) B dX5_readSealLine_2 (by decide) ?_
  replace h := bnS_s h
  obtain ⟨x1, s3, h2, h⟩ := h
  refine g_callVs0 (st := []) B (cX5_checkNextNumberc h2) (Nat.le_of_ble_eq_true rfl) rfl rfl mi_X5_checkNextNumber lk_RX5_84 ⟨Nat.le_of_ble_eq_true rfl, Nat.le_of_ble_eq_true rfl⟩ rfl rfl (Nat.le_of_ble_eq_true rfl) dX5_readSealLine_4 (Nat.zero_le _) (Nat.zero_le _) ?_
  refine g_if_ne B 12 dX5_readSealLine_7 (by decide) (fun hc => ?_) (fun hc => ?_)
  · replace h := ifp (bI1 hc) h
    refine g_aload_n B 0 dX5_readSealLine_12 rfl rfl ?_
    replace h := bnP_s h
    obtain ⟨x4, h5, h⟩ := h
    refine g_getR B fl_RX5_12 (by decide) dX5_readSealLine_13 h5 ?_
    replace h := bnP_s h
    obtain ⟨x6, h7, h⟩ := h
    refine g_getI B fl_RX5_72 (by decide) dX5_readSealLine_16 h7 ?_
    refine g_istore_n B dX5_readSealLine_19 rfl (Nat.le_of_ble_eq_true rfl) (s1_c (f1_1 rfl (rf_cat _) f1_n)) ?_
    refine g_aload_n B 1 dX5_readSealLine_20 rfl rfl ?_
    refine g_iconst (v := 0) B dX5_readSealLine_21 (by decide) ?_
    refine g_bipush (v := 99) B dX5_readSealLine_22 (by decide) ?_
    replace h := bnS_s h
    obtain ⟨x8, s10, h9, h⟩ := h
    refine g_callVs0 (st := []) B (cX5_checkNextNumberc h9) (Nat.le_of_ble_eq_true rfl) rfl rfl mi_X5_checkNextNumber lk_RX5_84 ⟨Nat.le_of_ble_eq_true rfl, Nat.le_of_ble_eq_true rfl⟩ rfl rfl (Nat.le_of_ble_eq_true rfl) dX5_readSealLine_24 (Nat.zero_le _) (Nat.zero_le _) ?_
    refine g_if_ne B 32 dX5_readSealLine_27 (by decide) (fun hc => ?_) (fun hc => ?_)
    · replace h := ifp (bI1 hc) h
      refine g_aload_n B 1 dX5_readSealLine_32 rfl rfl ?_
      replace h := bnP_s h
      obtain ⟨x11, h12, h⟩ := h
      refine g_getR B fl_RX5_28 (by decide) dX5_readSealLine_33 h12 ?_
      refine g_iload_n B 0 dX5_readSealLine_36 rfl rfl ?_
      refine g_aload_n B 1 dX5_readSealLine_37 rfl rfl ?_
      replace h := bnP_s h
      obtain ⟨x13, h14, h⟩ := h
      refine g_getR B fl_RX5_12 (by decide) dX5_readSealLine_38 h14 ?_
      replace h := bnP_s h
      obtain ⟨x15, h16, h⟩ := h
      refine g_getI B fl_RX5_72 (by decide) dX5_readSealLine_41 h16 ?_
      replace h := bnP_s h
      obtain ⟨x17, h18, h⟩ := h
      refine g_callVs0 (st := []) B (cX1_sealReasonc h18) (Nat.le_of_ble_eq_true rfl) rfl rfl mi_X1_sealReason lk_RX5_215 ⟨Nat.le_of_ble_eq_true rfl, Nat.le_of_ble_eq_true rfl⟩ rfl rfl (Nat.le_of_ble_eq_true rfl) dX5_readSealLine_44 (Nat.zero_le _) (Nat.zero_le _) ?_
      refine g_if_eq B 56 dX5_readSealLine_47 (by decide) (fun hc => ?_) (fun hc => ?_)
      · replace h := ifp hc h
        refine g_aload_n B 1 dX5_readSealLine_56 rfl rfl ?_
        replace h := bnP_s h
        obtain ⟨x19, h20, h⟩ := h
        refine g_getR B fl_RX5_28 (by decide) dX5_readSealLine_57 h20 ?_
        refine g_iload_n B 0 dX5_readSealLine_60 rfl rfl ?_
        replace h := bnS_s h
        obtain ⟨x21, s23, h22, h⟩ := h
        refine g_callVs0 (st := []) B (cX1_sealOpenc h22) (Nat.le_of_ble_eq_true rfl) rfl rfl mi_X1_sealOpen lk_RX5_219 ⟨Nat.le_of_ble_eq_true rfl, Nat.le_of_ble_eq_true rfl⟩ rfl rfl (Nat.le_of_ble_eq_true rfl) dX5_readSealLine_61 (Nat.zero_le _) (Nat.zero_le _) ?_
        refine g_pop B dX5_readSealLine_64 rfl ?_
        refine g_aload_n B 1 dX5_readSealLine_65 rfl rfl ?_
        replace h := bnS_s h
        obtain ⟨x24, s26, h25, h⟩ := h
        refine g_callVs0 (st := []) B (cX5_finishLinec h25) (Nat.le_of_ble_eq_true rfl) rfl rfl mi_X5_finishLine lk_RX5_102 ⟨Nat.le_of_ble_eq_true rfl, Nat.le_of_ble_eq_true rfl⟩ rfl rfl (Nat.le_of_ble_eq_true rfl) dX5_readSealLine_66 (Nat.zero_le _) (Nat.zero_le _) ?_
        obtain ⟨w1, w2⟩ := inS h
        clear h
        subst w1
        subst w2
        exact g_zret B hE (nar_bI _) (Nat.zero_le _) (Nat.zero_le _) dX5_readSealLine_69
      · replace h := ifn hc h
        refine g_aload_n B 1 dX5_readSealLine_50 rfl rfl ?_
        refine g_iconst (v := 3) B dX5_readSealLine_51 (by decide) ?_
        replace h := bnS_s h
        obtain ⟨x27, s29, h28, h⟩ := h
        refine g_callVs0 (st := []) B (cX5_failc h28) (Nat.le_of_ble_eq_true rfl) rfl rfl mi_X5_fail lk_RX5_51 ⟨Nat.le_of_ble_eq_true rfl, Nat.le_of_ble_eq_true rfl⟩ rfl rfl (Nat.le_of_ble_eq_true rfl) dX5_readSealLine_52 (Nat.zero_le _) (Nat.zero_le _) ?_
        obtain ⟨w1, w2⟩ := inS h
        clear h
        subst w1
        subst w2
        exact g_zret B hE (nar_bI _) (Nat.zero_le _) (Nat.zero_le _) dX5_readSealLine_55
    · replace h := ifn (bI0 hc) h
      refine g_iconst (v := 0) B dX5_readSealLine_30 (by decide) ?_
      obtain ⟨w1, w2⟩ := inS h
      clear h
      subst w1
      subst w2
      exact g_zret B hE rfl (Nat.zero_le _) (Nat.zero_le _) dX5_readSealLine_31
  · replace h := ifn (bI0 hc) h
    refine g_iconst (v := 0) B dX5_readSealLine_10 (by decide) ?_
    obtain ⟨w1, w2⟩ := inS h
    clear h
    subst w1
    subst w2
    exact g_zret B hE rfl (Nat.zero_le _) (Nat.zero_le _) dX5_readSealLine_11
set_option maxRecDepth 100000 in
set_option maxHeartbeats 4000000 in
theorem cX5_readCancelLinec {l : Launch} {v0 : Option Nat} {σ : HpT} {r : Bool} {σ' : HpT} (h : fX5_readCancelLine v0 σ = some (r, σ')) : IsK σ v0 5 ∧ Ct l yX5_readCancelLine cX5_readCancelLine 1 (some .boolean) 4 82 [va_rf v0] σ (.ok (some (.int (bI r)))) σ' 0 0 := by
  unfold fX5_readCancelLine at h
  replace h := bnP_s h
  obtain ⟨u, hk, h⟩ := h
  replace hk := isK_s hk
  refine ⟨hk, ?_⟩
  refine ct_start mi_X5_readCancelLine.1 rfl (al_le (al_1 (rf_cat _) al_n) (Nat.le_of_ble_eq_true rfl)) (ag_1 (rf_cat _) ag_n) (fun Δ Γ B hE hnm => ?_)
  refine g_aload_n B 0 dX5_readCancelLine_0 rfl rfl ?_
  replace h := bnP_s h
  obtain ⟨x1, h2, h⟩ := h
  refine g_getR B fl_RX5_28 (by decide) dX5_readCancelLine_1 h2 ?_
  replace h := bnP_s h
  obtain ⟨x3, h4, h⟩ := h
  refine g_callVs0 (st := []) B (cX1_openActc h4) (Nat.le_of_ble_eq_true rfl) rfl rfl mi_X1_openAct lk_RX5_149 ⟨Nat.le_of_ble_eq_true rfl, Nat.le_of_ble_eq_true rfl⟩ rfl rfl (Nat.le_of_ble_eq_true rfl) dX5_readCancelLine_4 (Nat.zero_le _) (Nat.zero_le _) ?_
  refine g_ifnonnull B 16 dX5_readCancelLine_7 (by decide) (fun hc => ?_) (fun hc => ?_)
  · replace h := ifn hc h
    refine g_aload_n B 0 dX5_readCancelLine_16 rfl rfl ?_
    replace h := bnP_s h
    obtain ⟨x5, h6, h⟩ := h
    refine g_getR B fl_RX5_28 (by decide) dX5_readCancelLine_17 h6 ?_
    replace h := bnP_s h
    obtain ⟨s9, h8, h⟩ := h
    refine g_callVv0 (st := []) B (cX1_cancelOpenc h8) (Nat.le_of_ble_eq_true rfl) rfl rfl mi_X1_cancelOpen lk_RX5_222 ⟨Nat.le_of_ble_eq_true rfl, Nat.le_of_ble_eq_true rfl⟩ rfl rfl (Nat.le_of_ble_eq_true rfl) dX5_readCancelLine_20 (Nat.zero_le _) (Nat.zero_le _) ?_
    refine g_aload_n B 0 dX5_readCancelLine_23 rfl rfl ?_
    replace h := bnS_s h
    obtain ⟨x10, s12, h11, h⟩ := h
    refine g_callVs0 (st := []) B (cX5_finishLinec h11) (Nat.le_of_ble_eq_true rfl) rfl rfl mi_X5_finishLine lk_RX5_102 ⟨Nat.le_of_ble_eq_true rfl, Nat.le_of_ble_eq_true rfl⟩ rfl rfl (Nat.le_of_ble_eq_true rfl) dX5_readCancelLine_24 (Nat.zero_le _) (Nat.zero_le _) ?_
    obtain ⟨w1, w2⟩ := inS h
    clear h
    subst w1
    subst w2
    exact g_zret B hE (nar_bI _) (Nat.zero_le _) (Nat.zero_le _) dX5_readCancelLine_27
  · replace h := ifp hc h
    refine g_aload_n B 0 dX5_readCancelLine_10 rfl rfl ?_
    refine g_iconst (v := 3) B dX5_readCancelLine_11 (by decide) ?_
    replace h := bnS_s h
    obtain ⟨x13, s15, h14, h⟩ := h
    refine g_callVs0 (st := []) B (cX5_failc h14) (Nat.le_of_ble_eq_true rfl) rfl rfl mi_X5_fail lk_RX5_51 ⟨Nat.le_of_ble_eq_true rfl, Nat.le_of_ble_eq_true rfl⟩ rfl rfl (Nat.le_of_ble_eq_true rfl) dX5_readCancelLine_12 (Nat.zero_le _) (Nat.zero_le _) ?_
    obtain ⟨w1, w2⟩ := inS h
    clear h
    subst w1
    subst w2
    exact g_zret B hE (nar_bI _) (Nat.zero_le _) (Nat.zero_le _) dX5_readCancelLine_15
set_option maxRecDepth 100000 in
set_option maxHeartbeats 4000000 in
theorem cX5_readCopyLinec {l : Launch} {v0 : Option Nat} {σ : HpT} {r : Bool} {σ' : HpT} (h : fX5_readCopyLine v0 σ = some (r, σ')) : IsK σ v0 5 ∧ Ct l yX5_readCopyLine cX5_readCopyLine 2 (some .boolean) 4 89 [va_rf v0] σ (.ok (some (.int (bI r)))) σ' 0 0 := by
  unfold fX5_readCopyLine at h
  replace h := bnP_s h
  obtain ⟨u, hk, h⟩ := h
  replace hk := isK_s hk
  refine ⟨hk, ?_⟩
  refine ct_start mi_X5_readCopyLine.1 rfl (al_le (al_1 (rf_cat _) al_n) (Nat.le_of_ble_eq_true rfl)) (ag_1 (rf_cat _) ag_n) (fun Δ Γ B hE hnm => ?_)
  refine g_aload_n B 0 dX5_readCopyLine_0 rfl rfl ?_
  replace h := bnP_s h
  obtain ⟨x1, h2, h⟩ := h
  refine g_getR B fl_RX5_28 (by decide) dX5_readCopyLine_1 h2 ?_
  replace h := bnP_s h
  obtain ⟨x3, h4, h⟩ := h
  refine g_getI B fl_RX5_225 (by decide) dX5_readCopyLine_4 h4 ?_
  refine g_bipush (v := 8) B dX5_readCopyLine_7 (by decide) ?_
  refine g_icmp_lt B 18 dX5_readCopyLine_9 (by decide) (fun hc => ?_) (fun hc => ?_)
  · replace h := ifp hc h
    refine g_aload_n B 0 dX5_readCopyLine_18 rfl rfl ?_
    refine g_iconst (v := 1) B dX5_readCopyLine_19 (by decide) ?_
    refine g_aload_n B 0 dX5_readCopyLine_20 rfl rfl ?_
    replace h := bnP_s h
    obtain ⟨x5, h6, h⟩ := h
    refine g_getR B fl_RX5_28 (by decide) dX5_readCopyLine_21 h6 ?_
    replace h := bnP_s h
    obtain ⟨x7, h8, h⟩ := h
    refine g_getI B fl_RX5_153 (by decide) dX5_readCopyLine_24 h8 ?_
    replace h := bnS_s h
    obtain ⟨x9, s11, h10, h⟩ := h
    refine g_callVs0 (st := []) B (cX5_checkNextNumberc h10) (Nat.le_of_ble_eq_true rfl) rfl rfl mi_X5_checkNextNumber lk_RX5_84 ⟨Nat.le_of_ble_eq_true rfl, Nat.le_of_ble_eq_true rfl⟩ rfl rfl (Nat.le_of_ble_eq_true rfl) dX5_readCopyLine_27 (Nat.zero_le _) (Nat.zero_le _) ?_
    refine g_if_ne B 35 dX5_readCopyLine_30 (by decide) (fun hc => ?_) (fun hc => ?_)
    · replace h := ifp (bI1 hc) h
      refine g_aload_n B 0 dX5_readCopyLine_35 rfl rfl ?_
      replace h := bnP_s h
      obtain ⟨x12, h13, h⟩ := h
      refine g_getR B fl_RX5_12 (by decide) dX5_readCopyLine_36 h13 ?_
      replace h := bnP_s h
      obtain ⟨x14, h15, h⟩ := h
      refine g_getI B fl_RX5_72 (by decide) dX5_readCopyLine_39 h15 ?_
      refine g_istore_n B dX5_readCopyLine_42 rfl (Nat.le_of_ble_eq_true rfl) (s1_c (f1_1 rfl (rf_cat _) f1_n)) ?_
      refine g_aload_n B 1 dX5_readCopyLine_43 rfl rfl ?_
      refine g_iconst (v := 0) B dX5_readCopyLine_44 (by decide) ?_
      refine g_iconst (v := 2) B dX5_readCopyLine_45 (by decide) ?_
      replace h := bnS_s h
      obtain ⟨x16, s18, h17, h⟩ := h
      refine g_callVs0 (st := []) B (cX5_checkNextNumberc h17) (Nat.le_of_ble_eq_true rfl) rfl rfl mi_X5_checkNextNumber lk_RX5_84 ⟨Nat.le_of_ble_eq_true rfl, Nat.le_of_ble_eq_true rfl⟩ rfl rfl (Nat.le_of_ble_eq_true rfl) dX5_readCopyLine_46 (Nat.zero_le _) (Nat.zero_le _) ?_
      refine g_if_ne B 54 dX5_readCopyLine_49 (by decide) (fun hc => ?_) (fun hc => ?_)
      · replace h := ifp (bI1 hc) h
        refine g_aload_n B 1 dX5_readCopyLine_54 rfl rfl ?_
        replace h := bnP_s h
        obtain ⟨x19, h20, h⟩ := h
        refine g_getR B fl_RX5_28 (by decide) dX5_readCopyLine_55 h20 ?_
        refine g_iload_n B 0 dX5_readCopyLine_58 rfl rfl ?_
        refine g_aload_n B 1 dX5_readCopyLine_59 rfl rfl ?_
        replace h := bnP_s h
        obtain ⟨x21, h22, h⟩ := h
        refine g_getR B fl_RX5_12 (by decide) dX5_readCopyLine_60 h22 ?_
        replace h := bnP_s h
        obtain ⟨x23, h24, h⟩ := h
        refine g_getI B fl_RX5_72 (by decide) dX5_readCopyLine_63 h24 ?_
        replace h := bnS_s h
        obtain ⟨x25, s27, h26, h⟩ := h
        refine g_callVs0 (st := []) B (cX1_copyReasonc h26) (Nat.le_of_ble_eq_true rfl) rfl rfl mi_X1_copyReason lk_RX5_228 ⟨Nat.le_of_ble_eq_true rfl, Nat.le_of_ble_eq_true rfl⟩ rfl rfl (Nat.le_of_ble_eq_true rfl) dX5_readCopyLine_66 (Nat.zero_le _) (Nat.zero_le _) ?_
        refine g_if_eq B 78 dX5_readCopyLine_69 (by decide) (fun hc => ?_) (fun hc => ?_)
        · replace h := ifp hc h
          refine g_aload_n B 1 dX5_readCopyLine_78 rfl rfl ?_
          replace h := bnP_s h
          obtain ⟨x28, h29, h⟩ := h
          refine g_getR B fl_RX5_28 (by decide) dX5_readCopyLine_79 h29 ?_
          refine g_iload_n B 0 dX5_readCopyLine_82 rfl rfl ?_
          refine g_aload_n B 1 dX5_readCopyLine_83 rfl rfl ?_
          replace h := bnP_s h
          obtain ⟨x30, h31, h⟩ := h
          refine g_getR B fl_RX5_12 (by decide) dX5_readCopyLine_84 h31 ?_
          replace h := bnP_s h
          obtain ⟨x32, h33, h⟩ := h
          refine g_getI B fl_RX5_72 (by decide) dX5_readCopyLine_87 h33 ?_
          replace h := bnP_s h
          obtain ⟨s36, h35, h⟩ := h
          refine g_callVv0 (st := []) B (cX1_makeCopyc h35) (Nat.le_of_ble_eq_true rfl) rfl rfl mi_X1_makeCopy lk_RX5_231 ⟨Nat.le_of_ble_eq_true rfl, Nat.le_of_ble_eq_true rfl⟩ rfl rfl (Nat.le_of_ble_eq_true rfl) dX5_readCopyLine_90 (Nat.zero_le _) (Nat.zero_le _) ?_
          refine g_aload_n B 1 dX5_readCopyLine_93 rfl rfl ?_
          replace h := bnS_s h
          obtain ⟨x37, s39, h38, h⟩ := h
          refine g_callVs0 (st := []) B (cX5_finishLinec h38) (Nat.le_of_ble_eq_true rfl) rfl rfl mi_X5_finishLine lk_RX5_102 ⟨Nat.le_of_ble_eq_true rfl, Nat.le_of_ble_eq_true rfl⟩ rfl rfl (Nat.le_of_ble_eq_true rfl) dX5_readCopyLine_94 (Nat.zero_le _) (Nat.zero_le _) ?_
          obtain ⟨w1, w2⟩ := inS h
          clear h
          subst w1
          subst w2
          exact g_zret B hE (nar_bI _) (Nat.zero_le _) (Nat.zero_le _) dX5_readCopyLine_97
        · replace h := ifn hc h
          refine g_aload_n B 1 dX5_readCopyLine_72 rfl rfl ?_
          refine g_iconst (v := 3) B dX5_readCopyLine_73 (by decide) ?_
          replace h := bnS_s h
          obtain ⟨x40, s42, h41, h⟩ := h
          refine g_callVs0 (st := []) B (cX5_failc h41) (Nat.le_of_ble_eq_true rfl) rfl rfl mi_X5_fail lk_RX5_51 ⟨Nat.le_of_ble_eq_true rfl, Nat.le_of_ble_eq_true rfl⟩ rfl rfl (Nat.le_of_ble_eq_true rfl) dX5_readCopyLine_74 (Nat.zero_le _) (Nat.zero_le _) ?_
          obtain ⟨w1, w2⟩ := inS h
          clear h
          subst w1
          subst w2
          exact g_zret B hE (nar_bI _) (Nat.zero_le _) (Nat.zero_le _) dX5_readCopyLine_77
      · replace h := ifn (bI0 hc) h
        refine g_iconst (v := 0) B dX5_readCopyLine_52 (by decide) ?_
        obtain ⟨w1, w2⟩ := inS h
        clear h
        subst w1
        subst w2
        exact g_zret B hE rfl (Nat.zero_le _) (Nat.zero_le _) dX5_readCopyLine_53
    · replace h := ifn (bI0 hc) h
      refine g_iconst (v := 0) B dX5_readCopyLine_33 (by decide) ?_
      obtain ⟨w1, w2⟩ := inS h
      clear h
      subst w1
      subst w2
      exact g_zret B hE rfl (Nat.zero_le _) (Nat.zero_le _) dX5_readCopyLine_34
  · replace h := ifn hc h
    refine g_aload_n B 0 dX5_readCopyLine_12 rfl rfl ?_
    refine g_iconst (v := 4) B dX5_readCopyLine_13 (by decide) ?_
    replace h := bnS_s h
    obtain ⟨x43, s45, h44, h⟩ := h
    refine g_callVs0 (st := []) B (cX5_failc h44) (Nat.le_of_ble_eq_true rfl) rfl rfl mi_X5_fail lk_RX5_51 ⟨Nat.le_of_ble_eq_true rfl, Nat.le_of_ble_eq_true rfl⟩ rfl rfl (Nat.le_of_ble_eq_true rfl) dX5_readCopyLine_14 (Nat.zero_le _) (Nat.zero_le _) ?_
    obtain ⟨w1, w2⟩ := inS h
    clear h
    subst w1
    subst w2
    exact g_zret B hE (nar_bI _) (Nat.zero_le _) (Nat.zero_le _) dX5_readCopyLine_17
