theorem mi_X5_readBodyAlone : MI yX5_readBodyAlone cX5_readBodyAlone 4 (some .boolean) 3 := ⟨by decide +kernel, (mw (i := 1836) (by decide +kernel) rfl), (mw (i := 169) (by decide +kernel) rfl), by decide +kernel, by decide +kernel⟩
theorem mi_X5_readLeafLine : MI yX5_readLeafLine cX5_readLeafLine 5 (some .boolean) 0 := ⟨by decide +kernel, (mw (i := 1049) (by decide +kernel) rfl), (mw (i := 169) (by decide +kernel) rfl), by decide +kernel, by decide +kernel⟩
theorem mi_X5_readLine : MI yX5_readLine cX5_readLine 1 (some .boolean) 0 := ⟨by decide +kernel, (mw (i := 812) (by decide +kernel) rfl), (mw (i := 169) (by decide +kernel) rfl), by decide +kernel, by decide +kernel⟩
theorem mi_X5_readText : MI yX5_readText cX5_readText 5 (some .boolean) 3 := ⟨by decide +kernel, (mw (i := 696) (by decide +kernel) rfl), (mw (i := 169) (by decide +kernel) rfl), by decide +kernel, by decide +kernel⟩
theorem mi_X6_init : MI yX6_init cX6_init 1 none 0 := ⟨by decide +kernel, (mw (i := 502) (by decide +kernel) rfl), (mw (i := 171) (by decide +kernel) rfl), by decide +kernel, by decide +kernel⟩
theorem mi_X6_putBlank : MI yX6_putBlank cX6_putBlank 1 none 0 := ⟨by decide +kernel, (mw (i := 1737) (by decide +kernel) rfl), (mw (i := 171) (by decide +kernel) rfl), by decide +kernel, by decide +kernel⟩
theorem mi_X6_putLetters : MI yX6_putLetters cX6_putLetters 5 none 1 := ⟨by decide +kernel, (mw (i := 1759) (by decide +kernel) rfl), (mw (i := 171) (by decide +kernel) rfl), by decide +kernel, by decide +kernel⟩
theorem mi_X6_putMarkedWord : MI yX6_putMarkedWord cX6_putMarkedWord 4 none 2 := ⟨by decide +kernel, (mw (i := 1755) (by decide +kernel) rfl), (mw (i := 171) (by decide +kernel) rfl), by decide +kernel, by decide +kernel⟩
theorem mi_X6_putNumberedWord : MI yX6_putNumberedWord cX6_putNumberedWord 4 none 2 := ⟨by decide +kernel, (mw (i := 1797) (by decide +kernel) rfl), (mw (i := 171) (by decide +kernel) rfl), by decide +kernel, by decide +kernel⟩
theorem mi_X6_putSigns : MI yX6_putSigns cX6_putSigns 4 none 2 := ⟨by decide +kernel, (mw (i := 1733) (by decide +kernel) rfl), (mw (i := 171) (by decide +kernel) rfl), by decide +kernel, by decide +kernel⟩
theorem mi_X6_putWord : MI yX6_putWord cX6_putWord 3 none 1 := ⟨by decide +kernel, (mw (i := 1765) (by decide +kernel) rfl), (mw (i := 171) (by decide +kernel) rfl), by decide +kernel, by decide +kernel⟩
theorem mi_X6_startText : MI yX6_startText cX6_startText 1 none 0 := ⟨by decide +kernel, (mw (i := 1482) (by decide +kernel) rfl), (mw (i := 171) (by decide +kernel) rfl), by decide +kernel, by decide +kernel⟩
theorem mi_X8_clausesFrom : MI yX8_clausesFrom cX8_clausesFrom 5 (some .int) 2 := ⟨by decide +kernel, (mw (i := 1157) (by decide +kernel) rfl), (mw (i := 164) (by decide +kernel) rfl), by decide +kernel, by decide +kernel⟩
theorem mi_X8_greatestDepth : MI yX8_greatestDepth cX8_greatestDepth 6 (some .int) 2 := ⟨by decide +kernel, (mw (i := 1161) (by decide +kernel) rfl), (mw (i := 164) (by decide +kernel) rfl), by decide +kernel, by decide +kernel⟩
theorem mi_X9_letterOf : MI yX9_letterOf cX9_letterOf 4 (some .int) 2 := ⟨by decide +kernel, (mw (i := 1195) (by decide +kernel) rfl), (mw (i := 162) (by decide +kernel) rfl), by decide +kernel, by decide +kernel⟩
theorem mi_X9_lettersIn : MI yX9_lettersIn cX9_lettersIn 3 (some .int) 1 := ⟨by decide +kernel, (mw (i := 1182) (by decide +kernel) rfl), (mw (i := 162) (by decide +kernel) rfl), by decide +kernel, by decide +kernel⟩
theorem fl_RX5_240 : Fl RX5 240 4 1 .int false := ⟨RX4, TX4, 4, tyX4, rfl, by decide, rfl, lay_4, (mw (i := 268) (by decide +kernel) rfl), tyX4_ok, nmX4, tyX4_ok 1 (by decide), rfl, by decide, by decide⟩
theorem fl_RX6_10 : Fl RX6 10 6 0 (.object "java/lang/StringBuilder") true := ⟨RX6, TX6, 1, tyX6, rfl, by decide, rfl, lay_6, (mw (i := 536) (by decide +kernel) rfl), tyX6_ok, nmX6, tyX6_ok 0 (by decide), rfl, by decide, fun _ => rfl⟩
theorem lk_RX5_32 : LV RX5 32 yX1_clear := ⟨(mw (i := 697) (by decide +kernel) rfl), (mw (i := 698) (by decide +kernel) rfl), (mw (i := 699) (by decide +kernel) rfl)⟩
theorem lk_RX5_37 : LV RX5 37 yX7_startAt := ⟨(mw (i := 701) (by decide +kernel) rfl), (mw (i := 702) (by decide +kernel) rfl), (mw (i := 703) (by decide +kernel) rfl)⟩
theorem lk_RX5_41 : LV RX5 41 yX5_readHead := ⟨(mw (i := 732) (by decide +kernel) rfl), (mw (i := 734) (by decide +kernel) rfl), (mw (i := 5) (by decide +kernel) rfl)⟩
theorem lk_RX5_58 : LV RX5 58 yX5_readLine := ⟨(mw (i := 809) (by decide +kernel) rfl), (mw (i := 811) (by decide +kernel) rfl), (mw (i := 11) (by decide +kernel) rfl)⟩
theorem lk_RX5_107 : LV RX5 107 yX5_readActLine := ⟨(mw (i := 814) (by decide +kernel) rfl), (mw (i := 816) (by decide +kernel) rfl), (mw (i := 12) (by decide +kernel) rfl)⟩
theorem lk_RX5_112 : LV RX5 112 yX5_readStrikeLine := ⟨(mw (i := 892) (by decide +kernel) rfl), (mw (i := 894) (by decide +kernel) rfl), (mw (i := 15) (by decide +kernel) rfl)⟩
theorem lk_RX5_117 : LV RX5 117 yX5_readOutLine := ⟨(mw (i := 918) (by decide +kernel) rfl), (mw (i := 920) (by decide +kernel) rfl), (mw (i := 16) (by decide +kernel) rfl)⟩
theorem lk_RX5_122 : LV RX5 122 yX5_readInsertLine := ⟨(mw (i := 948) (by decide +kernel) rfl), (mw (i := 950) (by decide +kernel) rfl), (mw (i := 18) (by decide +kernel) rfl)⟩
theorem lk_RX5_127 : LV RX5 127 yX5_readSealLine := ⟨(mw (i := 966) (by decide +kernel) rfl), (mw (i := 968) (by decide +kernel) rfl), (mw (i := 19) (by decide +kernel) rfl)⟩
theorem lk_RX5_132 : LV RX5 132 yX5_readCancelLine := ⟨(mw (i := 991) (by decide +kernel) rfl), (mw (i := 993) (by decide +kernel) rfl), (mw (i := 20) (by decide +kernel) rfl)⟩
theorem lk_RX5_137 : LV RX5 137 yX5_readCopyLine := ⟨(mw (i := 1000) (by decide +kernel) rfl), (mw (i := 1002) (by decide +kernel) rfl), (mw (i := 21) (by decide +kernel) rfl)⟩
theorem lk_RX5_142 : LV RX5 142 yX4_dropLoose := ⟨(mw (i := 1038) (by decide +kernel) rfl), (mw (i := 1039) (by decide +kernel) rfl), (mw (i := 1040) (by decide +kernel) rfl)⟩
theorem lk_RX5_146 : LV RX5 146 yX5_readLeafLine := ⟨(mw (i := 1046) (by decide +kernel) rfl), (mw (i := 1048) (by decide +kernel) rfl), (mw (i := 23) (by decide +kernel) rfl)⟩
theorem lk_RX5_241 : LV RX5 241 yX4_isLost := ⟨(mw (i := 1053) (by decide +kernel) rfl), (mw (i := 852) (by decide +kernel) rfl), (mw (i := 853) (by decide +kernel) rfl)⟩
theorem lk_RX5_244 : LV RX5 244 yX4_drop := ⟨(mw (i := 1054) (by decide +kernel) rfl), (mw (i := 1055) (by decide +kernel) rfl), (mw (i := 1056) (by decide +kernel) rfl)⟩
theorem lk_RX5_247 : LV RX5 247 yX4_bringBack := ⟨(mw (i := 1058) (by decide +kernel) rfl), (mw (i := 1059) (by decide +kernel) rfl), (mw (i := 1060) (by decide +kernel) rfl)⟩
theorem lk_RX5_250 : LV RX5 250 yX4_isLoose := ⟨(mw (i := 1067) (by decide +kernel) rfl), (mw (i := 1064) (by decide +kernel) rfl), (mw (i := 1065) (by decide +kernel) rfl)⟩
theorem lk_RX5_253 : LV RX5 253 yX4_fasten := ⟨(mw (i := 1068) (by decide +kernel) rfl), (mw (i := 867) (by decide +kernel) rfl), (mw (i := 868) (by decide +kernel) rfl)⟩
theorem lk_RX6_9 : LI RX6 9 yJ4_init_da8c8 := ⟨(mw (i := 506) (by decide +kernel) rfl), (mw (i := 507) (by decide +kernel) rfl), rfl⟩
theorem lk_RX6_16 : LV RX6 16 yJ4_setLength_d00df := ⟨(mw (i := 1483) (by decide +kernel) rfl), (mw (i := 1484) (by decide +kernel) rfl), (mw (i := 1485) (by decide +kernel) rfl)⟩
theorem lk_RX6_20 : LV RX6 20 yJ4_length_8abf5 := ⟨(mw (i := 1738) (by decide +kernel) rfl), (mw (i := 1640) (by decide +kernel) rfl), (mw (i := 2848) (by decide +kernel) rfl)⟩
theorem lk_RX6_24 : LV RX6 24 yJ4_append_cf468 := ⟨(mw (i := 1739) (by decide +kernel) rfl), (mw (i := 1740) (by decide +kernel) rfl), (mw (i := 1741) (by decide +kernel) rfl)⟩
theorem lk_RX6_28 : LNS RX6 "NotaryBook" 28 yX9_lettersIn := ⟨(mn (i := 1760) (by decide +kernel) rfl), (mw (i := 1181) (by decide +kernel) rfl)⟩
theorem lk_RX6_34 : LNS RX6 "NotaryBook" 34 yX9_letterOf := ⟨(mn (i := 1761) (by decide +kernel) rfl), (mw (i := 1194) (by decide +kernel) rfl)⟩
theorem lk_RX6_38 : LV RX6 38 yX6_putBlank := ⟨(mw (i := 1734) (by decide +kernel) rfl), (mw (i := 1736) (by decide +kernel) rfl), (mw (i := 31) (by decide +kernel) rfl)⟩
theorem lk_RX6_41 : LV RX6 41 yX6_putLetters := ⟨(mw (i := 1756) (by decide +kernel) rfl), (mw (i := 1758) (by decide +kernel) rfl), (mw (i := 32) (by decide +kernel) rfl)⟩
theorem lk_RX6_45 : LV RX6 45 yJ4_append_bf812 := ⟨(mw (i := 1798) (by decide +kernel) rfl), (mw (i := 1594) (by decide +kernel) rfl), (mw (i := 1595) (by decide +kernel) rfl)⟩
theorem lk_RX9_206 : LSt RX9 206 yX9_lettersIn := ⟨(mw (i := 1180) (by decide +kernel) rfl), (mw (i := 1181) (by decide +kernel) rfl)⟩
theorem nw_RX6_7 : NW RX6 7 11 := ⟨RJ4, TJ4, 4, tyJ4, rfl, rfl, lay_11, tyJ4_ok, (mw (i := 504) (by decide +kernel) rfl), (mw (i := 505) (by decide +kernel) rfl), (mw (i := 173) (by decide +kernel) rfl), by decide, dv_11⟩
theorem mt_RX8_59 : MTW RX8 59 Lib.Math.max.name Lib.Math.max.code 2 := ⟨(mw (i := 1162) (by decide +kernel) rfl), (mw (i := 864) (by decide +kernel) rfl), (mw (i := 181) (by decide +kernel) rfl), (mw (i := 865) (by decide +kernel) rfl)⟩
theorem obj_RX6_1 : OBW RX6 1 := ⟨(mw (i := 503) (by decide +kernel) rfl), (mw (i := 198) (by decide +kernel) rfl), (mw (i := 199) (by decide +kernel) rfl)⟩
theorem dX5_readLeafLine_0 : decode cX5_readLeafLine 0 = .ok (.aload_n 0, 1) := by decide +kernel
theorem dX5_readLeafLine_1 : decode cX5_readLeafLine 1 = .ok (.ldc 234, 2) := by decide +kernel
theorem dX5_readLeafLine_3 : decode cX5_readLeafLine 3 = .ok (.invokevirtual 80, 3) := by decide +kernel
theorem dX5_readLeafLine_6 : decode cX5_readLeafLine 6 = .ok (.istore_n 1, 1) := by decide +kernel
theorem dX5_readLeafLine_7 : decode cX5_readLeafLine 7 = .ok (.aload_n 0, 1) := by decide +kernel
theorem dX5_readLeafLine_8 : decode cX5_readLeafLine 8 = .ok (.ldc 236, 2) := by decide +kernel
theorem dX5_readLeafLine_10 : decode cX5_readLeafLine 10 = .ok (.invokevirtual 80, 3) := by decide +kernel
theorem dX5_readLeafLine_13 : decode cX5_readLeafLine 13 = .ok (.istore_n 2, 1) := by decide +kernel
theorem dX5_readLeafLine_14 : decode cX5_readLeafLine 14 = .ok (.iload_n 1, 1) := by decide +kernel
theorem dX5_readLeafLine_15 : decode cX5_readLeafLine 15 = .ok (.ifCond .ne 22, 3) := by decide +kernel
theorem dX5_readLeafLine_18 : decode cX5_readLeafLine 18 = .ok (.iload_n 2, 1) := by decide +kernel
theorem dX5_readLeafLine_19 : decode cX5_readLeafLine 19 = .ok (.ifCond .ne 18, 3) := by decide +kernel
theorem dX5_readLeafLine_22 : decode cX5_readLeafLine 22 = .ok (.aload_n 0, 1) := by decide +kernel
theorem dX5_readLeafLine_23 : decode cX5_readLeafLine 23 = .ok (.ldc 238, 2) := by decide +kernel
theorem dX5_readLeafLine_25 : decode cX5_readLeafLine 25 = .ok (.invokevirtual 80, 3) := by decide +kernel
theorem dX5_readLeafLine_28 : decode cX5_readLeafLine 28 = .ok (.ifCond .ne 9, 3) := by decide +kernel
theorem dX5_readLeafLine_31 : decode cX5_readLeafLine 31 = .ok (.aload_n 0, 1) := by decide +kernel
theorem dX5_readLeafLine_32 : decode cX5_readLeafLine 32 = .ok (.iconst 1, 1) := by decide +kernel
theorem dX5_readLeafLine_33 : decode cX5_readLeafLine 33 = .ok (.invokevirtual 51, 3) := by decide +kernel
theorem dX5_readLeafLine_36 : decode cX5_readLeafLine 36 = .ok (.ireturn, 1) := by decide +kernel
theorem dX5_readLeafLine_37 : decode cX5_readLeafLine 37 = .ok (.aload_n 0, 1) := by decide +kernel
theorem dX5_readLeafLine_38 : decode cX5_readLeafLine 38 = .ok (.getfield 28, 3) := by decide +kernel
theorem dX5_readLeafLine_41 : decode cX5_readLeafLine 41 = .ok (.getfield 93, 3) := by decide +kernel
theorem dX5_readLeafLine_44 : decode cX5_readLeafLine 44 = .ok (.astore_n 3, 1) := by decide +kernel
theorem dX5_readLeafLine_45 : decode cX5_readLeafLine 45 = .ok (.aload_n 0, 1) := by decide +kernel
theorem dX5_readLeafLine_46 : decode cX5_readLeafLine 46 = .ok (.iconst 0, 1) := by decide +kernel
theorem dX5_readLeafLine_47 : decode cX5_readLeafLine 47 = .ok (.aload_n 3, 1) := by decide +kernel
theorem dX5_readLeafLine_48 : decode cX5_readLeafLine 48 = .ok (.getfield 240, 3) := by decide +kernel
theorem dX5_readLeafLine_51 : decode cX5_readLeafLine 51 = .ok (.iconst 1, 1) := by decide +kernel
theorem dX5_readLeafLine_52 : decode cX5_readLeafLine 52 = .ok (.isub, 1) := by decide +kernel
theorem dX5_readLeafLine_53 : decode cX5_readLeafLine 53 = .ok (.invokevirtual 84, 3) := by decide +kernel
theorem dX5_readLeafLine_56 : decode cX5_readLeafLine 56 = .ok (.ifCond .ne 5, 3) := by decide +kernel
theorem dX5_readLeafLine_59 : decode cX5_readLeafLine 59 = .ok (.iconst 0, 1) := by decide +kernel
theorem dX5_readLeafLine_60 : decode cX5_readLeafLine 60 = .ok (.ireturn, 1) := by decide +kernel
theorem dX5_readLeafLine_61 : decode cX5_readLeafLine 61 = .ok (.aload_n 0, 1) := by decide +kernel
theorem dX5_readLeafLine_62 : decode cX5_readLeafLine 62 = .ok (.getfield 12, 3) := by decide +kernel
theorem dX5_readLeafLine_65 : decode cX5_readLeafLine 65 = .ok (.getfield 72, 3) := by decide +kernel
theorem dX5_readLeafLine_68 : decode cX5_readLeafLine 68 = .ok (.istore 4, 2) := by decide +kernel
theorem dX5_readLeafLine_70 : decode cX5_readLeafLine 70 = .ok (.iload_n 1, 1) := by decide +kernel
theorem dX5_readLeafLine_71 : decode cX5_readLeafLine 71 = .ok (.ifCond .eq 21, 3) := by decide +kernel
theorem dX5_readLeafLine_74 : decode cX5_readLeafLine 74 = .ok (.aload_n 3, 1) := by decide +kernel
theorem dX5_readLeafLine_75 : decode cX5_readLeafLine 75 = .ok (.iload 4, 2) := by decide +kernel
theorem dX5_readLeafLine_77 : decode cX5_readLeafLine 77 = .ok (.invokevirtual 241, 3) := by decide +kernel
theorem dX5_readLeafLine_80 : decode cX5_readLeafLine 80 = .ok (.ifCond .ne 12, 3) := by decide +kernel
theorem dX5_readLeafLine_83 : decode cX5_readLeafLine 83 = .ok (.aload_n 3, 1) := by decide +kernel
theorem dX5_readLeafLine_84 : decode cX5_readLeafLine 84 = .ok (.iload 4, 2) := by decide +kernel
theorem dX5_readLeafLine_86 : decode cX5_readLeafLine 86 = .ok (.invokevirtual 244, 3) := by decide +kernel
theorem dX5_readLeafLine_89 : decode cX5_readLeafLine 89 = .ok (.goto 57, 3) := by decide +kernel
theorem dX5_readLeafLine_92 : decode cX5_readLeafLine 92 = .ok (.iload_n 2, 1) := by decide +kernel
theorem dX5_readLeafLine_93 : decode cX5_readLeafLine 93 = .ok (.ifCond .eq 21, 3) := by decide +kernel
theorem dX5_readLeafLine_96 : decode cX5_readLeafLine 96 = .ok (.aload_n 3, 1) := by decide +kernel
theorem dX5_readLeafLine_97 : decode cX5_readLeafLine 97 = .ok (.iload 4, 2) := by decide +kernel
theorem dX5_readLeafLine_99 : decode cX5_readLeafLine 99 = .ok (.invokevirtual 241, 3) := by decide +kernel
theorem dX5_readLeafLine_102 : decode cX5_readLeafLine 102 = .ok (.ifCond .eq 12, 3) := by decide +kernel
theorem dX5_readLeafLine_105 : decode cX5_readLeafLine 105 = .ok (.aload_n 3, 1) := by decide +kernel
theorem dX5_readLeafLine_106 : decode cX5_readLeafLine 106 = .ok (.iload 4, 2) := by decide +kernel
theorem dX5_readLeafLine_108 : decode cX5_readLeafLine 108 = .ok (.invokevirtual 247, 3) := by decide +kernel
theorem dX5_readLeafLine_111 : decode cX5_readLeafLine 111 = .ok (.goto 35, 3) := by decide +kernel
theorem dX5_readLeafLine_114 : decode cX5_readLeafLine 114 = .ok (.iload_n 1, 1) := by decide +kernel
theorem dX5_readLeafLine_115 : decode cX5_readLeafLine 115 = .ok (.ifCond .ne 25, 3) := by decide +kernel
theorem dX5_readLeafLine_118 : decode cX5_readLeafLine 118 = .ok (.iload_n 2, 1) := by decide +kernel
theorem dX5_readLeafLine_119 : decode cX5_readLeafLine 119 = .ok (.ifCond .ne 21, 3) := by decide +kernel
theorem dX5_readLeafLine_122 : decode cX5_readLeafLine 122 = .ok (.aload_n 3, 1) := by decide +kernel
theorem dX5_readLeafLine_123 : decode cX5_readLeafLine 123 = .ok (.iload 4, 2) := by decide +kernel
theorem dX5_readLeafLine_125 : decode cX5_readLeafLine 125 = .ok (.invokevirtual 250, 3) := by decide +kernel
theorem dX5_readLeafLine_128 : decode cX5_readLeafLine 128 = .ok (.ifCond .eq 12, 3) := by decide +kernel
theorem dX5_readLeafLine_131 : decode cX5_readLeafLine 131 = .ok (.aload_n 3, 1) := by decide +kernel
theorem dX5_readLeafLine_132 : decode cX5_readLeafLine 132 = .ok (.iload 4, 2) := by decide +kernel
theorem dX5_readLeafLine_134 : decode cX5_readLeafLine 134 = .ok (.invokevirtual 253, 3) := by decide +kernel
theorem dX5_readLeafLine_137 : decode cX5_readLeafLine 137 = .ok (.goto 9, 3) := by decide +kernel
theorem dX5_readLeafLine_140 : decode cX5_readLeafLine 140 = .ok (.aload_n 0, 1) := by decide +kernel
theorem dX5_readLeafLine_141 : decode cX5_readLeafLine 141 = .ok (.iconst 3, 1) := by decide +kernel
theorem dX5_readLeafLine_142 : decode cX5_readLeafLine 142 = .ok (.invokevirtual 51, 3) := by decide +kernel
theorem dX5_readLeafLine_145 : decode cX5_readLeafLine 145 = .ok (.ireturn, 1) := by decide +kernel
theorem dX5_readLeafLine_146 : decode cX5_readLeafLine 146 = .ok (.aload_n 0, 1) := by decide +kernel
theorem dX5_readLeafLine_147 : decode cX5_readLeafLine 147 = .ok (.invokevirtual 102, 3) := by decide +kernel
theorem dX5_readLeafLine_150 : decode cX5_readLeafLine 150 = .ok (.ireturn, 1) := by decide +kernel
theorem dX5_readLine_0 : decode cX5_readLine 0 = .ok (.aload_n 0, 1) := by decide +kernel
theorem dX5_readLine_1 : decode cX5_readLine 1 = .ok (.ldc 105, 2) := by decide +kernel
theorem dX5_readLine_3 : decode cX5_readLine 3 = .ok (.invokevirtual 80, 3) := by decide +kernel
theorem dX5_readLine_6 : decode cX5_readLine 6 = .ok (.ifCond .eq 8, 3) := by decide +kernel
theorem dX5_readLine_9 : decode cX5_readLine 9 = .ok (.aload_n 0, 1) := by decide +kernel
theorem dX5_readLine_10 : decode cX5_readLine 10 = .ok (.invokevirtual 107, 3) := by decide +kernel
theorem dX5_readLine_13 : decode cX5_readLine 13 = .ok (.ireturn, 1) := by decide +kernel
theorem dX5_readLine_14 : decode cX5_readLine 14 = .ok (.aload_n 0, 1) := by decide +kernel
theorem dX5_readLine_15 : decode cX5_readLine 15 = .ok (.ldc 110, 2) := by decide +kernel
theorem dX5_readLine_17 : decode cX5_readLine 17 = .ok (.invokevirtual 80, 3) := by decide +kernel
theorem dX5_readLine_20 : decode cX5_readLine 20 = .ok (.ifCond .eq 8, 3) := by decide +kernel
theorem dX5_readLine_23 : decode cX5_readLine 23 = .ok (.aload_n 0, 1) := by decide +kernel
theorem dX5_readLine_24 : decode cX5_readLine 24 = .ok (.invokevirtual 112, 3) := by decide +kernel
theorem dX5_readLine_27 : decode cX5_readLine 27 = .ok (.ireturn, 1) := by decide +kernel
theorem dX5_readLine_28 : decode cX5_readLine 28 = .ok (.aload_n 0, 1) := by decide +kernel
theorem dX5_readLine_29 : decode cX5_readLine 29 = .ok (.ldc 115, 2) := by decide +kernel
theorem dX5_readLine_31 : decode cX5_readLine 31 = .ok (.invokevirtual 80, 3) := by decide +kernel
theorem dX5_readLine_34 : decode cX5_readLine 34 = .ok (.ifCond .eq 8, 3) := by decide +kernel
theorem dX5_readLine_37 : decode cX5_readLine 37 = .ok (.aload_n 0, 1) := by decide +kernel
theorem dX5_readLine_38 : decode cX5_readLine 38 = .ok (.invokevirtual 117, 3) := by decide +kernel
theorem dX5_readLine_41 : decode cX5_readLine 41 = .ok (.ireturn, 1) := by decide +kernel
theorem dX5_readLine_42 : decode cX5_readLine 42 = .ok (.aload_n 0, 1) := by decide +kernel
theorem dX5_readLine_43 : decode cX5_readLine 43 = .ok (.ldc 120, 2) := by decide +kernel
theorem dX5_readLine_45 : decode cX5_readLine 45 = .ok (.invokevirtual 80, 3) := by decide +kernel
theorem dX5_readLine_48 : decode cX5_readLine 48 = .ok (.ifCond .eq 8, 3) := by decide +kernel
theorem dX5_readLine_51 : decode cX5_readLine 51 = .ok (.aload_n 0, 1) := by decide +kernel
theorem dX5_readLine_52 : decode cX5_readLine 52 = .ok (.invokevirtual 122, 3) := by decide +kernel
theorem dX5_readLine_55 : decode cX5_readLine 55 = .ok (.ireturn, 1) := by decide +kernel
theorem dX5_readLine_56 : decode cX5_readLine 56 = .ok (.aload_n 0, 1) := by decide +kernel
theorem dX5_readLine_57 : decode cX5_readLine 57 = .ok (.ldc 125, 2) := by decide +kernel
theorem dX5_readLine_59 : decode cX5_readLine 59 = .ok (.invokevirtual 80, 3) := by decide +kernel
theorem dX5_readLine_62 : decode cX5_readLine 62 = .ok (.ifCond .eq 8, 3) := by decide +kernel
theorem dX5_readLine_65 : decode cX5_readLine 65 = .ok (.aload_n 0, 1) := by decide +kernel
theorem dX5_readLine_66 : decode cX5_readLine 66 = .ok (.invokevirtual 127, 3) := by decide +kernel
theorem dX5_readLine_69 : decode cX5_readLine 69 = .ok (.ireturn, 1) := by decide +kernel
theorem dX5_readLine_70 : decode cX5_readLine 70 = .ok (.aload_n 0, 1) := by decide +kernel
theorem dX5_readLine_71 : decode cX5_readLine 71 = .ok (.ldc 130, 2) := by decide +kernel
theorem dX5_readLine_73 : decode cX5_readLine 73 = .ok (.invokevirtual 80, 3) := by decide +kernel
theorem dX5_readLine_76 : decode cX5_readLine 76 = .ok (.ifCond .eq 8, 3) := by decide +kernel
theorem dX5_readLine_79 : decode cX5_readLine 79 = .ok (.aload_n 0, 1) := by decide +kernel
theorem dX5_readLine_80 : decode cX5_readLine 80 = .ok (.invokevirtual 132, 3) := by decide +kernel
theorem dX5_readLine_83 : decode cX5_readLine 83 = .ok (.ireturn, 1) := by decide +kernel
theorem dX5_readLine_84 : decode cX5_readLine 84 = .ok (.aload_n 0, 1) := by decide +kernel
theorem dX5_readLine_85 : decode cX5_readLine 85 = .ok (.ldc 135, 2) := by decide +kernel
theorem dX5_readLine_87 : decode cX5_readLine 87 = .ok (.invokevirtual 80, 3) := by decide +kernel
theorem dX5_readLine_90 : decode cX5_readLine 90 = .ok (.ifCond .eq 8, 3) := by decide +kernel
theorem dX5_readLine_93 : decode cX5_readLine 93 = .ok (.aload_n 0, 1) := by decide +kernel
theorem dX5_readLine_94 : decode cX5_readLine 94 = .ok (.invokevirtual 137, 3) := by decide +kernel
theorem dX5_readLine_97 : decode cX5_readLine 97 = .ok (.ireturn, 1) := by decide +kernel
theorem dX5_readLine_98 : decode cX5_readLine 98 = .ok (.aload_n 0, 1) := by decide +kernel
theorem dX5_readLine_99 : decode cX5_readLine 99 = .ok (.ldc 140, 2) := by decide +kernel
theorem dX5_readLine_101 : decode cX5_readLine 101 = .ok (.invokevirtual 80, 3) := by decide +kernel
theorem dX5_readLine_104 : decode cX5_readLine 104 = .ok (.ifCond .eq 19, 3) := by decide +kernel
theorem dX5_readLine_107 : decode cX5_readLine 107 = .ok (.aload_n 0, 1) := by decide +kernel
theorem dX5_readLine_108 : decode cX5_readLine 108 = .ok (.getfield 28, 3) := by decide +kernel
theorem dX5_readLine_111 : decode cX5_readLine 111 = .ok (.getfield 93, 3) := by decide +kernel
theorem dX5_readLine_114 : decode cX5_readLine 114 = .ok (.invokevirtual 142, 3) := by decide +kernel
theorem dX5_readLine_117 : decode cX5_readLine 117 = .ok (.pop, 1) := by decide +kernel
theorem dX5_readLine_118 : decode cX5_readLine 118 = .ok (.aload_n 0, 1) := by decide +kernel
theorem dX5_readLine_119 : decode cX5_readLine 119 = .ok (.invokevirtual 102, 3) := by decide +kernel
theorem dX5_readLine_122 : decode cX5_readLine 122 = .ok (.ireturn, 1) := by decide +kernel
theorem dX5_readLine_123 : decode cX5_readLine 123 = .ok (.aload_n 0, 1) := by decide +kernel
theorem dX5_readLine_124 : decode cX5_readLine 124 = .ok (.invokevirtual 146, 3) := by decide +kernel
theorem dX5_readLine_127 : decode cX5_readLine 127 = .ok (.ireturn, 1) := by decide +kernel
theorem dX5_readText_0 : decode cX5_readText 0 = .ok (.aload_n 0, 1) := by decide +kernel
theorem dX5_readText_1 : decode cX5_readText 1 = .ok (.aload_n 3, 1) := by decide +kernel
theorem dX5_readText_2 : decode cX5_readText 2 = .ok (.putfield 28, 3) := by decide +kernel
theorem dX5_readText_5 : decode cX5_readText 5 = .ok (.aload_n 0, 1) := by decide +kernel
theorem dX5_readText_6 : decode cX5_readText 6 = .ok (.getfield 28, 3) := by decide +kernel
theorem dX5_readText_9 : decode cX5_readText 9 = .ok (.invokevirtual 32, 3) := by decide +kernel
theorem dX5_readText_12 : decode cX5_readText 12 = .ok (.aload_n 0, 1) := by decide +kernel
theorem dX5_readText_13 : decode cX5_readText 13 = .ok (.getfield 12, 3) := by decide +kernel
theorem dX5_readText_16 : decode cX5_readText 16 = .ok (.aload_n 1, 1) := by decide +kernel
theorem dX5_readText_17 : decode cX5_readText 17 = .ok (.iload_n 2, 1) := by decide +kernel
theorem dX5_readText_18 : decode cX5_readText 18 = .ok (.invokevirtual 37, 3) := by decide +kernel
theorem dX5_readText_21 : decode cX5_readText 21 = .ok (.aload_n 0, 1) := by decide +kernel
theorem dX5_readText_22 : decode cX5_readText 22 = .ok (.invokevirtual 41, 3) := by decide +kernel
theorem dX5_readText_25 : decode cX5_readText 25 = .ok (.ifCond .ne 5, 3) := by decide +kernel
theorem dX5_readText_28 : decode cX5_readText 28 = .ok (.iconst 0, 1) := by decide +kernel
theorem dX5_readText_29 : decode cX5_readText 29 = .ok (.ireturn, 1) := by decide +kernel
theorem dX5_readText_30 : decode cX5_readText 30 = .ok (.iconst 0, 1) := by decide +kernel
theorem dX5_readText_31 : decode cX5_readText 31 = .ok (.istore 4, 2) := by decide +kernel
theorem dX5_readText_33 : decode cX5_readText 33 = .ok (.iload 4, 2) := by decide +kernel
theorem dX5_readText_35 : decode cX5_readText 35 = .ok (.aload_n 0, 1) := by decide +kernel
theorem dX5_readText_36 : decode cX5_readText 36 = .ok (.getfield 12, 3) := by decide +kernel
theorem dX5_readText_39 : decode cX5_readText 39 = .ok (.getfield 45, 3) := by decide +kernel
theorem dX5_readText_42 : decode cX5_readText 42 = .ok (.if_icmp .gt 54, 3) := by decide +kernel
theorem dX5_readText_45 : decode cX5_readText 45 = .ok (.aload_n 0, 1) := by decide +kernel
theorem dX5_readText_46 : decode cX5_readText 46 = .ok (.getfield 12, 3) := by decide +kernel
theorem dX5_readText_49 : decode cX5_readText 49 = .ok (.getfield 48, 3) := by decide +kernel
theorem dX5_readText_52 : decode cX5_readText 52 = .ok (.ifCond .ne 5, 3) := by decide +kernel
theorem dX5_readText_55 : decode cX5_readText 55 = .ok (.iconst 1, 1) := by decide +kernel
theorem dX5_readText_56 : decode cX5_readText 56 = .ok (.ireturn, 1) := by decide +kernel
theorem dX5_readText_57 : decode cX5_readText 57 = .ok (.aload_n 0, 1) := by decide +kernel
theorem dX5_readText_58 : decode cX5_readText 58 = .ok (.getfield 12, 3) := by decide +kernel
theorem dX5_readText_61 : decode cX5_readText 61 = .ok (.getfield 48, 3) := by decide +kernel
theorem dX5_readText_64 : decode cX5_readText 64 = .ok (.iconst 3, 1) := by decide +kernel
theorem dX5_readText_65 : decode cX5_readText 65 = .ok (.if_icmp .eq 9, 3) := by decide +kernel
theorem dX5_readText_68 : decode cX5_readText 68 = .ok (.aload_n 0, 1) := by decide +kernel
theorem dX5_readText_69 : decode cX5_readText 69 = .ok (.iconst 1, 1) := by decide +kernel
theorem dX5_readText_70 : decode cX5_readText 70 = .ok (.invokevirtual 51, 3) := by decide +kernel
theorem dX5_readText_73 : decode cX5_readText 73 = .ok (.ireturn, 1) := by decide +kernel
theorem dX5_readText_74 : decode cX5_readText 74 = .ok (.aload_n 0, 1) := by decide +kernel
theorem dX5_readText_75 : decode cX5_readText 75 = .ok (.getfield 12, 3) := by decide +kernel
theorem dX5_readText_78 : decode cX5_readText 78 = .ok (.invokevirtual 55, 3) := by decide +kernel
theorem dX5_readText_81 : decode cX5_readText 81 = .ok (.aload_n 0, 1) := by decide +kernel
theorem dX5_readText_82 : decode cX5_readText 82 = .ok (.invokevirtual 58, 3) := by decide +kernel
theorem dX5_readText_85 : decode cX5_readText 85 = .ok (.ifCond .ne 5, 3) := by decide +kernel
theorem dX5_readText_88 : decode cX5_readText 88 = .ok (.iconst 0, 1) := by decide +kernel
theorem dX5_readText_89 : decode cX5_readText 89 = .ok (.ireturn, 1) := by decide +kernel
theorem dX5_readText_90 : decode cX5_readText 90 = .ok (.iinc 4 1, 3) := by decide +kernel
theorem dX5_readText_93 : decode cX5_readText 93 = .ok (.goto (-60), 3) := by decide +kernel
theorem dX5_readText_96 : decode cX5_readText 96 = .ok (.aload_n 0, 1) := by decide +kernel
theorem dX5_readText_97 : decode cX5_readText 97 = .ok (.iconst 1, 1) := by decide +kernel
theorem dX5_readText_98 : decode cX5_readText 98 = .ok (.invokevirtual 51, 3) := by decide +kernel
theorem dX5_readText_101 : decode cX5_readText 101 = .ok (.ireturn, 1) := by decide +kernel
theorem dX5_readBodyAlone_0 : decode cX5_readBodyAlone 0 = .ok (.aload_n 0, 1) := by decide +kernel
theorem dX5_readBodyAlone_1 : decode cX5_readBodyAlone 1 = .ok (.aload_n 3, 1) := by decide +kernel
theorem dX5_readBodyAlone_2 : decode cX5_readBodyAlone 2 = .ok (.putfield 28, 3) := by decide +kernel
theorem dX5_readBodyAlone_5 : decode cX5_readBodyAlone 5 = .ok (.aload_n 0, 1) := by decide +kernel
theorem dX5_readBodyAlone_6 : decode cX5_readBodyAlone 6 = .ok (.getfield 12, 3) := by decide +kernel
theorem dX5_readBodyAlone_9 : decode cX5_readBodyAlone 9 = .ok (.aload_n 1, 1) := by decide +kernel
theorem dX5_readBodyAlone_10 : decode cX5_readBodyAlone 10 = .ok (.iload_n 2, 1) := by decide +kernel
theorem dX5_readBodyAlone_11 : decode cX5_readBodyAlone 11 = .ok (.invokevirtual 37, 3) := by decide +kernel
theorem dX5_readBodyAlone_14 : decode cX5_readBodyAlone 14 = .ok (.aload_n 0, 1) := by decide +kernel
theorem dX5_readBodyAlone_15 : decode cX5_readBodyAlone 15 = .ok (.invokevirtual 61, 3) := by decide +kernel
theorem dX5_readBodyAlone_18 : decode cX5_readBodyAlone 18 = .ok (.ifCond .eq 17, 3) := by decide +kernel
theorem dX5_readBodyAlone_21 : decode cX5_readBodyAlone 21 = .ok (.aload_n 0, 1) := by decide +kernel
theorem dX5_readBodyAlone_22 : decode cX5_readBodyAlone 22 = .ok (.getfield 12, 3) := by decide +kernel
theorem dX5_readBodyAlone_25 : decode cX5_readBodyAlone 25 = .ok (.getfield 48, 3) := by decide +kernel
theorem dX5_readBodyAlone_28 : decode cX5_readBodyAlone 28 = .ok (.ifCond .ne 7, 3) := by decide +kernel
theorem dX5_readBodyAlone_31 : decode cX5_readBodyAlone 31 = .ok (.iconst 1, 1) := by decide +kernel
theorem dX5_readBodyAlone_32 : decode cX5_readBodyAlone 32 = .ok (.goto 4, 3) := by decide +kernel
theorem dX5_readBodyAlone_35 : decode cX5_readBodyAlone 35 = .ok (.iconst 0, 1) := by decide +kernel
theorem dX5_readBodyAlone_36 : decode cX5_readBodyAlone 36 = .ok (.ireturn, 1) := by decide +kernel
theorem dX6_init_0 : decode cX6_init 0 = .ok (.aload_n 0, 1) := by decide +kernel
theorem dX6_init_1 : decode cX6_init 1 = .ok (.invokespecial 1, 3) := by decide +kernel
theorem dX6_init_4 : decode cX6_init 4 = .ok (.aload_n 0, 1) := by decide +kernel
theorem dX6_init_5 : decode cX6_init 5 = .ok (.new 7, 3) := by decide +kernel
theorem dX6_init_8 : decode cX6_init 8 = .ok (.dup, 1) := by decide +kernel
theorem dX6_init_9 : decode cX6_init 9 = .ok (.invokespecial 9, 3) := by decide +kernel
theorem dX6_init_12 : decode cX6_init 12 = .ok (.putfield 10, 3) := by decide +kernel
theorem dX6_init_15 : decode cX6_init 15 = .ok (.return_, 1) := by decide +kernel
theorem dX6_startText_0 : decode cX6_startText 0 = .ok (.aload_n 0, 1) := by decide +kernel
theorem dX6_startText_1 : decode cX6_startText 1 = .ok (.getfield 10, 3) := by decide +kernel
theorem dX6_startText_4 : decode cX6_startText 4 = .ok (.iconst 0, 1) := by decide +kernel
theorem dX6_startText_5 : decode cX6_startText 5 = .ok (.invokevirtual 16, 3) := by decide +kernel
theorem dX6_startText_8 : decode cX6_startText 8 = .ok (.return_, 1) := by decide +kernel
theorem dX6_putBlank_0 : decode cX6_putBlank 0 = .ok (.aload_n 0, 1) := by decide +kernel
theorem dX6_putBlank_1 : decode cX6_putBlank 1 = .ok (.getfield 10, 3) := by decide +kernel
theorem dX6_putBlank_4 : decode cX6_putBlank 4 = .ok (.invokevirtual 20, 3) := by decide +kernel
theorem dX6_putBlank_7 : decode cX6_putBlank 7 = .ok (.ifCond .le 13, 3) := by decide +kernel
theorem dX6_putBlank_10 : decode cX6_putBlank 10 = .ok (.aload_n 0, 1) := by decide +kernel
theorem dX6_putBlank_11 : decode cX6_putBlank 11 = .ok (.getfield 10, 3) := by decide +kernel
theorem dX6_putBlank_14 : decode cX6_putBlank 14 = .ok (.bipush 32, 2) := by decide +kernel
theorem dX6_putBlank_16 : decode cX6_putBlank 16 = .ok (.invokevirtual 24, 3) := by decide +kernel
theorem dX6_putBlank_19 : decode cX6_putBlank 19 = .ok (.pop, 1) := by decide +kernel
theorem dX6_putBlank_20 : decode cX6_putBlank 20 = .ok (.return_, 1) := by decide +kernel
theorem dX9_lettersIn_0 : decode cX9_lettersIn 0 = .ok (.iconst 0, 1) := by decide +kernel
theorem dX9_lettersIn_1 : decode cX9_lettersIn 1 = .ok (.istore_n 2, 1) := by decide +kernel
theorem dX9_lettersIn_2 : decode cX9_lettersIn 2 = .ok (.iload_n 2, 1) := by decide +kernel
theorem dX9_lettersIn_3 : decode cX9_lettersIn 3 = .ok (.bipush 8, 2) := by decide +kernel
theorem dX9_lettersIn_5 : decode cX9_lettersIn 5 = .ok (.if_icmp .ge 20, 3) := by decide +kernel
theorem dX9_lettersIn_8 : decode cX9_lettersIn 8 = .ok (.lload_n 0, 1) := by decide +kernel
theorem dX9_lettersIn_9 : decode cX9_lettersIn 9 = .ok (.bipush 8, 2) := by decide +kernel
theorem dX9_lettersIn_11 : decode cX9_lettersIn 11 = .ok (.iload_n 2, 1) := by decide +kernel
theorem dX9_lettersIn_12 : decode cX9_lettersIn 12 = .ok (.imul, 1) := by decide +kernel
theorem dX9_lettersIn_13 : decode cX9_lettersIn 13 = .ok (.lushr, 1) := by decide +kernel
theorem dX9_lettersIn_14 : decode cX9_lettersIn 14 = .ok (.lconst 0, 1) := by decide +kernel
theorem dX9_lettersIn_15 : decode cX9_lettersIn 15 = .ok (.lcmp, 1) := by decide +kernel
theorem dX9_lettersIn_16 : decode cX9_lettersIn 16 = .ok (.ifCond .eq 9, 3) := by decide +kernel
theorem dX9_lettersIn_19 : decode cX9_lettersIn 19 = .ok (.iinc 2 1, 3) := by decide +kernel
theorem dX9_lettersIn_22 : decode cX9_lettersIn 22 = .ok (.goto (-20), 3) := by decide +kernel
theorem dX9_lettersIn_25 : decode cX9_lettersIn 25 = .ok (.iload_n 2, 1) := by decide +kernel
theorem dX9_lettersIn_26 : decode cX9_lettersIn 26 = .ok (.ireturn, 1) := by decide +kernel
theorem dX9_letterOf_0 : decode cX9_letterOf 0 = .ok (.lload_n 0, 1) := by decide +kernel
theorem dX9_letterOf_1 : decode cX9_letterOf 1 = .ok (.invokestatic 206, 3) := by decide +kernel
theorem dX9_letterOf_4 : decode cX9_letterOf 4 = .ok (.istore_n 3, 1) := by decide +kernel
theorem dX9_letterOf_5 : decode cX9_letterOf 5 = .ok (.iload_n 2, 1) := by decide +kernel
theorem dX9_letterOf_6 : decode cX9_letterOf 6 = .ok (.ifCond .lt 8, 3) := by decide +kernel
theorem dX9_letterOf_9 : decode cX9_letterOf 9 = .ok (.iload_n 2, 1) := by decide +kernel
theorem dX9_letterOf_10 : decode cX9_letterOf 10 = .ok (.iload_n 3, 1) := by decide +kernel
theorem dX9_letterOf_11 : decode cX9_letterOf 11 = .ok (.if_icmp .lt 5, 3) := by decide +kernel
theorem dX9_letterOf_14 : decode cX9_letterOf 14 = .ok (.iconst (-1), 1) := by decide +kernel
theorem dX9_letterOf_15 : decode cX9_letterOf 15 = .ok (.ireturn, 1) := by decide +kernel
theorem dX9_letterOf_16 : decode cX9_letterOf 16 = .ok (.lload_n 0, 1) := by decide +kernel
theorem dX9_letterOf_17 : decode cX9_letterOf 17 = .ok (.bipush 8, 2) := by decide +kernel
theorem dX9_letterOf_19 : decode cX9_letterOf 19 = .ok (.iload_n 3, 1) := by decide +kernel
theorem dX9_letterOf_20 : decode cX9_letterOf 20 = .ok (.iconst 1, 1) := by decide +kernel
theorem dX9_letterOf_21 : decode cX9_letterOf 21 = .ok (.isub, 1) := by decide +kernel
theorem dX9_letterOf_22 : decode cX9_letterOf 22 = .ok (.iload_n 2, 1) := by decide +kernel
theorem dX9_letterOf_23 : decode cX9_letterOf 23 = .ok (.isub, 1) := by decide +kernel
theorem dX9_letterOf_24 : decode cX9_letterOf 24 = .ok (.imul, 1) := by decide +kernel
theorem dX9_letterOf_25 : decode cX9_letterOf 25 = .ok (.lushr, 1) := by decide +kernel
theorem dX9_letterOf_26 : decode cX9_letterOf 26 = .ok (.l2i, 1) := by decide +kernel
theorem dX9_letterOf_27 : decode cX9_letterOf 27 = .ok (.sipush 255, 3) := by decide +kernel
theorem dX9_letterOf_30 : decode cX9_letterOf 30 = .ok (.iand, 1) := by decide +kernel
theorem dX9_letterOf_31 : decode cX9_letterOf 31 = .ok (.ireturn, 1) := by decide +kernel
theorem dX6_putLetters_0 : decode cX6_putLetters 0 = .ok (.lload_n 1, 1) := by decide +kernel
theorem dX6_putLetters_1 : decode cX6_putLetters 1 = .ok (.invokestatic 28, 3) := by decide +kernel
theorem dX6_putLetters_4 : decode cX6_putLetters 4 = .ok (.istore_n 3, 1) := by decide +kernel
theorem dX6_putLetters_5 : decode cX6_putLetters 5 = .ok (.iconst 0, 1) := by decide +kernel
theorem dX6_putLetters_6 : decode cX6_putLetters 6 = .ok (.istore 4, 2) := by decide +kernel
theorem dX6_putLetters_8 : decode cX6_putLetters 8 = .ok (.iload 4, 2) := by decide +kernel
theorem dX6_putLetters_10 : decode cX6_putLetters 10 = .ok (.iload_n 3, 1) := by decide +kernel
theorem dX6_putLetters_11 : decode cX6_putLetters 11 = .ok (.if_icmp .ge 24, 3) := by decide +kernel
theorem dX6_putLetters_14 : decode cX6_putLetters 14 = .ok (.aload_n 0, 1) := by decide +kernel
theorem dX6_putLetters_15 : decode cX6_putLetters 15 = .ok (.getfield 10, 3) := by decide +kernel
theorem dX6_putLetters_18 : decode cX6_putLetters 18 = .ok (.lload_n 1, 1) := by decide +kernel
theorem dX6_putLetters_19 : decode cX6_putLetters 19 = .ok (.iload 4, 2) := by decide +kernel
theorem dX6_putLetters_21 : decode cX6_putLetters 21 = .ok (.invokestatic 34, 3) := by decide +kernel
theorem dX6_putLetters_24 : decode cX6_putLetters 24 = .ok (.i2c, 1) := by decide +kernel
theorem dX6_putLetters_25 : decode cX6_putLetters 25 = .ok (.invokevirtual 24, 3) := by decide +kernel
theorem dX6_putLetters_28 : decode cX6_putLetters 28 = .ok (.pop, 1) := by decide +kernel
theorem dX6_putLetters_29 : decode cX6_putLetters 29 = .ok (.iinc 4 1, 3) := by decide +kernel
theorem dX6_putLetters_32 : decode cX6_putLetters 32 = .ok (.goto (-24), 3) := by decide +kernel
theorem dX6_putLetters_35 : decode cX6_putLetters 35 = .ok (.return_, 1) := by decide +kernel
theorem dX6_putWord_0 : decode cX6_putWord 0 = .ok (.aload_n 0, 1) := by decide +kernel
theorem dX6_putWord_1 : decode cX6_putWord 1 = .ok (.invokevirtual 38, 3) := by decide +kernel
theorem dX6_putWord_4 : decode cX6_putWord 4 = .ok (.aload_n 0, 1) := by decide +kernel
theorem dX6_putWord_5 : decode cX6_putWord 5 = .ok (.lload_n 1, 1) := by decide +kernel
theorem dX6_putWord_6 : decode cX6_putWord 6 = .ok (.invokevirtual 41, 3) := by decide +kernel
theorem dX6_putWord_9 : decode cX6_putWord 9 = .ok (.return_, 1) := by decide +kernel
theorem dX6_putMarkedWord_0 : decode cX6_putMarkedWord 0 = .ok (.aload_n 0, 1) := by decide +kernel
theorem dX6_putMarkedWord_1 : decode cX6_putMarkedWord 1 = .ok (.invokevirtual 38, 3) := by decide +kernel
theorem dX6_putMarkedWord_4 : decode cX6_putMarkedWord 4 = .ok (.aload_n 0, 1) := by decide +kernel
theorem dX6_putMarkedWord_5 : decode cX6_putMarkedWord 5 = .ok (.getfield 10, 3) := by decide +kernel
theorem dX6_putMarkedWord_8 : decode cX6_putMarkedWord 8 = .ok (.iload_n 1, 1) := by decide +kernel
theorem dX6_putMarkedWord_9 : decode cX6_putMarkedWord 9 = .ok (.invokevirtual 24, 3) := by decide +kernel
theorem dX6_putMarkedWord_12 : decode cX6_putMarkedWord 12 = .ok (.pop, 1) := by decide +kernel
theorem dX6_putMarkedWord_13 : decode cX6_putMarkedWord 13 = .ok (.aload_n 0, 1) := by decide +kernel
theorem dX6_putMarkedWord_14 : decode cX6_putMarkedWord 14 = .ok (.lload_n 2, 1) := by decide +kernel
theorem dX6_putMarkedWord_15 : decode cX6_putMarkedWord 15 = .ok (.invokevirtual 41, 3) := by decide +kernel
theorem dX6_putMarkedWord_18 : decode cX6_putMarkedWord 18 = .ok (.return_, 1) := by decide +kernel
theorem dX6_putNumberedWord_0 : decode cX6_putNumberedWord 0 = .ok (.aload_n 0, 1) := by decide +kernel
theorem dX6_putNumberedWord_1 : decode cX6_putNumberedWord 1 = .ok (.invokevirtual 38, 3) := by decide +kernel
theorem dX6_putNumberedWord_4 : decode cX6_putNumberedWord 4 = .ok (.aload_n 0, 1) := by decide +kernel
theorem dX6_putNumberedWord_5 : decode cX6_putNumberedWord 5 = .ok (.getfield 10, 3) := by decide +kernel
theorem dX6_putNumberedWord_8 : decode cX6_putNumberedWord 8 = .ok (.iload_n 1, 1) := by decide +kernel
theorem dX6_putNumberedWord_9 : decode cX6_putNumberedWord 9 = .ok (.invokevirtual 45, 3) := by decide +kernel
theorem dX6_putNumberedWord_12 : decode cX6_putNumberedWord 12 = .ok (.pop, 1) := by decide +kernel
theorem dX6_putNumberedWord_13 : decode cX6_putNumberedWord 13 = .ok (.aload_n 0, 1) := by decide +kernel
theorem dX6_putNumberedWord_14 : decode cX6_putNumberedWord 14 = .ok (.getfield 10, 3) := by decide +kernel
theorem dX6_putNumberedWord_17 : decode cX6_putNumberedWord 17 = .ok (.bipush 58, 2) := by decide +kernel
theorem dX6_putNumberedWord_19 : decode cX6_putNumberedWord 19 = .ok (.invokevirtual 24, 3) := by decide +kernel
theorem dX6_putNumberedWord_22 : decode cX6_putNumberedWord 22 = .ok (.pop, 1) := by decide +kernel
theorem dX6_putNumberedWord_23 : decode cX6_putNumberedWord 23 = .ok (.aload_n 0, 1) := by decide +kernel
theorem dX6_putNumberedWord_24 : decode cX6_putNumberedWord 24 = .ok (.lload_n 2, 1) := by decide +kernel
theorem dX6_putNumberedWord_25 : decode cX6_putNumberedWord 25 = .ok (.invokevirtual 41, 3) := by decide +kernel
theorem dX6_putNumberedWord_28 : decode cX6_putNumberedWord 28 = .ok (.return_, 1) := by decide +kernel
theorem dX6_putSigns_0 : decode cX6_putSigns 0 = .ok (.iconst 0, 1) := by decide +kernel
theorem dX6_putSigns_1 : decode cX6_putSigns 1 = .ok (.istore_n 3, 1) := by decide +kernel
theorem dX6_putSigns_2 : decode cX6_putSigns 2 = .ok (.iload_n 3, 1) := by decide +kernel
theorem dX6_putSigns_3 : decode cX6_putSigns 3 = .ok (.iload_n 2, 1) := by decide +kernel
theorem dX6_putSigns_4 : decode cX6_putSigns 4 = .ok (.if_icmp .ge 22, 3) := by decide +kernel
theorem dX6_putSigns_7 : decode cX6_putSigns 7 = .ok (.aload_n 0, 1) := by decide +kernel
theorem dX6_putSigns_8 : decode cX6_putSigns 8 = .ok (.invokevirtual 38, 3) := by decide +kernel
theorem dX6_putSigns_11 : decode cX6_putSigns 11 = .ok (.aload_n 0, 1) := by decide +kernel
theorem dX6_putSigns_12 : decode cX6_putSigns 12 = .ok (.getfield 10, 3) := by decide +kernel
theorem dX6_putSigns_15 : decode cX6_putSigns 15 = .ok (.iload_n 1, 1) := by decide +kernel
theorem dX6_putSigns_16 : decode cX6_putSigns 16 = .ok (.invokevirtual 24, 3) := by decide +kernel
theorem dX6_putSigns_19 : decode cX6_putSigns 19 = .ok (.pop, 1) := by decide +kernel
theorem dX6_putSigns_20 : decode cX6_putSigns 20 = .ok (.iinc 3 1, 3) := by decide +kernel
theorem dX6_putSigns_23 : decode cX6_putSigns 23 = .ok (.goto (-21), 3) := by decide +kernel
theorem dX6_putSigns_26 : decode cX6_putSigns 26 = .ok (.return_, 1) := by decide +kernel
theorem dX8_clausesFrom_0 : decode cX8_clausesFrom 0 = .ok (.iconst 0, 1) := by decide +kernel
theorem dX8_clausesFrom_1 : decode cX8_clausesFrom 1 = .ok (.istore_n 3, 1) := by decide +kernel
theorem dX8_clausesFrom_2 : decode cX8_clausesFrom 2 = .ok (.iload_n 1, 1) := by decide +kernel
theorem dX8_clausesFrom_3 : decode cX8_clausesFrom 3 = .ok (.istore 4, 2) := by decide +kernel
theorem dX8_clausesFrom_5 : decode cX8_clausesFrom 5 = .ok (.iload 4, 2) := by decide +kernel
theorem dX8_clausesFrom_7 : decode cX8_clausesFrom 7 = .ok (.iload_n 1, 1) := by decide +kernel
theorem dX8_clausesFrom_8 : decode cX8_clausesFrom 8 = .ok (.iload_n 2, 1) := by decide +kernel
theorem dX8_clausesFrom_9 : decode cX8_clausesFrom 9 = .ok (.iadd, 1) := by decide +kernel
theorem dX8_clausesFrom_10 : decode cX8_clausesFrom 10 = .ok (.if_icmp .ge 19, 3) := by decide +kernel
theorem dX8_clausesFrom_13 : decode cX8_clausesFrom 13 = .ok (.iload_n 3, 1) := by decide +kernel
theorem dX8_clausesFrom_14 : decode cX8_clausesFrom 14 = .ok (.aload_n 0, 1) := by decide +kernel
theorem dX8_clausesFrom_15 : decode cX8_clausesFrom 15 = .ok (.getfield 15, 3) := by decide +kernel
theorem dX8_clausesFrom_18 : decode cX8_clausesFrom 18 = .ok (.iload 4, 2) := by decide +kernel
theorem dX8_clausesFrom_20 : decode cX8_clausesFrom 20 = .ok (.iaload, 1) := by decide +kernel
theorem dX8_clausesFrom_21 : decode cX8_clausesFrom 21 = .ok (.iadd, 1) := by decide +kernel
theorem dX8_clausesFrom_22 : decode cX8_clausesFrom 22 = .ok (.istore_n 3, 1) := by decide +kernel
theorem dX8_clausesFrom_23 : decode cX8_clausesFrom 23 = .ok (.iinc 4 1, 3) := by decide +kernel
theorem dX8_clausesFrom_26 : decode cX8_clausesFrom 26 = .ok (.goto (-21), 3) := by decide +kernel
theorem dX8_clausesFrom_29 : decode cX8_clausesFrom 29 = .ok (.iload_n 3, 1) := by decide +kernel
theorem dX8_clausesFrom_30 : decode cX8_clausesFrom 30 = .ok (.ireturn, 1) := by decide +kernel
theorem dX8_greatestDepth_0 : decode cX8_greatestDepth 0 = .ok (.iconst 0, 1) := by decide +kernel
theorem dX8_greatestDepth_1 : decode cX8_greatestDepth 1 = .ok (.istore_n 3, 1) := by decide +kernel
theorem dX8_greatestDepth_2 : decode cX8_greatestDepth 2 = .ok (.iconst 0, 1) := by decide +kernel
theorem dX8_greatestDepth_3 : decode cX8_greatestDepth 3 = .ok (.istore 4, 2) := by decide +kernel
theorem dX8_greatestDepth_5 : decode cX8_greatestDepth 5 = .ok (.iload_n 1, 1) := by decide +kernel
theorem dX8_greatestDepth_6 : decode cX8_greatestDepth 6 = .ok (.istore 5, 2) := by decide +kernel
theorem dX8_greatestDepth_8 : decode cX8_greatestDepth 8 = .ok (.iload 5, 2) := by decide +kernel
theorem dX8_greatestDepth_10 : decode cX8_greatestDepth 10 = .ok (.iload_n 1, 1) := by decide +kernel
theorem dX8_greatestDepth_11 : decode cX8_greatestDepth 11 = .ok (.iload_n 2, 1) := by decide +kernel
theorem dX8_greatestDepth_12 : decode cX8_greatestDepth 12 = .ok (.iadd, 1) := by decide +kernel
theorem dX8_greatestDepth_13 : decode cX8_greatestDepth 13 = .ok (.if_icmp .ge 40, 3) := by decide +kernel
theorem dX8_greatestDepth_16 : decode cX8_greatestDepth 16 = .ok (.iload 4, 2) := by decide +kernel
theorem dX8_greatestDepth_18 : decode cX8_greatestDepth 18 = .ok (.aload_n 0, 1) := by decide +kernel
theorem dX8_greatestDepth_19 : decode cX8_greatestDepth 19 = .ok (.getfield 15, 3) := by decide +kernel
theorem dX8_greatestDepth_22 : decode cX8_greatestDepth 22 = .ok (.iload 5, 2) := by decide +kernel
theorem dX8_greatestDepth_24 : decode cX8_greatestDepth 24 = .ok (.iaload, 1) := by decide +kernel
theorem dX8_greatestDepth_25 : decode cX8_greatestDepth 25 = .ok (.iadd, 1) := by decide +kernel
theorem dX8_greatestDepth_26 : decode cX8_greatestDepth 26 = .ok (.istore 4, 2) := by decide +kernel
theorem dX8_greatestDepth_28 : decode cX8_greatestDepth 28 = .ok (.iload_n 3, 1) := by decide +kernel
theorem dX8_greatestDepth_29 : decode cX8_greatestDepth 29 = .ok (.iload 4, 2) := by decide +kernel
theorem dX8_greatestDepth_31 : decode cX8_greatestDepth 31 = .ok (.invokestatic 59, 3) := by decide +kernel
theorem dX8_greatestDepth_34 : decode cX8_greatestDepth 34 = .ok (.istore_n 3, 1) := by decide +kernel
theorem dX8_greatestDepth_35 : decode cX8_greatestDepth 35 = .ok (.iload 4, 2) := by decide +kernel
theorem dX8_greatestDepth_37 : decode cX8_greatestDepth 37 = .ok (.aload_n 0, 1) := by decide +kernel
theorem dX8_greatestDepth_38 : decode cX8_greatestDepth 38 = .ok (.getfield 19, 3) := by decide +kernel
theorem dX8_greatestDepth_41 : decode cX8_greatestDepth 41 = .ok (.iload 5, 2) := by decide +kernel
theorem dX8_greatestDepth_43 : decode cX8_greatestDepth 43 = .ok (.iaload, 1) := by decide +kernel
theorem dX8_greatestDepth_44 : decode cX8_greatestDepth 44 = .ok (.isub, 1) := by decide +kernel
theorem dX8_greatestDepth_45 : decode cX8_greatestDepth 45 = .ok (.istore 4, 2) := by decide +kernel
theorem dX8_greatestDepth_47 : decode cX8_greatestDepth 47 = .ok (.iinc 5 1, 3) := by decide +kernel
theorem dX8_greatestDepth_50 : decode cX8_greatestDepth 50 = .ok (.goto (-42), 3) := by decide +kernel
theorem dX8_greatestDepth_53 : decode cX8_greatestDepth 53 = .ok (.iload_n 3, 1) := by decide +kernel
theorem dX8_greatestDepth_54 : decode cX8_greatestDepth 54 = .ok (.ireturn, 1) := by decide +kernel
set_option maxRecDepth 100000 in
set_option maxHeartbeats 4000000 in
theorem cX5_readLeafLinec {l : Launch} {v0 : Option Nat} {σ : HpT} {r : Bool} {σ' : HpT} (h : fX5_readLeafLine v0 σ = some (r, σ')) : IsK σ v0 5 ∧ Ct l yX5_readLeafLine cX5_readLeafLine 5 (some .boolean) 6 129 [va_rf v0] σ (.ok (some (.int (bI r)))) σ' 0 0 := by
  unfold fX5_readLeafLine at h
  replace h := bnP_s h
  obtain ⟨u, hk, h⟩ := h
  replace hk := isK_s hk
  refine ⟨hk, ?_⟩
  refine ct_start mi_X5_readLeafLine.1 rfl (al_le (al_1 (rf_cat _) al_n) (Nat.le_of_ble_eq_true rfl)) (ag_1 (rf_cat _) ag_n) (fun Δ Γ B hE hnm => ?_)
  refine g_aload_n B 0 dX5_readLeafLine_0 rfl rfl ?_
  refine g_ldcS B (j := 13) rfl dX5_readLeafLine_1 ?_
  replace h := bnP_s h
  obtain ⟨x1, h2, h⟩ := h
  refine g_callVs0 (st := []) B (cX5_isAtWordc h2) (Nat.le_of_ble_eq_true rfl) rfl rfl mi_X5_isAtWord lk_RX5_80 ⟨Nat.le_of_ble_eq_true rfl, Nat.le_of_ble_eq_true rfl⟩ rfl rfl (Nat.le_of_ble_eq_true rfl) dX5_readLeafLine_3 (Nat.zero_le _) (Nat.zero_le _) ?_
  refine g_istore_n B dX5_readLeafLine_6 rfl (Nat.le_of_ble_eq_true rfl) (s1_c (f1_1 rfl (rf_cat _) f1_n)) ?_
  refine g_aload_n B 1 dX5_readLeafLine_7 rfl rfl ?_
  refine g_ldcS B (j := 14) rfl dX5_readLeafLine_8 ?_
  replace h := bnP_s h
  obtain ⟨x3, h4, h⟩ := h
  refine g_callVs0 (st := []) B (cX5_isAtWordc h4) (Nat.le_of_ble_eq_true rfl) rfl rfl mi_X5_isAtWord lk_RX5_80 ⟨Nat.le_of_ble_eq_true rfl, Nat.le_of_ble_eq_true rfl⟩ rfl rfl (Nat.le_of_ble_eq_true rfl) dX5_readLeafLine_10 (Nat.zero_le _) (Nat.zero_le _) ?_
  refine g_istore_n B dX5_readLeafLine_13 rfl (Nat.le_of_ble_eq_true rfl) (s1_c (f1_1 rfl rfl (f1_k rfl f1_n))) ?_
  refine g_iload_n B 1 dX5_readLeafLine_14 rfl rfl ?_
  refine g_if_ne B 37 dX5_readLeafLine_15 (by decide) (fun hc => ?_) (fun hc => ?_)
  · replace h := ifp (bI1 hc) h
    refine g_aload_n B 2 dX5_readLeafLine_37 rfl rfl ?_
    replace h := bnP_s h
    obtain ⟨x5, h6, h⟩ := h
    refine g_getR B fl_RX5_28 (by decide) dX5_readLeafLine_38 h6 ?_
    replace h := bnP_s h
    obtain ⟨x7, h8, h⟩ := h
    refine g_getRg B fl_RX5_93 (by decide) dX5_readLeafLine_41 h8 ?_
    refine g_astore_n B dX5_readLeafLine_44 rfl (Nat.le_of_ble_eq_true rfl) (s1_c (f1_1 rfl rfl (f1_k rfl (f1_k rfl f1_n)))) ?_
    refine g_aload_n B 3 dX5_readLeafLine_45 rfl rfl ?_
    refine g_iconst (v := 0) B dX5_readLeafLine_46 (by decide) ?_
    refine g_aload_n B 0 dX5_readLeafLine_47 rfl rfl ?_
    replace h := bnP_s h
    obtain ⟨x9, h10, h⟩ := h
    refine g_getI B fl_RX5_240 (by decide) dX5_readLeafLine_48 h10 ?_
    refine g_iconst (v := 1) B dX5_readLeafLine_51 (by decide) ?_
    refine g_isub B dX5_readLeafLine_52 ?_
    replace h := bnS_s h
    obtain ⟨x11, s13, h12, h⟩ := h
    refine g_callVs0 (st := []) B (cX5_checkNextNumberc h12) (Nat.le_of_ble_eq_true rfl) rfl rfl mi_X5_checkNextNumber lk_RX5_84 ⟨Nat.le_of_ble_eq_true rfl, Nat.le_of_ble_eq_true rfl⟩ rfl rfl (Nat.le_of_ble_eq_true rfl) dX5_readLeafLine_53 (Nat.zero_le _) (Nat.zero_le _) ?_
    refine g_if_ne B 61 dX5_readLeafLine_56 (by decide) (fun hc => ?_) (fun hc => ?_)
    · replace h := ifp (bI1 hc) h
      refine g_aload_n B 3 dX5_readLeafLine_61 rfl rfl ?_
      replace h := bnP_s h
      obtain ⟨x14, h15, h⟩ := h
      refine g_getR B fl_RX5_12 (by decide) dX5_readLeafLine_62 h15 ?_
      replace h := bnP_s h
      obtain ⟨x16, h17, h⟩ := h
      refine g_getI B fl_RX5_72 (by decide) dX5_readLeafLine_65 h17 ?_
      refine g_istore B dX5_readLeafLine_68 (Nat.le_of_ble_eq_true rfl) (s1_c (f1_1 rfl (rf_cat _) (f1_k rfl (f1_k rfl (f1_k rfl f1_n))))) ?_
      refine g_iload_n B 3 dX5_readLeafLine_70 rfl rfl ?_
      refine g_if_eq B 92 dX5_readLeafLine_71 (by decide) (fun hc => ?_) (fun hc => ?_)
      · replace h := ifn (bI0 hc) h
        refine g_iload_n B 2 dX5_readLeafLine_92 rfl rfl ?_
        refine g_if_eq B 114 dX5_readLeafLine_93 (by decide) (fun hc => ?_) (fun hc => ?_)
        · replace h := ifn (bI0 hc) h
          refine g_iload_n B 3 dX5_readLeafLine_114 rfl rfl ?_
          refine g_if_ne B 140 dX5_readLeafLine_115 (by decide) (fun hc => ?_) (fun hc => ?_)
          · replace h := ifp (bI1 hc) h
            refine g_aload_n B 4 dX5_readLeafLine_140 rfl rfl ?_
            refine g_iconst (v := 3) B dX5_readLeafLine_141 (by decide) ?_
            replace h := bnS_s h
            obtain ⟨x18, s20, h19, h⟩ := h
            refine g_callVs0 (st := []) B (cX5_failc h19) (Nat.le_of_ble_eq_true rfl) rfl rfl mi_X5_fail lk_RX5_51 ⟨Nat.le_of_ble_eq_true rfl, Nat.le_of_ble_eq_true rfl⟩ rfl rfl (Nat.le_of_ble_eq_true rfl) dX5_readLeafLine_142 (Nat.zero_le _) (Nat.zero_le _) ?_
            obtain ⟨w1, w2⟩ := inS h
            clear h
            subst w1
            subst w2
            exact g_zret B hE (nar_bI _) (Nat.zero_le _) (Nat.zero_le _) dX5_readLeafLine_145
          · replace h := ifn (bI0 hc) h
            refine g_iload_n B 2 dX5_readLeafLine_118 rfl rfl ?_
            refine g_if_ne B 140 dX5_readLeafLine_119 (by decide) (fun hc => ?_) (fun hc => ?_)
            · replace h := ifp (bI1 hc) h
              refine g_aload_n B 4 dX5_readLeafLine_140 rfl rfl ?_
              refine g_iconst (v := 3) B dX5_readLeafLine_141 (by decide) ?_
              replace h := bnS_s h
              obtain ⟨x21, s23, h22, h⟩ := h
              refine g_callVs0 (st := []) B (cX5_failc h22) (Nat.le_of_ble_eq_true rfl) rfl rfl mi_X5_fail lk_RX5_51 ⟨Nat.le_of_ble_eq_true rfl, Nat.le_of_ble_eq_true rfl⟩ rfl rfl (Nat.le_of_ble_eq_true rfl) dX5_readLeafLine_142 (Nat.zero_le _) (Nat.zero_le _) ?_
              obtain ⟨w1, w2⟩ := inS h
              clear h
              subst w1
              subst w2
              exact g_zret B hE (nar_bI _) (Nat.zero_le _) (Nat.zero_le _) dX5_readLeafLine_145
            · replace h := ifn (bI0 hc) h
              refine g_aload_n B 1 dX5_readLeafLine_122 rfl rfl ?_
              refine g_iload B 0 dX5_readLeafLine_123 rfl ?_
              replace h := bnP_s h
              obtain ⟨x24, h25, h⟩ := h
              refine g_callVs0 (st := []) B (cX4_isLoosec h25) (Nat.le_of_ble_eq_true rfl) rfl rfl mi_X4_isLoose lk_RX5_250 ⟨Nat.le_of_ble_eq_true rfl, Nat.le_of_ble_eq_true rfl⟩ rfl rfl (Nat.le_of_ble_eq_true rfl) dX5_readLeafLine_125 (Nat.zero_le _) (Nat.zero_le _) ?_
              refine g_if_eq B 140 dX5_readLeafLine_128 (by decide) (fun hc => ?_) (fun hc => ?_)
              · replace h := ifn (bI0 hc) h
                refine g_aload_n B 4 dX5_readLeafLine_140 rfl rfl ?_
                refine g_iconst (v := 3) B dX5_readLeafLine_141 (by decide) ?_
                replace h := bnS_s h
                obtain ⟨x26, s28, h27, h⟩ := h
                refine g_callVs0 (st := []) B (cX5_failc h27) (Nat.le_of_ble_eq_true rfl) rfl rfl mi_X5_fail lk_RX5_51 ⟨Nat.le_of_ble_eq_true rfl, Nat.le_of_ble_eq_true rfl⟩ rfl rfl (Nat.le_of_ble_eq_true rfl) dX5_readLeafLine_142 (Nat.zero_le _) (Nat.zero_le _) ?_
                obtain ⟨w1, w2⟩ := inS h
                clear h
                subst w1
                subst w2
                exact g_zret B hE (nar_bI _) (Nat.zero_le _) (Nat.zero_le _) dX5_readLeafLine_145
              · replace h := ifp (bI1 hc) h
                refine g_aload_n B 1 dX5_readLeafLine_131 rfl rfl ?_
                refine g_iload B 0 dX5_readLeafLine_132 rfl ?_
                replace h := bnP_s h
                obtain ⟨s31, h30, h⟩ := h
                refine g_callVv0 (st := []) B (cX4_fastenc h30) (Nat.le_of_ble_eq_true rfl) rfl rfl mi_X4_fasten lk_RX5_253 ⟨Nat.le_of_ble_eq_true rfl, Nat.le_of_ble_eq_true rfl⟩ rfl rfl (Nat.le_of_ble_eq_true rfl) dX5_readLeafLine_134 (Nat.zero_le _) (Nat.zero_le _) ?_
                refine g_goto B 146 dX5_readLeafLine_137 (by decide) ?_
                refine g_aload_n B 4 dX5_readLeafLine_146 rfl rfl ?_
                replace h := bnS_s h
                obtain ⟨x32, s34, h33, h⟩ := h
                refine g_callVs0 (st := []) B (cX5_finishLinec h33) (Nat.le_of_ble_eq_true rfl) rfl rfl mi_X5_finishLine lk_RX5_102 ⟨Nat.le_of_ble_eq_true rfl, Nat.le_of_ble_eq_true rfl⟩ rfl rfl (Nat.le_of_ble_eq_true rfl) dX5_readLeafLine_147 (Nat.zero_le _) (Nat.zero_le _) ?_
                obtain ⟨w1, w2⟩ := inS h
                clear h
                subst w1
                subst w2
                exact g_zret B hE (nar_bI _) (Nat.zero_le _) (Nat.zero_le _) dX5_readLeafLine_150
        · replace h := ifp (bI1 hc) h
          refine g_aload_n B 1 dX5_readLeafLine_96 rfl rfl ?_
          refine g_iload B 0 dX5_readLeafLine_97 rfl ?_
          replace h := bnP_s h
          obtain ⟨x35, h36, h⟩ := h
          refine g_callVs0 (st := []) B (cX4_isLostc h36) (Nat.le_of_ble_eq_true rfl) rfl rfl mi_X4_isLost lk_RX5_241 ⟨Nat.le_of_ble_eq_true rfl, Nat.le_of_ble_eq_true rfl⟩ rfl rfl (Nat.le_of_ble_eq_true rfl) dX5_readLeafLine_99 (Nat.zero_le _) (Nat.zero_le _) ?_
          refine g_if_eq B 114 dX5_readLeafLine_102 (by decide) (fun hc => ?_) (fun hc => ?_)
          · replace h := ifn (bI0 hc) h
            refine g_iload_n B 3 dX5_readLeafLine_114 rfl rfl ?_
            refine g_if_ne B 140 dX5_readLeafLine_115 (by decide) (fun hc => ?_) (fun hc => ?_)
            · replace h := ifp (bI1 hc) h
              refine g_aload_n B 4 dX5_readLeafLine_140 rfl rfl ?_
              refine g_iconst (v := 3) B dX5_readLeafLine_141 (by decide) ?_
              replace h := bnS_s h
              obtain ⟨x37, s39, h38, h⟩ := h
              refine g_callVs0 (st := []) B (cX5_failc h38) (Nat.le_of_ble_eq_true rfl) rfl rfl mi_X5_fail lk_RX5_51 ⟨Nat.le_of_ble_eq_true rfl, Nat.le_of_ble_eq_true rfl⟩ rfl rfl (Nat.le_of_ble_eq_true rfl) dX5_readLeafLine_142 (Nat.zero_le _) (Nat.zero_le _) ?_
              obtain ⟨w1, w2⟩ := inS h
              clear h
              subst w1
              subst w2
              exact g_zret B hE (nar_bI _) (Nat.zero_le _) (Nat.zero_le _) dX5_readLeafLine_145
            · replace h := ifn (bI0 hc) h
              refine g_iload_n B 2 dX5_readLeafLine_118 rfl rfl ?_
              refine g_if_ne B 140 dX5_readLeafLine_119 (by decide) (fun hc => ?_) (fun hc => ?_)
              · replace h := ifp (bI1 hc) h
                refine g_aload_n B 4 dX5_readLeafLine_140 rfl rfl ?_
                refine g_iconst (v := 3) B dX5_readLeafLine_141 (by decide) ?_
                replace h := bnS_s h
                obtain ⟨x40, s42, h41, h⟩ := h
                refine g_callVs0 (st := []) B (cX5_failc h41) (Nat.le_of_ble_eq_true rfl) rfl rfl mi_X5_fail lk_RX5_51 ⟨Nat.le_of_ble_eq_true rfl, Nat.le_of_ble_eq_true rfl⟩ rfl rfl (Nat.le_of_ble_eq_true rfl) dX5_readLeafLine_142 (Nat.zero_le _) (Nat.zero_le _) ?_
                obtain ⟨w1, w2⟩ := inS h
                clear h
                subst w1
                subst w2
                exact g_zret B hE (nar_bI _) (Nat.zero_le _) (Nat.zero_le _) dX5_readLeafLine_145
              · replace h := ifn (bI0 hc) h
                refine g_aload_n B 1 dX5_readLeafLine_122 rfl rfl ?_
                refine g_iload B 0 dX5_readLeafLine_123 rfl ?_
                replace h := bnP_s h
                obtain ⟨x43, h44, h⟩ := h
                refine g_callVs0 (st := []) B (cX4_isLoosec h44) (Nat.le_of_ble_eq_true rfl) rfl rfl mi_X4_isLoose lk_RX5_250 ⟨Nat.le_of_ble_eq_true rfl, Nat.le_of_ble_eq_true rfl⟩ rfl rfl (Nat.le_of_ble_eq_true rfl) dX5_readLeafLine_125 (Nat.zero_le _) (Nat.zero_le _) ?_
                refine g_if_eq B 140 dX5_readLeafLine_128 (by decide) (fun hc => ?_) (fun hc => ?_)
                · replace h := ifn (bI0 hc) h
                  refine g_aload_n B 4 dX5_readLeafLine_140 rfl rfl ?_
                  refine g_iconst (v := 3) B dX5_readLeafLine_141 (by decide) ?_
                  replace h := bnS_s h
                  obtain ⟨x45, s47, h46, h⟩ := h
                  refine g_callVs0 (st := []) B (cX5_failc h46) (Nat.le_of_ble_eq_true rfl) rfl rfl mi_X5_fail lk_RX5_51 ⟨Nat.le_of_ble_eq_true rfl, Nat.le_of_ble_eq_true rfl⟩ rfl rfl (Nat.le_of_ble_eq_true rfl) dX5_readLeafLine_142 (Nat.zero_le _) (Nat.zero_le _) ?_
                  obtain ⟨w1, w2⟩ := inS h
                  clear h
                  subst w1
                  subst w2
                  exact g_zret B hE (nar_bI _) (Nat.zero_le _) (Nat.zero_le _) dX5_readLeafLine_145
                · replace h := ifp (bI1 hc) h
                  refine g_aload_n B 1 dX5_readLeafLine_131 rfl rfl ?_
                  refine g_iload B 0 dX5_readLeafLine_132 rfl ?_
                  replace h := bnP_s h
                  obtain ⟨s50, h49, h⟩ := h
                  refine g_callVv0 (st := []) B (cX4_fastenc h49) (Nat.le_of_ble_eq_true rfl) rfl rfl mi_X4_fasten lk_RX5_253 ⟨Nat.le_of_ble_eq_true rfl, Nat.le_of_ble_eq_true rfl⟩ rfl rfl (Nat.le_of_ble_eq_true rfl) dX5_readLeafLine_134 (Nat.zero_le _) (Nat.zero_le _) ?_
                  refine g_goto B 146 dX5_readLeafLine_137 (by decide) ?_
                  refine g_aload_n B 4 dX5_readLeafLine_146 rfl rfl ?_
                  replace h := bnS_s h
                  obtain ⟨x51, s53, h52, h⟩ := h
                  refine g_callVs0 (st := []) B (cX5_finishLinec h52) (Nat.le_of_ble_eq_true rfl) rfl rfl mi_X5_finishLine lk_RX5_102 ⟨Nat.le_of_ble_eq_true rfl, Nat.le_of_ble_eq_true rfl⟩ rfl rfl (Nat.le_of_ble_eq_true rfl) dX5_readLeafLine_147 (Nat.zero_le _) (Nat.zero_le _) ?_
                  obtain ⟨w1, w2⟩ := inS h
                  clear h
                  subst w1
                  subst w2
                  exact g_zret B hE (nar_bI _) (Nat.zero_le _) (Nat.zero_le _) dX5_readLeafLine_150
          · replace h := ifp (bI1 hc) h
            refine g_aload_n B 1 dX5_readLeafLine_105 rfl rfl ?_
            refine g_iload B 0 dX5_readLeafLine_106 rfl ?_
            replace h := bnP_s h
            obtain ⟨s56, h55, h⟩ := h
            refine g_callVv0 (st := []) B (cX4_bringBackc h55) (Nat.le_of_ble_eq_true rfl) rfl rfl mi_X4_bringBack lk_RX5_247 ⟨Nat.le_of_ble_eq_true rfl, Nat.le_of_ble_eq_true rfl⟩ rfl rfl (Nat.le_of_ble_eq_true rfl) dX5_readLeafLine_108 (Nat.zero_le _) (Nat.zero_le _) ?_
            refine g_goto B 146 dX5_readLeafLine_111 (by decide) ?_
            refine g_aload_n B 4 dX5_readLeafLine_146 rfl rfl ?_
            replace h := bnS_s h
            obtain ⟨x57, s59, h58, h⟩ := h
            refine g_callVs0 (st := []) B (cX5_finishLinec h58) (Nat.le_of_ble_eq_true rfl) rfl rfl mi_X5_finishLine lk_RX5_102 ⟨Nat.le_of_ble_eq_true rfl, Nat.le_of_ble_eq_true rfl⟩ rfl rfl (Nat.le_of_ble_eq_true rfl) dX5_readLeafLine_147 (Nat.zero_le _) (Nat.zero_le _) ?_
            obtain ⟨w1, w2⟩ := inS h
            clear h
            subst w1
            subst w2
            exact g_zret B hE (nar_bI _) (Nat.zero_le _) (Nat.zero_le _) dX5_readLeafLine_150
      · replace h := ifp (bI1 hc) h
        refine g_aload_n B 1 dX5_readLeafLine_74 rfl rfl ?_
        refine g_iload B 0 dX5_readLeafLine_75 rfl ?_
        replace h := bnP_s h
        obtain ⟨x60, h61, h⟩ := h
        refine g_callVs0 (st := []) B (cX4_isLostc h61) (Nat.le_of_ble_eq_true rfl) rfl rfl mi_X4_isLost lk_RX5_241 ⟨Nat.le_of_ble_eq_true rfl, Nat.le_of_ble_eq_true rfl⟩ rfl rfl (Nat.le_of_ble_eq_true rfl) dX5_readLeafLine_77 (Nat.zero_le _) (Nat.zero_le _) ?_
        refine g_if_ne B 92 dX5_readLeafLine_80 (by decide) (fun hc => ?_) (fun hc => ?_)
        · replace h := ifp (bI1 hc) h
          refine g_iload_n B 2 dX5_readLeafLine_92 rfl rfl ?_
          refine g_if_eq B 114 dX5_readLeafLine_93 (by decide) (fun hc => ?_) (fun hc => ?_)
          · replace h := ifn (bI0 hc) h
            refine g_iload_n B 3 dX5_readLeafLine_114 rfl rfl ?_
            refine g_if_ne B 140 dX5_readLeafLine_115 (by decide) (fun hc => ?_) (fun hc => ?_)
            · replace h := ifp (bI1 hc) h
              refine g_aload_n B 4 dX5_readLeafLine_140 rfl rfl ?_
              refine g_iconst (v := 3) B dX5_readLeafLine_141 (by decide) ?_
              replace h := bnS_s h
              obtain ⟨x62, s64, h63, h⟩ := h
              refine g_callVs0 (st := []) B (cX5_failc h63) (Nat.le_of_ble_eq_true rfl) rfl rfl mi_X5_fail lk_RX5_51 ⟨Nat.le_of_ble_eq_true rfl, Nat.le_of_ble_eq_true rfl⟩ rfl rfl (Nat.le_of_ble_eq_true rfl) dX5_readLeafLine_142 (Nat.zero_le _) (Nat.zero_le _) ?_
              obtain ⟨w1, w2⟩ := inS h
              clear h
              subst w1
              subst w2
              exact g_zret B hE (nar_bI _) (Nat.zero_le _) (Nat.zero_le _) dX5_readLeafLine_145
            · replace h := ifn (bI0 hc) h
              refine g_iload_n B 2 dX5_readLeafLine_118 rfl rfl ?_
              refine g_if_ne B 140 dX5_readLeafLine_119 (by decide) (fun hc => ?_) (fun hc => ?_)
              · replace h := ifp (bI1 hc) h
                refine g_aload_n B 4 dX5_readLeafLine_140 rfl rfl ?_
                refine g_iconst (v := 3) B dX5_readLeafLine_141 (by decide) ?_
                replace h := bnS_s h
                obtain ⟨x65, s67, h66, h⟩ := h
                refine g_callVs0 (st := []) B (cX5_failc h66) (Nat.le_of_ble_eq_true rfl) rfl rfl mi_X5_fail lk_RX5_51 ⟨Nat.le_of_ble_eq_true rfl, Nat.le_of_ble_eq_true rfl⟩ rfl rfl (Nat.le_of_ble_eq_true rfl) dX5_readLeafLine_142 (Nat.zero_le _) (Nat.zero_le _) ?_
                obtain ⟨w1, w2⟩ := inS h
                clear h
                subst w1
                subst w2
                exact g_zret B hE (nar_bI _) (Nat.zero_le _) (Nat.zero_le _) dX5_readLeafLine_145
              · replace h := ifn (bI0 hc) h
                refine g_aload_n B 1 dX5_readLeafLine_122 rfl rfl ?_
                refine g_iload B 0 dX5_readLeafLine_123 rfl ?_
                replace h := bnP_s h
                obtain ⟨x68, h69, h⟩ := h
                refine g_callVs0 (st := []) B (cX4_isLoosec h69) (Nat.le_of_ble_eq_true rfl) rfl rfl mi_X4_isLoose lk_RX5_250 ⟨Nat.le_of_ble_eq_true rfl, Nat.le_of_ble_eq_true rfl⟩ rfl rfl (Nat.le_of_ble_eq_true rfl) dX5_readLeafLine_125 (Nat.zero_le _) (Nat.zero_le _) ?_
                refine g_if_eq B 140 dX5_readLeafLine_128 (by decide) (fun hc => ?_) (fun hc => ?_)
                · replace h := ifn (bI0 hc) h
                  refine g_aload_n B 4 dX5_readLeafLine_140 rfl rfl ?_
                  refine g_iconst (v := 3) B dX5_readLeafLine_141 (by decide) ?_
                  replace h := bnS_s h
                  obtain ⟨x70, s72, h71, h⟩ := h
                  refine g_callVs0 (st := []) B (cX5_failc h71) (Nat.le_of_ble_eq_true rfl) rfl rfl mi_X5_fail lk_RX5_51 ⟨Nat.le_of_ble_eq_true rfl, Nat.le_of_ble_eq_true rfl⟩ rfl rfl (Nat.le_of_ble_eq_true rfl) dX5_readLeafLine_142 (Nat.zero_le _) (Nat.zero_le _) ?_
                  obtain ⟨w1, w2⟩ := inS h
                  clear h
                  subst w1
                  subst w2
                  exact g_zret B hE (nar_bI _) (Nat.zero_le _) (Nat.zero_le _) dX5_readLeafLine_145
                · replace h := ifp (bI1 hc) h
                  refine g_aload_n B 1 dX5_readLeafLine_131 rfl rfl ?_
                  refine g_iload B 0 dX5_readLeafLine_132 rfl ?_
                  replace h := bnP_s h
                  obtain ⟨s75, h74, h⟩ := h
                  refine g_callVv0 (st := []) B (cX4_fastenc h74) (Nat.le_of_ble_eq_true rfl) rfl rfl mi_X4_fasten lk_RX5_253 ⟨Nat.le_of_ble_eq_true rfl, Nat.le_of_ble_eq_true rfl⟩ rfl rfl (Nat.le_of_ble_eq_true rfl) dX5_readLeafLine_134 (Nat.zero_le _) (Nat.zero_le _) ?_
                  refine g_goto B 146 dX5_readLeafLine_137 (by decide) ?_
                  refine g_aload_n B 4 dX5_readLeafLine_146 rfl rfl ?_
                  replace h := bnS_s h
                  obtain ⟨x76, s78, h77, h⟩ := h
                  refine g_callVs0 (st := []) B (cX5_finishLinec h77) (Nat.le_of_ble_eq_true rfl) rfl rfl mi_X5_finishLine lk_RX5_102 ⟨Nat.le_of_ble_eq_true rfl, Nat.le_of_ble_eq_true rfl⟩ rfl rfl (Nat.le_of_ble_eq_true rfl) dX5_readLeafLine_147 (Nat.zero_le _) (Nat.zero_le _) ?_
                  obtain ⟨w1, w2⟩ := inS h
                  clear h
                  subst w1
                  subst w2
                  exact g_zret B hE (nar_bI _) (Nat.zero_le _) (Nat.zero_le _) dX5_readLeafLine_150
          · replace h := ifp (bI1 hc) h
            refine g_aload_n B 1 dX5_readLeafLine_96 rfl rfl ?_
            refine g_iload B 0 dX5_readLeafLine_97 rfl ?_
            replace h := bnP_s h
            obtain ⟨x79, h80, h⟩ := h
            refine g_callVs0 (st := []) B (cX4_isLostc h80) (Nat.le_of_ble_eq_true rfl) rfl rfl mi_X4_isLost lk_RX5_241 ⟨Nat.le_of_ble_eq_true rfl, Nat.le_of_ble_eq_true rfl⟩ rfl rfl (Nat.le_of_ble_eq_true rfl) dX5_readLeafLine_99 (Nat.zero_le _) (Nat.zero_le _) ?_
            refine g_if_eq B 114 dX5_readLeafLine_102 (by decide) (fun hc => ?_) (fun hc => ?_)
            · replace h := ifn (bI0 hc) h
              refine g_iload_n B 3 dX5_readLeafLine_114 rfl rfl ?_
              refine g_if_ne B 140 dX5_readLeafLine_115 (by decide) (fun hc => ?_) (fun hc => ?_)
              · replace h := ifp (bI1 hc) h
                refine g_aload_n B 4 dX5_readLeafLine_140 rfl rfl ?_
                refine g_iconst (v := 3) B dX5_readLeafLine_141 (by decide) ?_
                replace h := bnS_s h
                obtain ⟨x81, s83, h82, h⟩ := h
                refine g_callVs0 (st := []) B (cX5_failc h82) (Nat.le_of_ble_eq_true rfl) rfl rfl mi_X5_fail lk_RX5_51 ⟨Nat.le_of_ble_eq_true rfl, Nat.le_of_ble_eq_true rfl⟩ rfl rfl (Nat.le_of_ble_eq_true rfl) dX5_readLeafLine_142 (Nat.zero_le _) (Nat.zero_le _) ?_
                obtain ⟨w1, w2⟩ := inS h
                clear h
                subst w1
                subst w2
                exact g_zret B hE (nar_bI _) (Nat.zero_le _) (Nat.zero_le _) dX5_readLeafLine_145
              · replace h := ifn (bI0 hc) h
                refine g_iload_n B 2 dX5_readLeafLine_118 rfl rfl ?_
                refine g_if_ne B 140 dX5_readLeafLine_119 (by decide) (fun hc => ?_) (fun hc => ?_)
                · replace h := ifp (bI1 hc) h
                  refine g_aload_n B 4 dX5_readLeafLine_140 rfl rfl ?_
                  refine g_iconst (v := 3) B dX5_readLeafLine_141 (by decide) ?_
                  replace h := bnS_s h
                  obtain ⟨x84, s86, h85, h⟩ := h
                  refine g_callVs0 (st := []) B (cX5_failc h85) (Nat.le_of_ble_eq_true rfl) rfl rfl mi_X5_fail lk_RX5_51 ⟨Nat.le_of_ble_eq_true rfl, Nat.le_of_ble_eq_true rfl⟩ rfl rfl (Nat.le_of_ble_eq_true rfl) dX5_readLeafLine_142 (Nat.zero_le _) (Nat.zero_le _) ?_
                  obtain ⟨w1, w2⟩ := inS h
                  clear h
                  subst w1
                  subst w2
                  exact g_zret B hE (nar_bI _) (Nat.zero_le _) (Nat.zero_le _) dX5_readLeafLine_145
                · replace h := ifn (bI0 hc) h
                  refine g_aload_n B 1 dX5_readLeafLine_122 rfl rfl ?_
                  refine g_iload B 0 dX5_readLeafLine_123 rfl ?_
                  replace h := bnP_s h
                  obtain ⟨x87, h88, h⟩ := h
                  refine g_callVs0 (st := []) B (cX4_isLoosec h88) (Nat.le_of_ble_eq_true rfl) rfl rfl mi_X4_isLoose lk_RX5_250 ⟨Nat.le_of_ble_eq_true rfl, Nat.le_of_ble_eq_true rfl⟩ rfl rfl (Nat.le_of_ble_eq_true rfl) dX5_readLeafLine_125 (Nat.zero_le _) (Nat.zero_le _) ?_
                  refine g_if_eq B 140 dX5_readLeafLine_128 (by decide) (fun hc => ?_) (fun hc => ?_)
                  · replace h := ifn (bI0 hc) h
                    refine g_aload_n B 4 dX5_readLeafLine_140 rfl rfl ?_
                    refine g_iconst (v := 3) B dX5_readLeafLine_141 (by decide) ?_
                    replace h := bnS_s h
                    obtain ⟨x89, s91, h90, h⟩ := h
                    refine g_callVs0 (st := []) B (cX5_failc h90) (Nat.le_of_ble_eq_true rfl) rfl rfl mi_X5_fail lk_RX5_51 ⟨Nat.le_of_ble_eq_true rfl, Nat.le_of_ble_eq_true rfl⟩ rfl rfl (Nat.le_of_ble_eq_true rfl) dX5_readLeafLine_142 (Nat.zero_le _) (Nat.zero_le _) ?_
                    obtain ⟨w1, w2⟩ := inS h
                    clear h
                    subst w1
                    subst w2
                    exact g_zret B hE (nar_bI _) (Nat.zero_le _) (Nat.zero_le _) dX5_readLeafLine_145
                  · replace h := ifp (bI1 hc) h
                    refine g_aload_n B 1 dX5_readLeafLine_131 rfl rfl ?_
                    refine g_iload B 0 dX5_readLeafLine_132 rfl ?_
                    replace h := bnP_s h
                    obtain ⟨s94, h93, h⟩ := h
                    refine g_callVv0 (st := []) B (cX4_fastenc h93) (Nat.le_of_ble_eq_true rfl) rfl rfl mi_X4_fasten lk_RX5_253 ⟨Nat.le_of_ble_eq_true rfl, Nat.le_of_ble_eq_true rfl⟩ rfl rfl (Nat.le_of_ble_eq_true rfl) dX5_readLeafLine_134 (Nat.zero_le _) (Nat.zero_le _) ?_
                    refine g_goto B 146 dX5_readLeafLine_137 (by decide) ?_
                    refine g_aload_n B 4 dX5_readLeafLine_146 rfl rfl ?_
                    replace h := bnS_s h
                    obtain ⟨x95, s97, h96, h⟩ := h
                    refine g_callVs0 (st := []) B (cX5_finishLinec h96) (Nat.le_of_ble_eq_true rfl) rfl rfl mi_X5_finishLine lk_RX5_102 ⟨Nat.le_of_ble_eq_true rfl, Nat.le_of_ble_eq_true rfl⟩ rfl rfl (Nat.le_of_ble_eq_true rfl) dX5_readLeafLine_147 (Nat.zero_le _) (Nat.zero_le _) ?_
                    obtain ⟨w1, w2⟩ := inS h
                    clear h
                    subst w1
                    subst w2
                    exact g_zret B hE (nar_bI _) (Nat.zero_le _) (Nat.zero_le _) dX5_readLeafLine_150
            · replace h := ifp (bI1 hc) h
              refine g_aload_n B 1 dX5_readLeafLine_105 rfl rfl ?_
              refine g_iload B 0 dX5_readLeafLine_106 rfl ?_
              replace h := bnP_s h
              obtain ⟨s100, h99, h⟩ := h
              refine g_callVv0 (st := []) B (cX4_bringBackc h99) (Nat.le_of_ble_eq_true rfl) rfl rfl mi_X4_bringBack lk_RX5_247 ⟨Nat.le_of_ble_eq_true rfl, Nat.le_of_ble_eq_true rfl⟩ rfl rfl (Nat.le_of_ble_eq_true rfl) dX5_readLeafLine_108 (Nat.zero_le _) (Nat.zero_le _) ?_
              refine g_goto B 146 dX5_readLeafLine_111 (by decide) ?_
              refine g_aload_n B 4 dX5_readLeafLine_146 rfl rfl ?_
              replace h := bnS_s h
              obtain ⟨x101, s103, h102, h⟩ := h
              refine g_callVs0 (st := []) B (cX5_finishLinec h102) (Nat.le_of_ble_eq_true rfl) rfl rfl mi_X5_finishLine lk_RX5_102 ⟨Nat.le_of_ble_eq_true rfl, Nat.le_of_ble_eq_true rfl⟩ rfl rfl (Nat.le_of_ble_eq_true rfl) dX5_readLeafLine_147 (Nat.zero_le _) (Nat.zero_le _) ?_
              obtain ⟨w1, w2⟩ := inS h
              clear h
              subst w1
              subst w2
              exact g_zret B hE (nar_bI _) (Nat.zero_le _) (Nat.zero_le _) dX5_readLeafLine_150
        · replace h := ifn (bI0 hc) h
          refine g_aload_n B 1 dX5_readLeafLine_83 rfl rfl ?_
          refine g_iload B 0 dX5_readLeafLine_84 rfl ?_
          replace h := bnP_s h
          obtain ⟨s106, h105, h⟩ := h
          refine g_callVv0 (st := []) B (cX4_dropc h105) (Nat.le_of_ble_eq_true rfl) rfl rfl mi_X4_drop lk_RX5_244 ⟨Nat.le_of_ble_eq_true rfl, Nat.le_of_ble_eq_true rfl⟩ rfl rfl (Nat.le_of_ble_eq_true rfl) dX5_readLeafLine_86 (Nat.zero_le _) (Nat.zero_le _) ?_
          refine g_goto B 146 dX5_readLeafLine_89 (by decide) ?_
          refine g_aload_n B 4 dX5_readLeafLine_146 rfl rfl ?_
          replace h := bnS_s h
          obtain ⟨x107, s109, h108, h⟩ := h
          refine g_callVs0 (st := []) B (cX5_finishLinec h108) (Nat.le_of_ble_eq_true rfl) rfl rfl mi_X5_finishLine lk_RX5_102 ⟨Nat.le_of_ble_eq_true rfl, Nat.le_of_ble_eq_true rfl⟩ rfl rfl (Nat.le_of_ble_eq_true rfl) dX5_readLeafLine_147 (Nat.zero_le _) (Nat.zero_le _) ?_
          obtain ⟨w1, w2⟩ := inS h
          clear h
          subst w1
          subst w2
          exact g_zret B hE (nar_bI _) (Nat.zero_le _) (Nat.zero_le _) dX5_readLeafLine_150
    · replace h := ifn (bI0 hc) h
      refine g_iconst (v := 0) B dX5_readLeafLine_59 (by decide) ?_
      obtain ⟨w1, w2⟩ := inS h
      clear h
      subst w1
      subst w2
      exact g_zret B hE rfl (Nat.zero_le _) (Nat.zero_le _) dX5_readLeafLine_60
  · replace h := ifn (bI0 hc) h
    refine g_iload_n B 0 dX5_readLeafLine_18 rfl rfl ?_
    refine g_if_ne B 37 dX5_readLeafLine_19 (by decide) (fun hc => ?_) (fun hc => ?_)
    · replace h := ifp (bI1 hc) h
      refine g_aload_n B 2 dX5_readLeafLine_37 rfl rfl ?_
      replace h := bnP_s h
      obtain ⟨x110, h111, h⟩ := h
      refine g_getR B fl_RX5_28 (by decide) dX5_readLeafLine_38 h111 ?_
      replace h := bnP_s h
      obtain ⟨x112, h113, h⟩ := h
      refine g_getRg B fl_RX5_93 (by decide) dX5_readLeafLine_41 h113 ?_
      refine g_astore_n B dX5_readLeafLine_44 rfl (Nat.le_of_ble_eq_true rfl) (s1_c (f1_1 rfl rfl (f1_k rfl (f1_k rfl f1_n)))) ?_
      refine g_aload_n B 3 dX5_readLeafLine_45 rfl rfl ?_
      refine g_iconst (v := 0) B dX5_readLeafLine_46 (by decide) ?_
      refine g_aload_n B 0 dX5_readLeafLine_47 rfl rfl ?_
      replace h := bnP_s h
      obtain ⟨x114, h115, h⟩ := h
      refine g_getI B fl_RX5_240 (by decide) dX5_readLeafLine_48 h115 ?_
      refine g_iconst (v := 1) B dX5_readLeafLine_51 (by decide) ?_
      refine g_isub B dX5_readLeafLine_52 ?_
      replace h := bnS_s h
      obtain ⟨x116, s118, h117, h⟩ := h
      refine g_callVs0 (st := []) B (cX5_checkNextNumberc h117) (Nat.le_of_ble_eq_true rfl) rfl rfl mi_X5_checkNextNumber lk_RX5_84 ⟨Nat.le_of_ble_eq_true rfl, Nat.le_of_ble_eq_true rfl⟩ rfl rfl (Nat.le_of_ble_eq_true rfl) dX5_readLeafLine_53 (Nat.zero_le _) (Nat.zero_le _) ?_
      refine g_if_ne B 61 dX5_readLeafLine_56 (by decide) (fun hc => ?_) (fun hc => ?_)
      · replace h := ifp (bI1 hc) h
        refine g_aload_n B 3 dX5_readLeafLine_61 rfl rfl ?_
        replace h := bnP_s h
        obtain ⟨x119, h120, h⟩ := h
        refine g_getR B fl_RX5_12 (by decide) dX5_readLeafLine_62 h120 ?_
        replace h := bnP_s h
        obtain ⟨x121, h122, h⟩ := h
        refine g_getI B fl_RX5_72 (by decide) dX5_readLeafLine_65 h122 ?_
        refine g_istore B dX5_readLeafLine_68 (Nat.le_of_ble_eq_true rfl) (s1_c (f1_1 rfl (rf_cat _) (f1_k rfl (f1_k rfl (f1_k rfl f1_n))))) ?_
        refine g_iload_n B 3 dX5_readLeafLine_70 rfl rfl ?_
        refine g_if_eq B 92 dX5_readLeafLine_71 (by decide) (fun hc => ?_) (fun hc => ?_)
        · replace h := ifn (bI0 hc) h
          refine g_iload_n B 2 dX5_readLeafLine_92 rfl rfl ?_
          refine g_if_eq B 114 dX5_readLeafLine_93 (by decide) (fun hc => ?_) (fun hc => ?_)
          · replace h := ifn (bI0 hc) h
            refine g_iload_n B 3 dX5_readLeafLine_114 rfl rfl ?_
            refine g_if_ne B 140 dX5_readLeafLine_115 (by decide) (fun hc => ?_) (fun hc => ?_)
            · replace h := ifp (bI1 hc) h
              refine g_aload_n B 4 dX5_readLeafLine_140 rfl rfl ?_
              refine g_iconst (v := 3) B dX5_readLeafLine_141 (by decide) ?_
              replace h := bnS_s h
              obtain ⟨x123, s125, h124, h⟩ := h
              refine g_callVs0 (st := []) B (cX5_failc h124) (Nat.le_of_ble_eq_true rfl) rfl rfl mi_X5_fail lk_RX5_51 ⟨Nat.le_of_ble_eq_true rfl, Nat.le_of_ble_eq_true rfl⟩ rfl rfl (Nat.le_of_ble_eq_true rfl) dX5_readLeafLine_142 (Nat.zero_le _) (Nat.zero_le _) ?_
              obtain ⟨w1, w2⟩ := inS h
              clear h
              subst w1
              subst w2
              exact g_zret B hE (nar_bI _) (Nat.zero_le _) (Nat.zero_le _) dX5_readLeafLine_145
            · replace h := ifn (bI0 hc) h
              refine g_iload_n B 2 dX5_readLeafLine_118 rfl rfl ?_
              refine g_if_ne B 140 dX5_readLeafLine_119 (by decide) (fun hc => ?_) (fun hc => ?_)
              · replace h := ifp (bI1 hc) h
                refine g_aload_n B 4 dX5_readLeafLine_140 rfl rfl ?_
                refine g_iconst (v := 3) B dX5_readLeafLine_141 (by decide) ?_
                replace h := bnS_s h
                obtain ⟨x126, s128, h127, h⟩ := h
                refine g_callVs0 (st := []) B (cX5_failc h127) (Nat.le_of_ble_eq_true rfl) rfl rfl mi_X5_fail lk_RX5_51 ⟨Nat.le_of_ble_eq_true rfl, Nat.le_of_ble_eq_true rfl⟩ rfl rfl (Nat.le_of_ble_eq_true rfl) dX5_readLeafLine_142 (Nat.zero_le _) (Nat.zero_le _) ?_
                obtain ⟨w1, w2⟩ := inS h
                clear h
                subst w1
                subst w2
                exact g_zret B hE (nar_bI _) (Nat.zero_le _) (Nat.zero_le _) dX5_readLeafLine_145
              · replace h := ifn (bI0 hc) h
                refine g_aload_n B 1 dX5_readLeafLine_122 rfl rfl ?_
                refine g_iload B 0 dX5_readLeafLine_123 rfl ?_
                replace h := bnP_s h
                obtain ⟨x129, h130, h⟩ := h
                refine g_callVs0 (st := []) B (cX4_isLoosec h130) (Nat.le_of_ble_eq_true rfl) rfl rfl mi_X4_isLoose lk_RX5_250 ⟨Nat.le_of_ble_eq_true rfl, Nat.le_of_ble_eq_true rfl⟩ rfl rfl (Nat.le_of_ble_eq_true rfl) dX5_readLeafLine_125 (Nat.zero_le _) (Nat.zero_le _) ?_
                refine g_if_eq B 140 dX5_readLeafLine_128 (by decide) (fun hc => ?_) (fun hc => ?_)
                · replace h := ifn (bI0 hc) h
                  refine g_aload_n B 4 dX5_readLeafLine_140 rfl rfl ?_
                  refine g_iconst (v := 3) B dX5_readLeafLine_141 (by decide) ?_
                  replace h := bnS_s h
                  obtain ⟨x131, s133, h132, h⟩ := h
                  refine g_callVs0 (st := []) B (cX5_failc h132) (Nat.le_of_ble_eq_true rfl) rfl rfl mi_X5_fail lk_RX5_51 ⟨Nat.le_of_ble_eq_true rfl, Nat.le_of_ble_eq_true rfl⟩ rfl rfl (Nat.le_of_ble_eq_true rfl) dX5_readLeafLine_142 (Nat.zero_le _) (Nat.zero_le _) ?_
                  obtain ⟨w1, w2⟩ := inS h
                  clear h
                  subst w1
                  subst w2
                  exact g_zret B hE (nar_bI _) (Nat.zero_le _) (Nat.zero_le _) dX5_readLeafLine_145
                · replace h := ifp (bI1 hc) h
                  refine g_aload_n B 1 dX5_readLeafLine_131 rfl rfl ?_
                  refine g_iload B 0 dX5_readLeafLine_132 rfl ?_
                  replace h := bnP_s h
                  obtain ⟨s136, h135, h⟩ := h
                  refine g_callVv0 (st := []) B (cX4_fastenc h135) (Nat.le_of_ble_eq_true rfl) rfl rfl mi_X4_fasten lk_RX5_253 ⟨Nat.le_of_ble_eq_true rfl, Nat.le_of_ble_eq_true rfl⟩ rfl rfl (Nat.le_of_ble_eq_true rfl) dX5_readLeafLine_134 (Nat.zero_le _) (Nat.zero_le _) ?_
                  refine g_goto B 146 dX5_readLeafLine_137 (by decide) ?_
                  refine g_aload_n B 4 dX5_readLeafLine_146 rfl rfl ?_
                  replace h := bnS_s h
                  obtain ⟨x137, s139, h138, h⟩ := h
                  refine g_callVs0 (st := []) B (cX5_finishLinec h138) (Nat.le_of_ble_eq_true rfl) rfl rfl mi_X5_finishLine lk_RX5_102 ⟨Nat.le_of_ble_eq_true rfl, Nat.le_of_ble_eq_true rfl⟩ rfl rfl (Nat.le_of_ble_eq_true rfl) dX5_readLeafLine_147 (Nat.zero_le _) (Nat.zero_le _) ?_
                  obtain ⟨w1, w2⟩ := inS h
                  clear h
                  subst w1
                  subst w2
                  exact g_zret B hE (nar_bI _) (Nat.zero_le _) (Nat.zero_le _) dX5_readLeafLine_150
          · replace h := ifp (bI1 hc) h
            refine g_aload_n B 1 dX5_readLeafLine_96 rfl rfl ?_
            refine g_iload B 0 dX5_readLeafLine_97 rfl ?_
            replace h := bnP_s h
            obtain ⟨x140, h141, h⟩ := h
            refine g_callVs0 (st := []) B (cX4_isLostc h141) (Nat.le_of_ble_eq_true rfl) rfl rfl mi_X4_isLost lk_RX5_241 ⟨Nat.le_of_ble_eq_true rfl, Nat.le_of_ble_eq_true rfl⟩ rfl rfl (Nat.le_of_ble_eq_true rfl) dX5_readLeafLine_99 (Nat.zero_le _) (Nat.zero_le _) ?_
            refine g_if_eq B 114 dX5_readLeafLine_102 (by decide) (fun hc => ?_) (fun hc => ?_)
            · replace h := ifn (bI0 hc) h
              refine g_iload_n B 3 dX5_readLeafLine_114 rfl rfl ?_
              refine g_if_ne B 140 dX5_readLeafLine_115 (by decide) (fun hc => ?_) (fun hc => ?_)
              · replace h := ifp (bI1 hc) h
                refine g_aload_n B 4 dX5_readLeafLine_140 rfl rfl ?_
                refine g_iconst (v := 3) B dX5_readLeafLine_141 (by decide) ?_
                replace h := bnS_s h
                obtain ⟨x142, s144, h143, h⟩ := h
                refine g_callVs0 (st := []) B (cX5_failc h143) (Nat.le_of_ble_eq_true rfl) rfl rfl mi_X5_fail lk_RX5_51 ⟨Nat.le_of_ble_eq_true rfl, Nat.le_of_ble_eq_true rfl⟩ rfl rfl (Nat.le_of_ble_eq_true rfl) dX5_readLeafLine_142 (Nat.zero_le _) (Nat.zero_le _) ?_
                obtain ⟨w1, w2⟩ := inS h
                clear h
                subst w1
                subst w2
                exact g_zret B hE (nar_bI _) (Nat.zero_le _) (Nat.zero_le _) dX5_readLeafLine_145
              · replace h := ifn (bI0 hc) h
                refine g_iload_n B 2 dX5_readLeafLine_118 rfl rfl ?_
                refine g_if_ne B 140 dX5_readLeafLine_119 (by decide) (fun hc => ?_) (fun hc => ?_)
                · replace h := ifp (bI1 hc) h
                  refine g_aload_n B 4 dX5_readLeafLine_140 rfl rfl ?_
                  refine g_iconst (v := 3) B dX5_readLeafLine_141 (by decide) ?_
                  replace h := bnS_s h
                  obtain ⟨x145, s147, h146, h⟩ := h
                  refine g_callVs0 (st := []) B (cX5_failc h146) (Nat.le_of_ble_eq_true rfl) rfl rfl mi_X5_fail lk_RX5_51 ⟨Nat.le_of_ble_eq_true rfl, Nat.le_of_ble_eq_true rfl⟩ rfl rfl (Nat.le_of_ble_eq_true rfl) dX5_readLeafLine_142 (Nat.zero_le _) (Nat.zero_le _) ?_
                  obtain ⟨w1, w2⟩ := inS h
                  clear h
                  subst w1
                  subst w2
                  exact g_zret B hE (nar_bI _) (Nat.zero_le _) (Nat.zero_le _) dX5_readLeafLine_145
                · replace h := ifn (bI0 hc) h
                  refine g_aload_n B 1 dX5_readLeafLine_122 rfl rfl ?_
                  refine g_iload B 0 dX5_readLeafLine_123 rfl ?_
                  replace h := bnP_s h
                  obtain ⟨x148, h149, h⟩ := h
                  refine g_callVs0 (st := []) B (cX4_isLoosec h149) (Nat.le_of_ble_eq_true rfl) rfl rfl mi_X4_isLoose lk_RX5_250 ⟨Nat.le_of_ble_eq_true rfl, Nat.le_of_ble_eq_true rfl⟩ rfl rfl (Nat.le_of_ble_eq_true rfl) dX5_readLeafLine_125 (Nat.zero_le _) (Nat.zero_le _) ?_
                  refine g_if_eq B 140 dX5_readLeafLine_128 (by decide) (fun hc => ?_) (fun hc => ?_)
                  · replace h := ifn (bI0 hc) h
                    refine g_aload_n B 4 dX5_readLeafLine_140 rfl rfl ?_
                    refine g_iconst (v := 3) B dX5_readLeafLine_141 (by decide) ?_
                    replace h := bnS_s h
                    obtain ⟨x150, s152, h151, h⟩ := h
                    refine g_callVs0 (st := []) B (cX5_failc h151) (Nat.le_of_ble_eq_true rfl) rfl rfl mi_X5_fail lk_RX5_51 ⟨Nat.le_of_ble_eq_true rfl, Nat.le_of_ble_eq_true rfl⟩ rfl rfl (Nat.le_of_ble_eq_true rfl) dX5_readLeafLine_142 (Nat.zero_le _) (Nat.zero_le _) ?_
                    obtain ⟨w1, w2⟩ := inS h
                    clear h
                    subst w1
                    subst w2
                    exact g_zret B hE (nar_bI _) (Nat.zero_le _) (Nat.zero_le _) dX5_readLeafLine_145
                  · replace h := ifp (bI1 hc) h
                    refine g_aload_n B 1 dX5_readLeafLine_131 rfl rfl ?_
                    refine g_iload B 0 dX5_readLeafLine_132 rfl ?_
                    replace h := bnP_s h
                    obtain ⟨s155, h154, h⟩ := h
                    refine g_callVv0 (st := []) B (cX4_fastenc h154) (Nat.le_of_ble_eq_true rfl) rfl rfl mi_X4_fasten lk_RX5_253 ⟨Nat.le_of_ble_eq_true rfl, Nat.le_of_ble_eq_true rfl⟩ rfl rfl (Nat.le_of_ble_eq_true rfl) dX5_readLeafLine_134 (Nat.zero_le _) (Nat.zero_le _) ?_
                    refine g_goto B 146 dX5_readLeafLine_137 (by decide) ?_
                    refine g_aload_n B 4 dX5_readLeafLine_146 rfl rfl ?_
                    replace h := bnS_s h
                    obtain ⟨x156, s158, h157, h⟩ := h
                    refine g_callVs0 (st := []) B (cX5_finishLinec h157) (Nat.le_of_ble_eq_true rfl) rfl rfl mi_X5_finishLine lk_RX5_102 ⟨Nat.le_of_ble_eq_true rfl, Nat.le_of_ble_eq_true rfl⟩ rfl rfl (Nat.le_of_ble_eq_true rfl) dX5_readLeafLine_147 (Nat.zero_le _) (Nat.zero_le _) ?_
                    obtain ⟨w1, w2⟩ := inS h
                    clear h
                    subst w1
                    subst w2
                    exact g_zret B hE (nar_bI _) (Nat.zero_le _) (Nat.zero_le _) dX5_readLeafLine_150
            · replace h := ifp (bI1 hc) h
              refine g_aload_n B 1 dX5_readLeafLine_105 rfl rfl ?_
              refine g_iload B 0 dX5_readLeafLine_106 rfl ?_
              replace h := bnP_s h
              obtain ⟨s161, h160, h⟩ := h
              refine g_callVv0 (st := []) B (cX4_bringBackc h160) (Nat.le_of_ble_eq_true rfl) rfl rfl mi_X4_bringBack lk_RX5_247 ⟨Nat.le_of_ble_eq_true rfl, Nat.le_of_ble_eq_true rfl⟩ rfl rfl (Nat.le_of_ble_eq_true rfl) dX5_readLeafLine_108 (Nat.zero_le _) (Nat.zero_le _) ?_
              refine g_goto B 146 dX5_readLeafLine_111 (by decide) ?_
              refine g_aload_n B 4 dX5_readLeafLine_146 rfl rfl ?_
              replace h := bnS_s h
              obtain ⟨x162, s164, h163, h⟩ := h
              refine g_callVs0 (st := []) B (cX5_finishLinec h163) (Nat.le_of_ble_eq_true rfl) rfl rfl mi_X5_finishLine lk_RX5_102 ⟨Nat.le_of_ble_eq_true rfl, Nat.le_of_ble_eq_true rfl⟩ rfl rfl (Nat.le_of_ble_eq_true rfl) dX5_readLeafLine_147 (Nat.zero_le _) (Nat.zero_le _) ?_
              obtain ⟨w1, w2⟩ := inS h
              clear h
              subst w1
              subst w2
              exact g_zret B hE (nar_bI _) (Nat.zero_le _) (Nat.zero_le _) dX5_readLeafLine_150
        · replace h := ifp (bI1 hc) h
          refine g_aload_n B 1 dX5_readLeafLine_74 rfl rfl ?_
          refine g_iload B 0 dX5_readLeafLine_75 rfl ?_
          replace h := bnP_s h
          obtain ⟨x165, h166, h⟩ := h
          refine g_callVs0 (st := []) B (cX4_isLostc h166) (Nat.le_of_ble_eq_true rfl) rfl rfl mi_X4_isLost lk_RX5_241 ⟨Nat.le_of_ble_eq_true rfl, Nat.le_of_ble_eq_true rfl⟩ rfl rfl (Nat.le_of_ble_eq_true rfl) dX5_readLeafLine_77 (Nat.zero_le _) (Nat.zero_le _) ?_
          refine g_if_ne B 92 dX5_readLeafLine_80 (by decide) (fun hc => ?_) (fun hc => ?_)
          · replace h := ifp (bI1 hc) h
            refine g_iload_n B 2 dX5_readLeafLine_92 rfl rfl ?_
            refine g_if_eq B 114 dX5_readLeafLine_93 (by decide) (fun hc => ?_) (fun hc => ?_)
            · replace h := ifn (bI0 hc) h
              refine g_iload_n B 3 dX5_readLeafLine_114 rfl rfl ?_
              refine g_if_ne B 140 dX5_readLeafLine_115 (by decide) (fun hc => ?_) (fun hc => ?_)
              · replace h := ifp (bI1 hc) h
                refine g_aload_n B 4 dX5_readLeafLine_140 rfl rfl ?_
                refine g_iconst (v := 3) B dX5_readLeafLine_141 (by decide) ?_
                replace h := bnS_s h
                obtain ⟨x167, s169, h168, h⟩ := h
                refine g_callVs0 (st := []) B (cX5_failc h168) (Nat.le_of_ble_eq_true rfl) rfl rfl mi_X5_fail lk_RX5_51 ⟨Nat.le_of_ble_eq_true rfl, Nat.le_of_ble_eq_true rfl⟩ rfl rfl (Nat.le_of_ble_eq_true rfl) dX5_readLeafLine_142 (Nat.zero_le _) (Nat.zero_le _) ?_
                obtain ⟨w1, w2⟩ := inS h
                clear h
                subst w1
                subst w2
                exact g_zret B hE (nar_bI _) (Nat.zero_le _) (Nat.zero_le _) dX5_readLeafLine_145
              · replace h := ifn (bI0 hc) h
                refine g_iload_n B 2 dX5_readLeafLine_118 rfl rfl ?_
                refine g_if_ne B 140 dX5_readLeafLine_119 (by decide) (fun hc => ?_) (fun hc => ?_)
                · replace h := ifp (bI1 hc) h
                  refine g_aload_n B 4 dX5_readLeafLine_140 rfl rfl ?_
                  refine g_iconst (v := 3) B dX5_readLeafLine_141 (by decide) ?_
                  replace h := bnS_s h
                  obtain ⟨x170, s172, h171, h⟩ := h
                  refine g_callVs0 (st := []) B (cX5_failc h171) (Nat.le_of_ble_eq_true rfl) rfl rfl mi_X5_fail lk_RX5_51 ⟨Nat.le_of_ble_eq_true rfl, Nat.le_of_ble_eq_true rfl⟩ rfl rfl (Nat.le_of_ble_eq_true rfl) dX5_readLeafLine_142 (Nat.zero_le _) (Nat.zero_le _) ?_
                  obtain ⟨w1, w2⟩ := inS h
                  clear h
                  subst w1
                  subst w2
                  exact g_zret B hE (nar_bI _) (Nat.zero_le _) (Nat.zero_le _) dX5_readLeafLine_145
                · replace h := ifn (bI0 hc) h
                  refine g_aload_n B 1 dX5_readLeafLine_122 rfl rfl ?_
                  refine g_iload B 0 dX5_readLeafLine_123 rfl ?_
                  replace h := bnP_s h
                  obtain ⟨x173, h174, h⟩ := h
                  refine g_callVs0 (st := []) B (cX4_isLoosec h174) (Nat.le_of_ble_eq_true rfl) rfl rfl mi_X4_isLoose lk_RX5_250 ⟨Nat.le_of_ble_eq_true rfl, Nat.le_of_ble_eq_true rfl⟩ rfl rfl (Nat.le_of_ble_eq_true rfl) dX5_readLeafLine_125 (Nat.zero_le _) (Nat.zero_le _) ?_
                  refine g_if_eq B 140 dX5_readLeafLine_128 (by decide) (fun hc => ?_) (fun hc => ?_)
                  · replace h := ifn (bI0 hc) h
                    refine g_aload_n B 4 dX5_readLeafLine_140 rfl rfl ?_
                    refine g_iconst (v := 3) B dX5_readLeafLine_141 (by decide) ?_
                    replace h := bnS_s h
                    obtain ⟨x175, s177, h176, h⟩ := h
                    refine g_callVs0 (st := []) B (cX5_failc h176) (Nat.le_of_ble_eq_true rfl) rfl rfl mi_X5_fail lk_RX5_51 ⟨Nat.le_of_ble_eq_true rfl, Nat.le_of_ble_eq_true rfl⟩ rfl rfl (Nat.le_of_ble_eq_true rfl) dX5_readLeafLine_142 (Nat.zero_le _) (Nat.zero_le _) ?_
                    obtain ⟨w1, w2⟩ := inS h
                    clear h
                    subst w1
                    subst w2
                    exact g_zret B hE (nar_bI _) (Nat.zero_le _) (Nat.zero_le _) dX5_readLeafLine_145
                  · replace h := ifp (bI1 hc) h
                    refine g_aload_n B 1 dX5_readLeafLine_131 rfl rfl ?_
                    refine g_iload B 0 dX5_readLeafLine_132 rfl ?_
                    replace h := bnP_s h
                    obtain ⟨s180, h179, h⟩ := h
                    refine g_callVv0 (st := []) B (cX4_fastenc h179) (Nat.le_of_ble_eq_true rfl) rfl rfl mi_X4_fasten lk_RX5_253 ⟨Nat.le_of_ble_eq_true rfl, Nat.le_of_ble_eq_true rfl⟩ rfl rfl (Nat.le_of_ble_eq_true rfl) dX5_readLeafLine_134 (Nat.zero_le _) (Nat.zero_le _) ?_
                    refine g_goto B 146 dX5_readLeafLine_137 (by decide) ?_
                    refine g_aload_n B 4 dX5_readLeafLine_146 rfl rfl ?_
                    replace h := bnS_s h
                    obtain ⟨x181, s183, h182, h⟩ := h
                    refine g_callVs0 (st := []) B (cX5_finishLinec h182) (Nat.le_of_ble_eq_true rfl) rfl rfl mi_X5_finishLine lk_RX5_102 ⟨Nat.le_of_ble_eq_true rfl, Nat.le_of_ble_eq_true rfl⟩ rfl rfl (Nat.le_of_ble_eq_true rfl) dX5_readLeafLine_147 (Nat.zero_le _) (Nat.zero_le _) ?_
                    obtain ⟨w1, w2⟩ := inS h
                    clear h
                    subst w1
                    subst w2
                    exact g_zret B hE (nar_bI _) (Nat.zero_le _) (Nat.zero_le _) dX5_readLeafLine_150
            · replace h := ifp (bI1 hc) h
              refine g_aload_n B 1 dX5_readLeafLine_96 rfl rfl ?_
              refine g_iload B 0 dX5_readLeafLine_97 rfl ?_
              replace h := bnP_s h
              obtain ⟨x184, h185, h⟩ := h
              refine g_callVs0 (st := []) B (cX4_isLostc h185) (Nat.le_of_ble_eq_true rfl) rfl rfl mi_X4_isLost lk_RX5_241 ⟨Nat.le_of_ble_eq_true rfl, Nat.le_of_ble_eq_true rfl⟩ rfl rfl (Nat.le_of_ble_eq_true rfl) dX5_readLeafLine_99 (Nat.zero_le _) (Nat.zero_le _) ?_
              refine g_if_eq B 114 dX5_readLeafLine_102 (by decide) (fun hc => ?_) (fun hc => ?_)
              · replace h := ifn (bI0 hc) h
                refine g_iload_n B 3 dX5_readLeafLine_114 rfl rfl ?_
                refine g_if_ne B 140 dX5_readLeafLine_115 (by decide) (fun hc => ?_) (fun hc => ?_)
                · replace h := ifp (bI1 hc) h
                  refine g_aload_n B 4 dX5_readLeafLine_140 rfl rfl ?_
                  refine g_iconst (v := 3) B dX5_readLeafLine_141 (by decide) ?_
                  replace h := bnS_s h
                  obtain ⟨x186, s188, h187, h⟩ := h
                  refine g_callVs0 (st := []) B (cX5_failc h187) (Nat.le_of_ble_eq_true rfl) rfl rfl mi_X5_fail lk_RX5_51 ⟨Nat.le_of_ble_eq_true rfl, Nat.le_of_ble_eq_true rfl⟩ rfl rfl (Nat.le_of_ble_eq_true rfl) dX5_readLeafLine_142 (Nat.zero_le _) (Nat.zero_le _) ?_
                  obtain ⟨w1, w2⟩ := inS h
                  clear h
                  subst w1
                  subst w2
                  exact g_zret B hE (nar_bI _) (Nat.zero_le _) (Nat.zero_le _) dX5_readLeafLine_145
                · replace h := ifn (bI0 hc) h
                  refine g_iload_n B 2 dX5_readLeafLine_118 rfl rfl ?_
                  refine g_if_ne B 140 dX5_readLeafLine_119 (by decide) (fun hc => ?_) (fun hc => ?_)
                  · replace h := ifp (bI1 hc) h
                    refine g_aload_n B 4 dX5_readLeafLine_140 rfl rfl ?_
                    refine g_iconst (v := 3) B dX5_readLeafLine_141 (by decide) ?_
                    replace h := bnS_s h
                    obtain ⟨x189, s191, h190, h⟩ := h
                    refine g_callVs0 (st := []) B (cX5_failc h190) (Nat.le_of_ble_eq_true rfl) rfl rfl mi_X5_fail lk_RX5_51 ⟨Nat.le_of_ble_eq_true rfl, Nat.le_of_ble_eq_true rfl⟩ rfl rfl (Nat.le_of_ble_eq_true rfl) dX5_readLeafLine_142 (Nat.zero_le _) (Nat.zero_le _) ?_
                    obtain ⟨w1, w2⟩ := inS h
                    clear h
                    subst w1
                    subst w2
                    exact g_zret B hE (nar_bI _) (Nat.zero_le _) (Nat.zero_le _) dX5_readLeafLine_145
                  · replace h := ifn (bI0 hc) h
                    refine g_aload_n B 1 dX5_readLeafLine_122 rfl rfl ?_
                    refine g_iload B 0 dX5_readLeafLine_123 rfl ?_
                    replace h := bnP_s h
                    obtain ⟨x192, h193, h⟩ := h
                    refine g_callVs0 (st := []) B (cX4_isLoosec h193) (Nat.le_of_ble_eq_true rfl) rfl rfl mi_X4_isLoose lk_RX5_250 ⟨Nat.le_of_ble_eq_true rfl, Nat.le_of_ble_eq_true rfl⟩ rfl rfl (Nat.le_of_ble_eq_true rfl) dX5_readLeafLine_125 (Nat.zero_le _) (Nat.zero_le _) ?_
                    refine g_if_eq B 140 dX5_readLeafLine_128 (by decide) (fun hc => ?_) (fun hc => ?_)
                    · replace h := ifn (bI0 hc) h
                      refine g_aload_n B 4 dX5_readLeafLine_140 rfl rfl ?_
                      refine g_iconst (v := 3) B dX5_readLeafLine_141 (by decide) ?_
                      replace h := bnS_s h
                      obtain ⟨x194, s196, h195, h⟩ := h
                      refine g_callVs0 (st := []) B (cX5_failc h195) (Nat.le_of_ble_eq_true rfl) rfl rfl mi_X5_fail lk_RX5_51 ⟨Nat.le_of_ble_eq_true rfl, Nat.le_of_ble_eq_true rfl⟩ rfl rfl (Nat.le_of_ble_eq_true rfl) dX5_readLeafLine_142 (Nat.zero_le _) (Nat.zero_le _) ?_
                      obtain ⟨w1, w2⟩ := inS h
                      clear h
                      subst w1
                      subst w2
                      exact g_zret B hE (nar_bI _) (Nat.zero_le _) (Nat.zero_le _) dX5_readLeafLine_145
                    · replace h := ifp (bI1 hc) h
                      refine g_aload_n B 1 dX5_readLeafLine_131 rfl rfl ?_
                      refine g_iload B 0 dX5_readLeafLine_132 rfl ?_
                      replace h := bnP_s h
                      obtain ⟨s199, h198, h⟩ := h
                      refine g_callVv0 (st := []) B (cX4_fastenc h198) (Nat.le_of_ble_eq_true rfl) rfl rfl mi_X4_fasten lk_RX5_253 ⟨Nat.le_of_ble_eq_true rfl, Nat.le_of_ble_eq_true rfl⟩ rfl rfl (Nat.le_of_ble_eq_true rfl) dX5_readLeafLine_134 (Nat.zero_le _) (Nat.zero_le _) ?_
                      refine g_goto B 146 dX5_readLeafLine_137 (by decide) ?_
                      refine g_aload_n B 4 dX5_readLeafLine_146 rfl rfl ?_
                      replace h := bnS_s h
                      obtain ⟨x200, s202, h201, h⟩ := h
                      refine g_callVs0 (st := []) B (cX5_finishLinec h201) (Nat.le_of_ble_eq_true rfl) rfl rfl mi_X5_finishLine lk_RX5_102 ⟨Nat.le_of_ble_eq_true rfl, Nat.le_of_ble_eq_true rfl⟩ rfl rfl (Nat.le_of_ble_eq_true rfl) dX5_readLeafLine_147 (Nat.zero_le _) (Nat.zero_le _) ?_
                      obtain ⟨w1, w2⟩ := inS h
                      clear h
                      subst w1
                      subst w2
                      exact g_zret B hE (nar_bI _) (Nat.zero_le _) (Nat.zero_le _) dX5_readLeafLine_150
              · replace h := ifp (bI1 hc) h
                refine g_aload_n B 1 dX5_readLeafLine_105 rfl rfl ?_
                refine g_iload B 0 dX5_readLeafLine_106 rfl ?_
                replace h := bnP_s h
                obtain ⟨s205, h204, h⟩ := h
                refine g_callVv0 (st := []) B (cX4_bringBackc h204) (Nat.le_of_ble_eq_true rfl) rfl rfl mi_X4_bringBack lk_RX5_247 ⟨Nat.le_of_ble_eq_true rfl, Nat.le_of_ble_eq_true rfl⟩ rfl rfl (Nat.le_of_ble_eq_true rfl) dX5_readLeafLine_108 (Nat.zero_le _) (Nat.zero_le _) ?_
                refine g_goto B 146 dX5_readLeafLine_111 (by decide) ?_
                refine g_aload_n B 4 dX5_readLeafLine_146 rfl rfl ?_
                replace h := bnS_s h
                obtain ⟨x206, s208, h207, h⟩ := h
                refine g_callVs0 (st := []) B (cX5_finishLinec h207) (Nat.le_of_ble_eq_true rfl) rfl rfl mi_X5_finishLine lk_RX5_102 ⟨Nat.le_of_ble_eq_true rfl, Nat.le_of_ble_eq_true rfl⟩ rfl rfl (Nat.le_of_ble_eq_true rfl) dX5_readLeafLine_147 (Nat.zero_le _) (Nat.zero_le _) ?_
                obtain ⟨w1, w2⟩ := inS h
                clear h
                subst w1
                subst w2
                exact g_zret B hE (nar_bI _) (Nat.zero_le _) (Nat.zero_le _) dX5_readLeafLine_150
          · replace h := ifn (bI0 hc) h
            refine g_aload_n B 1 dX5_readLeafLine_83 rfl rfl ?_
            refine g_iload B 0 dX5_readLeafLine_84 rfl ?_
            replace h := bnP_s h
            obtain ⟨s211, h210, h⟩ := h
            refine g_callVv0 (st := []) B (cX4_dropc h210) (Nat.le_of_ble_eq_true rfl) rfl rfl mi_X4_drop lk_RX5_244 ⟨Nat.le_of_ble_eq_true rfl, Nat.le_of_ble_eq_true rfl⟩ rfl rfl (Nat.le_of_ble_eq_true rfl) dX5_readLeafLine_86 (Nat.zero_le _) (Nat.zero_le _) ?_
            refine g_goto B 146 dX5_readLeafLine_89 (by decide) ?_
            refine g_aload_n B 4 dX5_readLeafLine_146 rfl rfl ?_
            replace h := bnS_s h
            obtain ⟨x212, s214, h213, h⟩ := h
            refine g_callVs0 (st := []) B (cX5_finishLinec h213) (Nat.le_of_ble_eq_true rfl) rfl rfl mi_X5_finishLine lk_RX5_102 ⟨Nat.le_of_ble_eq_true rfl, Nat.le_of_ble_eq_true rfl⟩ rfl rfl (Nat.le_of_ble_eq_true rfl) dX5_readLeafLine_147 (Nat.zero_le _) (Nat.zero_le _) ?_
            obtain ⟨w1, w2⟩ := inS h
            clear h
            subst w1
            subst w2
            exact g_zret B hE (nar_bI _) (Nat.zero_le _) (Nat.zero_le _) dX5_readLeafLine_150
      · replace h := ifn (bI0 hc) h
        refine g_iconst (v := 0) B dX5_readLeafLine_59 (by decide) ?_
        obtain ⟨w1, w2⟩ := inS h
        clear h
        subst w1
        subst w2
        exact g_zret B hE rfl (Nat.zero_le _) (Nat.zero_le _) dX5_readLeafLine_60
    · replace h := ifn (bI0 hc) h
      refine g_aload_n B 2 dX5_readLeafLine_22 rfl rfl ?_
      refine g_ldcS B (j := 15) rfl dX5_readLeafLine_23 ?_
      replace h := bnP_s h
      obtain ⟨x215, h216, h⟩ := h
      refine g_callVs0 (st := []) B (cX5_isAtWordc h216) (Nat.le_of_ble_eq_true rfl) rfl rfl mi_X5_isAtWord lk_RX5_80 ⟨Nat.le_of_ble_eq_true rfl, Nat.le_of_ble_eq_true rfl⟩ rfl rfl (Nat.le_of_ble_eq_true rfl) dX5_readLeafLine_25 (Nat.zero_le _) (Nat.zero_le _) ?_
      refine g_if_ne B 37 dX5_readLeafLine_28 (by decide) (fun hc => ?_) (fun hc => ?_)
      · replace h := ifp (bI1 hc) h
        refine g_aload_n B 2 dX5_readLeafLine_37 rfl rfl ?_
        replace h := bnP_s h
        obtain ⟨x217, h218, h⟩ := h
        refine g_getR B fl_RX5_28 (by decide) dX5_readLeafLine_38 h218 ?_
        replace h := bnP_s h
        obtain ⟨x219, h220, h⟩ := h
        refine g_getRg B fl_RX5_93 (by decide) dX5_readLeafLine_41 h220 ?_
        refine g_astore_n B dX5_readLeafLine_44 rfl (Nat.le_of_ble_eq_true rfl) (s1_c (f1_1 rfl rfl (f1_k rfl (f1_k rfl f1_n)))) ?_
        refine g_aload_n B 3 dX5_readLeafLine_45 rfl rfl ?_
        refine g_iconst (v := 0) B dX5_readLeafLine_46 (by decide) ?_
        refine g_aload_n B 0 dX5_readLeafLine_47 rfl rfl ?_
        replace h := bnP_s h
        obtain ⟨x221, h222, h⟩ := h
        refine g_getI B fl_RX5_240 (by decide) dX5_readLeafLine_48 h222 ?_
        refine g_iconst (v := 1) B dX5_readLeafLine_51 (by decide) ?_
        refine g_isub B dX5_readLeafLine_52 ?_
        replace h := bnS_s h
        obtain ⟨x223, s225, h224, h⟩ := h
        refine g_callVs0 (st := []) B (cX5_checkNextNumberc h224) (Nat.le_of_ble_eq_true rfl) rfl rfl mi_X5_checkNextNumber lk_RX5_84 ⟨Nat.le_of_ble_eq_true rfl, Nat.le_of_ble_eq_true rfl⟩ rfl rfl (Nat.le_of_ble_eq_true rfl) dX5_readLeafLine_53 (Nat.zero_le _) (Nat.zero_le _) ?_
        refine g_if_ne B 61 dX5_readLeafLine_56 (by decide) (fun hc => ?_) (fun hc => ?_)
        · replace h := ifp (bI1 hc) h
          refine g_aload_n B 3 dX5_readLeafLine_61 rfl rfl ?_
          replace h := bnP_s h
          obtain ⟨x226, h227, h⟩ := h
          refine g_getR B fl_RX5_12 (by decide) dX5_readLeafLine_62 h227 ?_
          replace h := bnP_s h
          obtain ⟨x228, h229, h⟩ := h
          refine g_getI B fl_RX5_72 (by decide) dX5_readLeafLine_65 h229 ?_
          refine g_istore B dX5_readLeafLine_68 (Nat.le_of_ble_eq_true rfl) (s1_c (f1_1 rfl (rf_cat _) (f1_k rfl (f1_k rfl (f1_k rfl f1_n))))) ?_
          refine g_iload_n B 3 dX5_readLeafLine_70 rfl rfl ?_
          refine g_if_eq B 92 dX5_readLeafLine_71 (by decide) (fun hc => ?_) (fun hc => ?_)
          · replace h := ifn (bI0 hc) h
            refine g_iload_n B 2 dX5_readLeafLine_92 rfl rfl ?_
            refine g_if_eq B 114 dX5_readLeafLine_93 (by decide) (fun hc => ?_) (fun hc => ?_)
            · replace h := ifn (bI0 hc) h
              refine g_iload_n B 3 dX5_readLeafLine_114 rfl rfl ?_
              refine g_if_ne B 140 dX5_readLeafLine_115 (by decide) (fun hc => ?_) (fun hc => ?_)
              · replace h := ifp (bI1 hc) h
                refine g_aload_n B 4 dX5_readLeafLine_140 rfl rfl ?_
                refine g_iconst (v := 3) B dX5_readLeafLine_141 (by decide) ?_
                replace h := bnS_s h
                obtain ⟨x230, s232, h231, h⟩ := h
                refine g_callVs0 (st := []) B (cX5_failc h231) (Nat.le_of_ble_eq_true rfl) rfl rfl mi_X5_fail lk_RX5_51 ⟨Nat.le_of_ble_eq_true rfl, Nat.le_of_ble_eq_true rfl⟩ rfl rfl (Nat.le_of_ble_eq_true rfl) dX5_readLeafLine_142 (Nat.zero_le _) (Nat.zero_le _) ?_
                obtain ⟨w1, w2⟩ := inS h
                clear h
                subst w1
                subst w2
                exact g_zret B hE (nar_bI _) (Nat.zero_le _) (Nat.zero_le _) dX5_readLeafLine_145
              · replace h := ifn (bI0 hc) h
                refine g_iload_n B 2 dX5_readLeafLine_118 rfl rfl ?_
                refine g_if_ne B 140 dX5_readLeafLine_119 (by decide) (fun hc => ?_) (fun hc => ?_)
                · replace h := ifp (bI1 hc) h
                  refine g_aload_n B 4 dX5_readLeafLine_140 rfl rfl ?_
                  refine g_iconst (v := 3) B dX5_readLeafLine_141 (by decide) ?_
                  replace h := bnS_s h
                  obtain ⟨x233, s235, h234, h⟩ := h
                  refine g_callVs0 (st := []) B (cX5_failc h234) (Nat.le_of_ble_eq_true rfl) rfl rfl mi_X5_fail lk_RX5_51 ⟨Nat.le_of_ble_eq_true rfl, Nat.le_of_ble_eq_true rfl⟩ rfl rfl (Nat.le_of_ble_eq_true rfl) dX5_readLeafLine_142 (Nat.zero_le _) (Nat.zero_le _) ?_
                  obtain ⟨w1, w2⟩ := inS h
                  clear h
                  subst w1
                  subst w2
                  exact g_zret B hE (nar_bI _) (Nat.zero_le _) (Nat.zero_le _) dX5_readLeafLine_145
                · replace h := ifn (bI0 hc) h
                  refine g_aload_n B 1 dX5_readLeafLine_122 rfl rfl ?_
                  refine g_iload B 0 dX5_readLeafLine_123 rfl ?_
                  replace h := bnP_s h
                  obtain ⟨x236, h237, h⟩ := h
                  refine g_callVs0 (st := []) B (cX4_isLoosec h237) (Nat.le_of_ble_eq_true rfl) rfl rfl mi_X4_isLoose lk_RX5_250 ⟨Nat.le_of_ble_eq_true rfl, Nat.le_of_ble_eq_true rfl⟩ rfl rfl (Nat.le_of_ble_eq_true rfl) dX5_readLeafLine_125 (Nat.zero_le _) (Nat.zero_le _) ?_
                  refine g_if_eq B 140 dX5_readLeafLine_128 (by decide) (fun hc => ?_) (fun hc => ?_)
                  · replace h := ifn (bI0 hc) h
                    refine g_aload_n B 4 dX5_readLeafLine_140 rfl rfl ?_
                    refine g_iconst (v := 3) B dX5_readLeafLine_141 (by decide) ?_
                    replace h := bnS_s h
                    obtain ⟨x238, s240, h239, h⟩ := h
                    refine g_callVs0 (st := []) B (cX5_failc h239) (Nat.le_of_ble_eq_true rfl) rfl rfl mi_X5_fail lk_RX5_51 ⟨Nat.le_of_ble_eq_true rfl, Nat.le_of_ble_eq_true rfl⟩ rfl rfl (Nat.le_of_ble_eq_true rfl) dX5_readLeafLine_142 (Nat.zero_le _) (Nat.zero_le _) ?_
                    obtain ⟨w1, w2⟩ := inS h
                    clear h
                    subst w1
                    subst w2
                    exact g_zret B hE (nar_bI _) (Nat.zero_le _) (Nat.zero_le _) dX5_readLeafLine_145
                  · replace h := ifp (bI1 hc) h
                    refine g_aload_n B 1 dX5_readLeafLine_131 rfl rfl ?_
                    refine g_iload B 0 dX5_readLeafLine_132 rfl ?_
                    replace h := bnP_s h
                    obtain ⟨s243, h242, h⟩ := h
                    refine g_callVv0 (st := []) B (cX4_fastenc h242) (Nat.le_of_ble_eq_true rfl) rfl rfl mi_X4_fasten lk_RX5_253 ⟨Nat.le_of_ble_eq_true rfl, Nat.le_of_ble_eq_true rfl⟩ rfl rfl (Nat.le_of_ble_eq_true rfl) dX5_readLeafLine_134 (Nat.zero_le _) (Nat.zero_le _) ?_
                    refine g_goto B 146 dX5_readLeafLine_137 (by decide) ?_
                    refine g_aload_n B 4 dX5_readLeafLine_146 rfl rfl ?_
                    replace h := bnS_s h
                    obtain ⟨x244, s246, h245, h⟩ := h
                    refine g_callVs0 (st := []) B (cX5_finishLinec h245) (Nat.le_of_ble_eq_true rfl) rfl rfl mi_X5_finishLine lk_RX5_102 ⟨Nat.le_of_ble_eq_true rfl, Nat.le_of_ble_eq_true rfl⟩ rfl rfl (Nat.le_of_ble_eq_true rfl) dX5_readLeafLine_147 (Nat.zero_le _) (Nat.zero_le _) ?_
                    obtain ⟨w1, w2⟩ := inS h
                    clear h
                    subst w1
                    subst w2
                    exact g_zret B hE (nar_bI _) (Nat.zero_le _) (Nat.zero_le _) dX5_readLeafLine_150
            · replace h := ifp (bI1 hc) h
              refine g_aload_n B 1 dX5_readLeafLine_96 rfl rfl ?_
              refine g_iload B 0 dX5_readLeafLine_97 rfl ?_
              replace h := bnP_s h
              obtain ⟨x247, h248, h⟩ := h
              refine g_callVs0 (st := []) B (cX4_isLostc h248) (Nat.le_of_ble_eq_true rfl) rfl rfl mi_X4_isLost lk_RX5_241 ⟨Nat.le_of_ble_eq_true rfl, Nat.le_of_ble_eq_true rfl⟩ rfl rfl (Nat.le_of_ble_eq_true rfl) dX5_readLeafLine_99 (Nat.zero_le _) (Nat.zero_le _) ?_
              refine g_if_eq B 114 dX5_readLeafLine_102 (by decide) (fun hc => ?_) (fun hc => ?_)
              · replace h := ifn (bI0 hc) h
                refine g_iload_n B 3 dX5_readLeafLine_114 rfl rfl ?_
                refine g_if_ne B 140 dX5_readLeafLine_115 (by decide) (fun hc => ?_) (fun hc => ?_)
                · replace h := ifp (bI1 hc) h
                  refine g_aload_n B 4 dX5_readLeafLine_140 rfl rfl ?_
                  refine g_iconst (v := 3) B dX5_readLeafLine_141 (by decide) ?_
                  replace h := bnS_s h
                  obtain ⟨x249, s251, h250, h⟩ := h
                  refine g_callVs0 (st := []) B (cX5_failc h250) (Nat.le_of_ble_eq_true rfl) rfl rfl mi_X5_fail lk_RX5_51 ⟨Nat.le_of_ble_eq_true rfl, Nat.le_of_ble_eq_true rfl⟩ rfl rfl (Nat.le_of_ble_eq_true rfl) dX5_readLeafLine_142 (Nat.zero_le _) (Nat.zero_le _) ?_
                  obtain ⟨w1, w2⟩ := inS h
                  clear h
                  subst w1
                  subst w2
                  exact g_zret B hE (nar_bI _) (Nat.zero_le _) (Nat.zero_le _) dX5_readLeafLine_145
                · replace h := ifn (bI0 hc) h
                  refine g_iload_n B 2 dX5_readLeafLine_118 rfl rfl ?_
                  refine g_if_ne B 140 dX5_readLeafLine_119 (by decide) (fun hc => ?_) (fun hc => ?_)
                  · replace h := ifp (bI1 hc) h
                    refine g_aload_n B 4 dX5_readLeafLine_140 rfl rfl ?_
                    refine g_iconst (v := 3) B dX5_readLeafLine_141 (by decide) ?_
                    replace h := bnS_s h
                    obtain ⟨x252, s254, h253, h⟩ := h
                    refine g_callVs0 (st := []) B (cX5_failc h253) (Nat.le_of_ble_eq_true rfl) rfl rfl mi_X5_fail lk_RX5_51 ⟨Nat.le_of_ble_eq_true rfl, Nat.le_of_ble_eq_true rfl⟩ rfl rfl (Nat.le_of_ble_eq_true rfl) dX5_readLeafLine_142 (Nat.zero_le _) (Nat.zero_le _) ?_
                    obtain ⟨w1, w2⟩ := inS h
                    clear h
                    subst w1
                    subst w2
                    exact g_zret B hE (nar_bI _) (Nat.zero_le _) (Nat.zero_le _) dX5_readLeafLine_145
                  · replace h := ifn (bI0 hc) h
                    refine g_aload_n B 1 dX5_readLeafLine_122 rfl rfl ?_
                    refine g_iload B 0 dX5_readLeafLine_123 rfl ?_
                    replace h := bnP_s h
                    obtain ⟨x255, h256, h⟩ := h
                    refine g_callVs0 (st := []) B (cX4_isLoosec h256) (Nat.le_of_ble_eq_true rfl) rfl rfl mi_X4_isLoose lk_RX5_250 ⟨Nat.le_of_ble_eq_true rfl, Nat.le_of_ble_eq_true rfl⟩ rfl rfl (Nat.le_of_ble_eq_true rfl) dX5_readLeafLine_125 (Nat.zero_le _) (Nat.zero_le _) ?_
                    refine g_if_eq B 140 dX5_readLeafLine_128 (by decide) (fun hc => ?_) (fun hc => ?_)
                    · replace h := ifn (bI0 hc) h
                      refine g_aload_n B 4 dX5_readLeafLine_140 rfl rfl ?_
                      refine g_iconst (v := 3) B dX5_readLeafLine_141 (by decide) ?_
                      replace h := bnS_s h
                      obtain ⟨x257, s259, h258, h⟩ := h
                      refine g_callVs0 (st := []) B (cX5_failc h258) (Nat.le_of_ble_eq_true rfl) rfl rfl mi_X5_fail lk_RX5_51 ⟨Nat.le_of_ble_eq_true rfl, Nat.le_of_ble_eq_true rfl⟩ rfl rfl (Nat.le_of_ble_eq_true rfl) dX5_readLeafLine_142 (Nat.zero_le _) (Nat.zero_le _) ?_
                      obtain ⟨w1, w2⟩ := inS h
                      clear h
                      subst w1
                      subst w2
                      exact g_zret B hE (nar_bI _) (Nat.zero_le _) (Nat.zero_le _) dX5_readLeafLine_145
                    · replace h := ifp (bI1 hc) h
                      refine g_aload_n B 1 dX5_readLeafLine_131 rfl rfl ?_
                      refine g_iload B 0 dX5_readLeafLine_132 rfl ?_
                      replace h := bnP_s h
                      obtain ⟨s262, h261, h⟩ := h
                      refine g_callVv0 (st := []) B (cX4_fastenc h261) (Nat.le_of_ble_eq_true rfl) rfl rfl mi_X4_fasten lk_RX5_253 ⟨Nat.le_of_ble_eq_true rfl, Nat.le_of_ble_eq_true rfl⟩ rfl rfl (Nat.le_of_ble_eq_true rfl) dX5_readLeafLine_134 (Nat.zero_le _) (Nat.zero_le _) ?_
                      refine g_goto B 146 dX5_readLeafLine_137 (by decide) ?_
                      refine g_aload_n B 4 dX5_readLeafLine_146 rfl rfl ?_
                      replace h := bnS_s h
                      obtain ⟨x263, s265, h264, h⟩ := h
                      refine g_callVs0 (st := []) B (cX5_finishLinec h264) (Nat.le_of_ble_eq_true rfl) rfl rfl mi_X5_finishLine lk_RX5_102 ⟨Nat.le_of_ble_eq_true rfl, Nat.le_of_ble_eq_true rfl⟩ rfl rfl (Nat.le_of_ble_eq_true rfl) dX5_readLeafLine_147 (Nat.zero_le _) (Nat.zero_le _) ?_
                      obtain ⟨w1, w2⟩ := inS h
                      clear h
                      subst w1
                      subst w2
                      exact g_zret B hE (nar_bI _) (Nat.zero_le _) (Nat.zero_le _) dX5_readLeafLine_150
              · replace h := ifp (bI1 hc) h
                refine g_aload_n B 1 dX5_readLeafLine_105 rfl rfl ?_
                refine g_iload B 0 dX5_readLeafLine_106 rfl ?_
                replace h := bnP_s h
                obtain ⟨s268, h267, h⟩ := h
                refine g_callVv0 (st := []) B (cX4_bringBackc h267) (Nat.le_of_ble_eq_true rfl) rfl rfl mi_X4_bringBack lk_RX5_247 ⟨Nat.le_of_ble_eq_true rfl, Nat.le_of_ble_eq_true rfl⟩ rfl rfl (Nat.le_of_ble_eq_true rfl) dX5_readLeafLine_108 (Nat.zero_le _) (Nat.zero_le _) ?_
                refine g_goto B 146 dX5_readLeafLine_111 (by decide) ?_
                refine g_aload_n B 4 dX5_readLeafLine_146 rfl rfl ?_
                replace h := bnS_s h
                obtain ⟨x269, s271, h270, h⟩ := h
                refine g_callVs0 (st := []) B (cX5_finishLinec h270) (Nat.le_of_ble_eq_true rfl) rfl rfl mi_X5_finishLine lk_RX5_102 ⟨Nat.le_of_ble_eq_true rfl, Nat.le_of_ble_eq_true rfl⟩ rfl rfl (Nat.le_of_ble_eq_true rfl) dX5_readLeafLine_147 (Nat.zero_le _) (Nat.zero_le _) ?_
                obtain ⟨w1, w2⟩ := inS h
                clear h
                subst w1
                subst w2
                exact g_zret B hE (nar_bI _) (Nat.zero_le _) (Nat.zero_le _) dX5_readLeafLine_150
          · replace h := ifp (bI1 hc) h
            refine g_aload_n B 1 dX5_readLeafLine_74 rfl rfl ?_
            refine g_iload B 0 dX5_readLeafLine_75 rfl ?_
            replace h := bnP_s h
            obtain ⟨x272, h273, h⟩ := h
            refine g_callVs0 (st := []) B (cX4_isLostc h273) (Nat.le_of_ble_eq_true rfl) rfl rfl mi_X4_isLost lk_RX5_241 ⟨Nat.le_of_ble_eq_true rfl, Nat.le_of_ble_eq_true rfl⟩ rfl rfl (Nat.le_of_ble_eq_true rfl) dX5_readLeafLine_77 (Nat.zero_le _) (Nat.zero_le _) ?_
            refine g_if_ne B 92 dX5_readLeafLine_80 (by decide) (fun hc => ?_) (fun hc => ?_)
            · replace h := ifp (bI1 hc) h
              refine g_iload_n B 2 dX5_readLeafLine_92 rfl rfl ?_
              refine g_if_eq B 114 dX5_readLeafLine_93 (by decide) (fun hc => ?_) (fun hc => ?_)
              · replace h := ifn (bI0 hc) h
                refine g_iload_n B 3 dX5_readLeafLine_114 rfl rfl ?_
                refine g_if_ne B 140 dX5_readLeafLine_115 (by decide) (fun hc => ?_) (fun hc => ?_)
                · replace h := ifp (bI1 hc) h
                  refine g_aload_n B 4 dX5_readLeafLine_140 rfl rfl ?_
                  refine g_iconst (v := 3) B dX5_readLeafLine_141 (by decide) ?_
                  replace h := bnS_s h
                  obtain ⟨x274, s276, h275, h⟩ := h
                  refine g_callVs0 (st := []) B (cX5_failc h275) (Nat.le_of_ble_eq_true rfl) rfl rfl mi_X5_fail lk_RX5_51 ⟨Nat.le_of_ble_eq_true rfl, Nat.le_of_ble_eq_true rfl⟩ rfl rfl (Nat.le_of_ble_eq_true rfl) dX5_readLeafLine_142 (Nat.zero_le _) (Nat.zero_le _) ?_
                  obtain ⟨w1, w2⟩ := inS h
                  clear h
                  subst w1
                  subst w2
                  exact g_zret B hE (nar_bI _) (Nat.zero_le _) (Nat.zero_le _) dX5_readLeafLine_145
                · replace h := ifn (bI0 hc) h
                  refine g_iload_n B 2 dX5_readLeafLine_118 rfl rfl ?_
                  refine g_if_ne B 140 dX5_readLeafLine_119 (by decide) (fun hc => ?_) (fun hc => ?_)
                  · replace h := ifp (bI1 hc) h
                    refine g_aload_n B 4 dX5_readLeafLine_140 rfl rfl ?_
                    refine g_iconst (v := 3) B dX5_readLeafLine_141 (by decide) ?_
                    replace h := bnS_s h
                    obtain ⟨x277, s279, h278, h⟩ := h
                    refine g_callVs0 (st := []) B (cX5_failc h278) (Nat.le_of_ble_eq_true rfl) rfl rfl mi_X5_fail lk_RX5_51 ⟨Nat.le_of_ble_eq_true rfl, Nat.le_of_ble_eq_true rfl⟩ rfl rfl (Nat.le_of_ble_eq_true rfl) dX5_readLeafLine_142 (Nat.zero_le _) (Nat.zero_le _) ?_
                    obtain ⟨w1, w2⟩ := inS h
                    clear h
                    subst w1
                    subst w2
                    exact g_zret B hE (nar_bI _) (Nat.zero_le _) (Nat.zero_le _) dX5_readLeafLine_145
                  · replace h := ifn (bI0 hc) h
                    refine g_aload_n B 1 dX5_readLeafLine_122 rfl rfl ?_
                    refine g_iload B 0 dX5_readLeafLine_123 rfl ?_
                    replace h := bnP_s h
                    obtain ⟨x280, h281, h⟩ := h
                    refine g_callVs0 (st := []) B (cX4_isLoosec h281) (Nat.le_of_ble_eq_true rfl) rfl rfl mi_X4_isLoose lk_RX5_250 ⟨Nat.le_of_ble_eq_true rfl, Nat.le_of_ble_eq_true rfl⟩ rfl rfl (Nat.le_of_ble_eq_true rfl) dX5_readLeafLine_125 (Nat.zero_le _) (Nat.zero_le _) ?_
                    refine g_if_eq B 140 dX5_readLeafLine_128 (by decide) (fun hc => ?_) (fun hc => ?_)
                    · replace h := ifn (bI0 hc) h
                      refine g_aload_n B 4 dX5_readLeafLine_140 rfl rfl ?_
                      refine g_iconst (v := 3) B dX5_readLeafLine_141 (by decide) ?_
                      replace h := bnS_s h
                      obtain ⟨x282, s284, h283, h⟩ := h
                      refine g_callVs0 (st := []) B (cX5_failc h283) (Nat.le_of_ble_eq_true rfl) rfl rfl mi_X5_fail lk_RX5_51 ⟨Nat.le_of_ble_eq_true rfl, Nat.le_of_ble_eq_true rfl⟩ rfl rfl (Nat.le_of_ble_eq_true rfl) dX5_readLeafLine_142 (Nat.zero_le _) (Nat.zero_le _) ?_
                      obtain ⟨w1, w2⟩ := inS h
                      clear h
                      subst w1
                      subst w2
                      exact g_zret B hE (nar_bI _) (Nat.zero_le _) (Nat.zero_le _) dX5_readLeafLine_145
                    · replace h := ifp (bI1 hc) h
                      refine g_aload_n B 1 dX5_readLeafLine_131 rfl rfl ?_
                      refine g_iload B 0 dX5_readLeafLine_132 rfl ?_
                      replace h := bnP_s h
                      obtain ⟨s287, h286, h⟩ := h
                      refine g_callVv0 (st := []) B (cX4_fastenc h286) (Nat.le_of_ble_eq_true rfl) rfl rfl mi_X4_fasten lk_RX5_253 ⟨Nat.le_of_ble_eq_true rfl, Nat.le_of_ble_eq_true rfl⟩ rfl rfl (Nat.le_of_ble_eq_true rfl) dX5_readLeafLine_134 (Nat.zero_le _) (Nat.zero_le _) ?_
                      refine g_goto B 146 dX5_readLeafLine_137 (by decide) ?_
                      refine g_aload_n B 4 dX5_readLeafLine_146 rfl rfl ?_
                      replace h := bnS_s h
                      obtain ⟨x288, s290, h289, h⟩ := h
                      refine g_callVs0 (st := []) B (cX5_finishLinec h289) (Nat.le_of_ble_eq_true rfl) rfl rfl mi_X5_finishLine lk_RX5_102 ⟨Nat.le_of_ble_eq_true rfl, Nat.le_of_ble_eq_true rfl⟩ rfl rfl (Nat.le_of_ble_eq_true rfl) dX5_readLeafLine_147 (Nat.zero_le _) (Nat.zero_le _) ?_
                      obtain ⟨w1, w2⟩ := inS h
                      clear h
                      subst w1
                      subst w2
                      exact g_zret B hE (nar_bI _) (Nat.zero_le _) (Nat.zero_le _) dX5_readLeafLine_150
              · replace h := ifp (bI1 hc) h
                refine g_aload_n B 1 dX5_readLeafLine_96 rfl rfl ?_
                refine g_iload B 0 dX5_readLeafLine_97 rfl ?_
                replace h := bnP_s h
                obtain ⟨x291, h292, h⟩ := h
                refine g_callVs0 (st := []) B (cX4_isLostc h292) (Nat.le_of_ble_eq_true rfl) rfl rfl mi_X4_isLost lk_RX5_241 ⟨Nat.le_of_ble_eq_true rfl, Nat.le_of_ble_eq_true rfl⟩ rfl rfl (Nat.le_of_ble_eq_true rfl) dX5_readLeafLine_99 (Nat.zero_le _) (Nat.zero_le _) ?_
                refine g_if_eq B 114 dX5_readLeafLine_102 (by decide) (fun hc => ?_) (fun hc => ?_)
                · replace h := ifn (bI0 hc) h
                  refine g_iload_n B 3 dX5_readLeafLine_114 rfl rfl ?_
                  refine g_if_ne B 140 dX5_readLeafLine_115 (by decide) (fun hc => ?_) (fun hc => ?_)
                  · replace h := ifp (bI1 hc) h
                    refine g_aload_n B 4 dX5_readLeafLine_140 rfl rfl ?_
                    refine g_iconst (v := 3) B dX5_readLeafLine_141 (by decide) ?_
                    replace h := bnS_s h
                    obtain ⟨x293, s295, h294, h⟩ := h
                    refine g_callVs0 (st := []) B (cX5_failc h294) (Nat.le_of_ble_eq_true rfl) rfl rfl mi_X5_fail lk_RX5_51 ⟨Nat.le_of_ble_eq_true rfl, Nat.le_of_ble_eq_true rfl⟩ rfl rfl (Nat.le_of_ble_eq_true rfl) dX5_readLeafLine_142 (Nat.zero_le _) (Nat.zero_le _) ?_
                    obtain ⟨w1, w2⟩ := inS h
                    clear h
                    subst w1
                    subst w2
                    exact g_zret B hE (nar_bI _) (Nat.zero_le _) (Nat.zero_le _) dX5_readLeafLine_145
                  · replace h := ifn (bI0 hc) h
                    refine g_iload_n B 2 dX5_readLeafLine_118 rfl rfl ?_
                    refine g_if_ne B 140 dX5_readLeafLine_119 (by decide) (fun hc => ?_) (fun hc => ?_)
                    · replace h := ifp (bI1 hc) h
                      refine g_aload_n B 4 dX5_readLeafLine_140 rfl rfl ?_
                      refine g_iconst (v := 3) B dX5_readLeafLine_141 (by decide) ?_
                      replace h := bnS_s h
                      obtain ⟨x296, s298, h297, h⟩ := h
                      refine g_callVs0 (st := []) B (cX5_failc h297) (Nat.le_of_ble_eq_true rfl) rfl rfl mi_X5_fail lk_RX5_51 ⟨Nat.le_of_ble_eq_true rfl, Nat.le_of_ble_eq_true rfl⟩ rfl rfl (Nat.le_of_ble_eq_true rfl) dX5_readLeafLine_142 (Nat.zero_le _) (Nat.zero_le _) ?_
                      obtain ⟨w1, w2⟩ := inS h
                      clear h
                      subst w1
                      subst w2
                      exact g_zret B hE (nar_bI _) (Nat.zero_le _) (Nat.zero_le _) dX5_readLeafLine_145
                    · replace h := ifn (bI0 hc) h
                      refine g_aload_n B 1 dX5_readLeafLine_122 rfl rfl ?_
                      refine g_iload B 0 dX5_readLeafLine_123 rfl ?_
                      replace h := bnP_s h
                      obtain ⟨x299, h300, h⟩ := h
                      refine g_callVs0 (st := []) B (cX4_isLoosec h300) (Nat.le_of_ble_eq_true rfl) rfl rfl mi_X4_isLoose lk_RX5_250 ⟨Nat.le_of_ble_eq_true rfl, Nat.le_of_ble_eq_true rfl⟩ rfl rfl (Nat.le_of_ble_eq_true rfl) dX5_readLeafLine_125 (Nat.zero_le _) (Nat.zero_le _) ?_
                      refine g_if_eq B 140 dX5_readLeafLine_128 (by decide) (fun hc => ?_) (fun hc => ?_)
                      · replace h := ifn (bI0 hc) h
                        refine g_aload_n B 4 dX5_readLeafLine_140 rfl rfl ?_
                        refine g_iconst (v := 3) B dX5_readLeafLine_141 (by decide) ?_
                        replace h := bnS_s h
                        obtain ⟨x301, s303, h302, h⟩ := h
                        refine g_callVs0 (st := []) B (cX5_failc h302) (Nat.le_of_ble_eq_true rfl) rfl rfl mi_X5_fail lk_RX5_51 ⟨Nat.le_of_ble_eq_true rfl, Nat.le_of_ble_eq_true rfl⟩ rfl rfl (Nat.le_of_ble_eq_true rfl) dX5_readLeafLine_142 (Nat.zero_le _) (Nat.zero_le _) ?_
                        obtain ⟨w1, w2⟩ := inS h
                        clear h
                        subst w1
                        subst w2
                        exact g_zret B hE (nar_bI _) (Nat.zero_le _) (Nat.zero_le _) dX5_readLeafLine_145
                      · replace h := ifp (bI1 hc) h
                        refine g_aload_n B 1 dX5_readLeafLine_131 rfl rfl ?_
                        refine g_iload B 0 dX5_readLeafLine_132 rfl ?_
                        replace h := bnP_s h
                        obtain ⟨s306, h305, h⟩ := h
                        refine g_callVv0 (st := []) B (cX4_fastenc h305) (Nat.le_of_ble_eq_true rfl) rfl rfl mi_X4_fasten lk_RX5_253 ⟨Nat.le_of_ble_eq_true rfl, Nat.le_of_ble_eq_true rfl⟩ rfl rfl (Nat.le_of_ble_eq_true rfl) dX5_readLeafLine_134 (Nat.zero_le _) (Nat.zero_le _) ?_
                        refine g_goto B 146 dX5_readLeafLine_137 (by decide) ?_
                        refine g_aload_n B 4 dX5_readLeafLine_146 rfl rfl ?_
                        replace h := bnS_s h
                        obtain ⟨x307, s309, h308, h⟩ := h
                        refine g_callVs0 (st := []) B (cX5_finishLinec h308) (Nat.le_of_ble_eq_true rfl) rfl rfl mi_X5_finishLine lk_RX5_102 ⟨Nat.le_of_ble_eq_true rfl, Nat.le_of_ble_eq_true rfl⟩ rfl rfl (Nat.le_of_ble_eq_true rfl) dX5_readLeafLine_147 (Nat.zero_le _) (Nat.zero_le _) ?_
                        obtain ⟨w1, w2⟩ := inS h
                        clear h
                        subst w1
                        subst w2
                        exact g_zret B hE (nar_bI _) (Nat.zero_le _) (Nat.zero_le _) dX5_readLeafLine_150
                · replace h := ifp (bI1 hc) h
                  refine g_aload_n B 1 dX5_readLeafLine_105 rfl rfl ?_
                  refine g_iload B 0 dX5_readLeafLine_106 rfl ?_
                  replace h := bnP_s h
                  obtain ⟨s312, h311, h⟩ := h
                  refine g_callVv0 (st := []) B (cX4_bringBackc h311) (Nat.le_of_ble_eq_true rfl) rfl rfl mi_X4_bringBack lk_RX5_247 ⟨Nat.le_of_ble_eq_true rfl, Nat.le_of_ble_eq_true rfl⟩ rfl rfl (Nat.le_of_ble_eq_true rfl) dX5_readLeafLine_108 (Nat.zero_le _) (Nat.zero_le _) ?_
                  refine g_goto B 146 dX5_readLeafLine_111 (by decide) ?_
                  refine g_aload_n B 4 dX5_readLeafLine_146 rfl rfl ?_
                  replace h := bnS_s h
                  obtain ⟨x313, s315, h314, h⟩ := h
                  refine g_callVs0 (st := []) B (cX5_finishLinec h314) (Nat.le_of_ble_eq_true rfl) rfl rfl mi_X5_finishLine lk_RX5_102 ⟨Nat.le_of_ble_eq_true rfl, Nat.le_of_ble_eq_true rfl⟩ rfl rfl (Nat.le_of_ble_eq_true rfl) dX5_readLeafLine_147 (Nat.zero_le _) (Nat.zero_le _) ?_
                  obtain ⟨w1, w2⟩ := inS h
                  clear h
                  subst w1
                  subst w2
                  exact g_zret B hE (nar_bI _) (Nat.zero_le _) (Nat.zero_le _) dX5_readLeafLine_150
            · replace h := ifn (bI0 hc) h
              refine g_aload_n B 1 dX5_readLeafLine_83 rfl rfl ?_
              refine g_iload B 0 dX5_readLeafLine_84 rfl ?_
              replace h := bnP_s h
              obtain ⟨s318, h317, h⟩ := h
              refine g_callVv0 (st := []) B (cX4_dropc h317) (Nat.le_of_ble_eq_true rfl) rfl rfl mi_X4_drop lk_RX5_244 ⟨Nat.le_of_ble_eq_true rfl, Nat.le_of_ble_eq_true rfl⟩ rfl rfl (Nat.le_of_ble_eq_true rfl) dX5_readLeafLine_86 (Nat.zero_le _) (Nat.zero_le _) ?_
              refine g_goto B 146 dX5_readLeafLine_89 (by decide) ?_
              refine g_aload_n B 4 dX5_readLeafLine_146 rfl rfl ?_
              replace h := bnS_s h
              obtain ⟨x319, s321, h320, h⟩ := h
              refine g_callVs0 (st := []) B (cX5_finishLinec h320) (Nat.le_of_ble_eq_true rfl) rfl rfl mi_X5_finishLine lk_RX5_102 ⟨Nat.le_of_ble_eq_true rfl, Nat.le_of_ble_eq_true rfl⟩ rfl rfl (Nat.le_of_ble_eq_true rfl) dX5_readLeafLine_147 (Nat.zero_le _) (Nat.zero_le _) ?_
              obtain ⟨w1, w2⟩ := inS h
              clear h
              subst w1
              subst w2
              exact g_zret B hE (nar_bI _) (Nat.zero_le _) (Nat.zero_le _) dX5_readLeafLine_150
        · replace h := ifn (bI0 hc) h
          refine g_iconst (v := 0) B dX5_readLeafLine_59 (by decide) ?_
          obtain ⟨w1, w2⟩ := inS h
          clear h
          subst w1
          subst w2
          exact g_zret B hE rfl (Nat.zero_le _) (Nat.zero_le _) dX5_readLeafLine_60
      · replace h := ifn (bI0 hc) h
        refine g_aload_n B 2 dX5_readLeafLine_31 rfl rfl ?_
        refine g_iconst (v := 1) B dX5_readLeafLine_32 (by decide) ?_
        replace h := bnS_s h
        obtain ⟨x322, s324, h323, h⟩ := h
        refine g_callVs0 (st := []) B (cX5_failc h323) (Nat.le_of_ble_eq_true rfl) rfl rfl mi_X5_fail lk_RX5_51 ⟨Nat.le_of_ble_eq_true rfl, Nat.le_of_ble_eq_true rfl⟩ rfl rfl (Nat.le_of_ble_eq_true rfl) dX5_readLeafLine_33 (Nat.zero_le _) (Nat.zero_le _) ?_
        obtain ⟨w1, w2⟩ := inS h
        clear h
        subst w1
        subst w2
        exact g_zret B hE (nar_bI _) (Nat.zero_le _) (Nat.zero_le _) dX5_readLeafLine_36
set_option maxRecDepth 100000 in
set_option maxHeartbeats 4000000 in
theorem cX5_readLinec {l : Launch} {v0 : Option Nat} {σ : HpT} {r : Bool} {σ' : HpT} (h : fX5_readLine v0 σ = some (r, σ')) : IsK σ v0 5 ∧ Ct l yX5_readLine cX5_readLine 1 (some .boolean) 8 170 [va_rf v0] σ (.ok (some (.int (bI r)))) σ' 0 0 := by
  unfold fX5_readLine at h
  replace h := bnP_s h
  obtain ⟨u, hk, h⟩ := h
  replace hk := isK_s hk
  refine ⟨hk, ?_⟩
  refine ct_start mi_X5_readLine.1 rfl (al_le (al_1 (rf_cat _) al_n) (Nat.le_of_ble_eq_true rfl)) (ag_1 (rf_cat _) ag_n) (fun Δ Γ B hE hnm => ?_)
  refine g_aload_n B 0 dX5_readLine_0 rfl rfl ?_
  refine g_ldcS B (j := 2) rfl dX5_readLine_1 ?_
  replace h := bnP_s h
  obtain ⟨x1, h2, h⟩ := h
  refine g_callVs0 (st := []) B (cX5_isAtWordc h2) (Nat.le_of_ble_eq_true rfl) rfl rfl mi_X5_isAtWord lk_RX5_80 ⟨Nat.le_of_ble_eq_true rfl, Nat.le_of_ble_eq_true rfl⟩ rfl rfl (Nat.le_of_ble_eq_true rfl) dX5_readLine_3 (Nat.zero_le _) (Nat.zero_le _) ?_
  refine g_if_eq B 14 dX5_readLine_6 (by decide) (fun hc => ?_) (fun hc => ?_)
  · replace h := ifn (bI0 hc) h
    refine g_aload_n B 0 dX5_readLine_14 rfl rfl ?_
    refine g_ldcS B (j := 6) rfl dX5_readLine_15 ?_
    replace h := bnP_s h
    obtain ⟨x3, h4, h⟩ := h
    refine g_callVs0 (st := []) B (cX5_isAtWordc h4) (Nat.le_of_ble_eq_true rfl) rfl rfl mi_X5_isAtWord lk_RX5_80 ⟨Nat.le_of_ble_eq_true rfl, Nat.le_of_ble_eq_true rfl⟩ rfl rfl (Nat.le_of_ble_eq_true rfl) dX5_readLine_17 (Nat.zero_le _) (Nat.zero_le _) ?_
    refine g_if_eq B 28 dX5_readLine_20 (by decide) (fun hc => ?_) (fun hc => ?_)
    · replace h := ifn (bI0 hc) h
      refine g_aload_n B 0 dX5_readLine_28 rfl rfl ?_
      refine g_ldcS B (j := 7) rfl dX5_readLine_29 ?_
      replace h := bnP_s h
      obtain ⟨x5, h6, h⟩ := h
      refine g_callVs0 (st := []) B (cX5_isAtWordc h6) (Nat.le_of_ble_eq_true rfl) rfl rfl mi_X5_isAtWord lk_RX5_80 ⟨Nat.le_of_ble_eq_true rfl, Nat.le_of_ble_eq_true rfl⟩ rfl rfl (Nat.le_of_ble_eq_true rfl) dX5_readLine_31 (Nat.zero_le _) (Nat.zero_le _) ?_
      refine g_if_eq B 42 dX5_readLine_34 (by decide) (fun hc => ?_) (fun hc => ?_)
      · replace h := ifn (bI0 hc) h
        refine g_aload_n B 0 dX5_readLine_42 rfl rfl ?_
        refine g_ldcS B (j := 8) rfl dX5_readLine_43 ?_
        replace h := bnP_s h
        obtain ⟨x7, h8, h⟩ := h
        refine g_callVs0 (st := []) B (cX5_isAtWordc h8) (Nat.le_of_ble_eq_true rfl) rfl rfl mi_X5_isAtWord lk_RX5_80 ⟨Nat.le_of_ble_eq_true rfl, Nat.le_of_ble_eq_true rfl⟩ rfl rfl (Nat.le_of_ble_eq_true rfl) dX5_readLine_45 (Nat.zero_le _) (Nat.zero_le _) ?_
        refine g_if_eq B 56 dX5_readLine_48 (by decide) (fun hc => ?_) (fun hc => ?_)
        · replace h := ifn (bI0 hc) h
          refine g_aload_n B 0 dX5_readLine_56 rfl rfl ?_
          refine g_ldcS B (j := 9) rfl dX5_readLine_57 ?_
          replace h := bnP_s h
          obtain ⟨x9, h10, h⟩ := h
          refine g_callVs0 (st := []) B (cX5_isAtWordc h10) (Nat.le_of_ble_eq_true rfl) rfl rfl mi_X5_isAtWord lk_RX5_80 ⟨Nat.le_of_ble_eq_true rfl, Nat.le_of_ble_eq_true rfl⟩ rfl rfl (Nat.le_of_ble_eq_true rfl) dX5_readLine_59 (Nat.zero_le _) (Nat.zero_le _) ?_
          refine g_if_eq B 70 dX5_readLine_62 (by decide) (fun hc => ?_) (fun hc => ?_)
          · replace h := ifn (bI0 hc) h
            refine g_aload_n B 0 dX5_readLine_70 rfl rfl ?_
            refine g_ldcS B (j := 10) rfl dX5_readLine_71 ?_
            replace h := bnP_s h
            obtain ⟨x11, h12, h⟩ := h
            refine g_callVs0 (st := []) B (cX5_isAtWordc h12) (Nat.le_of_ble_eq_true rfl) rfl rfl mi_X5_isAtWord lk_RX5_80 ⟨Nat.le_of_ble_eq_true rfl, Nat.le_of_ble_eq_true rfl⟩ rfl rfl (Nat.le_of_ble_eq_true rfl) dX5_readLine_73 (Nat.zero_le _) (Nat.zero_le _) ?_
            refine g_if_eq B 84 dX5_readLine_76 (by decide) (fun hc => ?_) (fun hc => ?_)
            · replace h := ifn (bI0 hc) h
              refine g_aload_n B 0 dX5_readLine_84 rfl rfl ?_
              refine g_ldcS B (j := 11) rfl dX5_readLine_85 ?_
              replace h := bnP_s h
              obtain ⟨x13, h14, h⟩ := h
              refine g_callVs0 (st := []) B (cX5_isAtWordc h14) (Nat.le_of_ble_eq_true rfl) rfl rfl mi_X5_isAtWord lk_RX5_80 ⟨Nat.le_of_ble_eq_true rfl, Nat.le_of_ble_eq_true rfl⟩ rfl rfl (Nat.le_of_ble_eq_true rfl) dX5_readLine_87 (Nat.zero_le _) (Nat.zero_le _) ?_
              refine g_if_eq B 98 dX5_readLine_90 (by decide) (fun hc => ?_) (fun hc => ?_)
              · replace h := ifn (bI0 hc) h
                refine g_aload_n B 0 dX5_readLine_98 rfl rfl ?_
                refine g_ldcS B (j := 12) rfl dX5_readLine_99 ?_
                replace h := bnP_s h
                obtain ⟨x15, h16, h⟩ := h
                refine g_callVs0 (st := []) B (cX5_isAtWordc h16) (Nat.le_of_ble_eq_true rfl) rfl rfl mi_X5_isAtWord lk_RX5_80 ⟨Nat.le_of_ble_eq_true rfl, Nat.le_of_ble_eq_true rfl⟩ rfl rfl (Nat.le_of_ble_eq_true rfl) dX5_readLine_101 (Nat.zero_le _) (Nat.zero_le _) ?_
                refine g_if_eq B 123 dX5_readLine_104 (by decide) (fun hc => ?_) (fun hc => ?_)
                · replace h := ifn (bI0 hc) h
                  refine g_aload_n B 0 dX5_readLine_123 rfl rfl ?_
                  replace h := bnS_s h
                  obtain ⟨x17, s19, h18, h⟩ := h
                  refine g_callVs0 (st := []) B (cX5_readLeafLinec h18) (Nat.le_of_ble_eq_true rfl) rfl rfl mi_X5_readLeafLine lk_RX5_146 ⟨Nat.le_of_ble_eq_true rfl, Nat.le_of_ble_eq_true rfl⟩ rfl rfl (Nat.le_of_ble_eq_true rfl) dX5_readLine_124 (Nat.zero_le _) (Nat.zero_le _) ?_
                  obtain ⟨w1, w2⟩ := inS h
                  clear h
                  subst w1
                  subst w2
                  exact g_zret B hE (nar_bI _) (Nat.zero_le _) (Nat.zero_le _) dX5_readLine_127
                · replace h := ifp (bI1 hc) h
                  refine g_aload_n B 0 dX5_readLine_107 rfl rfl ?_
                  replace h := bnP_s h
                  obtain ⟨x20, h21, h⟩ := h
                  refine g_getR B fl_RX5_28 (by decide) dX5_readLine_108 h21 ?_
                  replace h := bnP_s h
                  obtain ⟨x22, h23, h⟩ := h
                  refine g_getRg B fl_RX5_93 (by decide) dX5_readLine_111 h23 ?_
                  replace h := bnS_s h
                  obtain ⟨x24, s26, h25, h⟩ := h
                  refine g_callVs0 (st := []) B (cX4_dropLoosec h25) (Nat.le_of_ble_eq_true rfl) rfl rfl mi_X4_dropLoose lk_RX5_142 ⟨Nat.le_of_ble_eq_true rfl, Nat.le_of_ble_eq_true rfl⟩ rfl rfl (Nat.le_of_ble_eq_true rfl) dX5_readLine_114 (Nat.zero_le _) (Nat.zero_le _) ?_
                  refine g_pop B dX5_readLine_117 rfl ?_
                  refine g_aload_n B 0 dX5_readLine_118 rfl rfl ?_
                  replace h := bnS_s h
                  obtain ⟨x27, s29, h28, h⟩ := h
                  refine g_callVs0 (st := []) B (cX5_finishLinec h28) (Nat.le_of_ble_eq_true rfl) rfl rfl mi_X5_finishLine lk_RX5_102 ⟨Nat.le_of_ble_eq_true rfl, Nat.le_of_ble_eq_true rfl⟩ rfl rfl (Nat.le_of_ble_eq_true rfl) dX5_readLine_119 (Nat.zero_le _) (Nat.zero_le _) ?_
                  obtain ⟨w1, w2⟩ := inS h
                  clear h
                  subst w1
                  subst w2
                  exact g_zret B hE (nar_bI _) (Nat.zero_le _) (Nat.zero_le _) dX5_readLine_122
              · replace h := ifp (bI1 hc) h
                refine g_aload_n B 0 dX5_readLine_93 rfl rfl ?_
                replace h := bnS_s h
                obtain ⟨x30, s32, h31, h⟩ := h
                refine g_callVs0 (st := []) B (cX5_readCopyLinec h31) (Nat.le_of_ble_eq_true rfl) rfl rfl mi_X5_readCopyLine lk_RX5_137 ⟨Nat.le_of_ble_eq_true rfl, Nat.le_of_ble_eq_true rfl⟩ rfl rfl (Nat.le_of_ble_eq_true rfl) dX5_readLine_94 (Nat.zero_le _) (Nat.zero_le _) ?_
                obtain ⟨w1, w2⟩ := inS h
                clear h
                subst w1
                subst w2
                exact g_zret B hE (nar_bI _) (Nat.zero_le _) (Nat.zero_le _) dX5_readLine_97
            · replace h := ifp (bI1 hc) h
              refine g_aload_n B 0 dX5_readLine_79 rfl rfl ?_
              replace h := bnS_s h
              obtain ⟨x33, s35, h34, h⟩ := h
              refine g_callVs0 (st := []) B (cX5_readCancelLinec h34) (Nat.le_of_ble_eq_true rfl) rfl rfl mi_X5_readCancelLine lk_RX5_132 ⟨Nat.le_of_ble_eq_true rfl, Nat.le_of_ble_eq_true rfl⟩ rfl rfl (Nat.le_of_ble_eq_true rfl) dX5_readLine_80 (Nat.zero_le _) (Nat.zero_le _) ?_
              obtain ⟨w1, w2⟩ := inS h
              clear h
              subst w1
              subst w2
              exact g_zret B hE (nar_bI _) (Nat.zero_le _) (Nat.zero_le _) dX5_readLine_83
          · replace h := ifp (bI1 hc) h
            refine g_aload_n B 0 dX5_readLine_65 rfl rfl ?_
            replace h := bnS_s h
            obtain ⟨x36, s38, h37, h⟩ := h
            refine g_callVs0 (st := []) B (cX5_readSealLinec h37) (Nat.le_of_ble_eq_true rfl) rfl rfl mi_X5_readSealLine lk_RX5_127 ⟨Nat.le_of_ble_eq_true rfl, Nat.le_of_ble_eq_true rfl⟩ rfl rfl (Nat.le_of_ble_eq_true rfl) dX5_readLine_66 (Nat.zero_le _) (Nat.zero_le _) ?_
            obtain ⟨w1, w2⟩ := inS h
            clear h
            subst w1
            subst w2
            exact g_zret B hE (nar_bI _) (Nat.zero_le _) (Nat.zero_le _) dX5_readLine_69
        · replace h := ifp (bI1 hc) h
          refine g_aload_n B 0 dX5_readLine_51 rfl rfl ?_
          replace h := bnS_s h
          obtain ⟨x39, s41, h40, h⟩ := h
          refine g_callVs0 (st := []) B (cX5_readInsertLinec h40) (Nat.le_of_ble_eq_true rfl) rfl rfl mi_X5_readInsertLine lk_RX5_122 ⟨Nat.le_of_ble_eq_true rfl, Nat.le_of_ble_eq_true rfl⟩ rfl rfl (Nat.le_of_ble_eq_true rfl) dX5_readLine_52 (Nat.zero_le _) (Nat.zero_le _) ?_
          obtain ⟨w1, w2⟩ := inS h
          clear h
          subst w1
          subst w2
          exact g_zret B hE (nar_bI _) (Nat.zero_le _) (Nat.zero_le _) dX5_readLine_55
      · replace h := ifp (bI1 hc) h
        refine g_aload_n B 0 dX5_readLine_37 rfl rfl ?_
        replace h := bnS_s h
        obtain ⟨x42, s44, h43, h⟩ := h
        refine g_callVs0 (st := []) B (cX5_readOutLinec h43) (Nat.le_of_ble_eq_true rfl) rfl rfl mi_X5_readOutLine lk_RX5_117 ⟨Nat.le_of_ble_eq_true rfl, Nat.le_of_ble_eq_true rfl⟩ rfl rfl (Nat.le_of_ble_eq_true rfl) dX5_readLine_38 (Nat.zero_le _) (Nat.zero_le _) ?_
        obtain ⟨w1, w2⟩ := inS h
        clear h
        subst w1
        subst w2
        exact g_zret B hE (nar_bI _) (Nat.zero_le _) (Nat.zero_le _) dX5_readLine_41
    · replace h := ifp (bI1 hc) h
      refine g_aload_n B 0 dX5_readLine_23 rfl rfl ?_
      replace h := bnS_s h
      obtain ⟨x45, s47, h46, h⟩ := h
      refine g_callVs0 (st := []) B (cX5_readStrikeLinec h46) (Nat.le_of_ble_eq_true rfl) rfl rfl mi_X5_readStrikeLine lk_RX5_112 ⟨Nat.le_of_ble_eq_true rfl, Nat.le_of_ble_eq_true rfl⟩ rfl rfl (Nat.le_of_ble_eq_true rfl) dX5_readLine_24 (Nat.zero_le _) (Nat.zero_le _) ?_
      obtain ⟨w1, w2⟩ := inS h
      clear h
      subst w1
      subst w2
      exact g_zret B hE (nar_bI _) (Nat.zero_le _) (Nat.zero_le _) dX5_readLine_27
  · replace h := ifp (bI1 hc) h
    refine g_aload_n B 0 dX5_readLine_9 rfl rfl ?_
    replace h := bnS_s h
    obtain ⟨x48, s50, h49, h⟩ := h
    refine g_callVs0 (st := []) B (cX5_readActLinec h49) (Nat.le_of_ble_eq_true rfl) rfl rfl mi_X5_readActLine lk_RX5_107 ⟨Nat.le_of_ble_eq_true rfl, Nat.le_of_ble_eq_true rfl⟩ rfl rfl (Nat.le_of_ble_eq_true rfl) dX5_readLine_10 (Nat.zero_le _) (Nat.zero_le _) ?_
    obtain ⟨w1, w2⟩ := inS h
    clear h
    subst w1
    subst w2
    exact g_zret B hE (nar_bI _) (Nat.zero_le _) (Nat.zero_le _) dX5_readLine_13
set_option maxRecDepth 100000 in
set_option maxHeartbeats 4000000 in
theorem cX5_readTextc {l : Launch} {v0 : Option Nat} {v1 : Option Nat} {v2 : Int32} {v3 : Option Nat} {σ : HpT} {r : Bool} {σ' : HpT} (h : fX5_readText v0 v1 v2 v3 σ = some (r, σ')) : IsK σ v0 5 ∧ Ct l yX5_readText cX5_readText 5 (some .boolean) 9 190 [va_rf v0, va_rf v1, .int v2, va_rf v3] σ (.ok (some (.int (bI r)))) σ' 0 0 := by
  unfold fX5_readText at h
  replace h := bnP_s h
  obtain ⟨u, hk, h⟩ := h
  replace hk := isK_s hk
  refine ⟨hk, ?_⟩
  refine ct_start mi_X5_readText.1 rfl (al_le (al_1 (rf_cat _) (al_1 (rf_cat _) (al_1 rfl (al_1 (rf_cat _) al_n)))) (Nat.le_of_ble_eq_true rfl)) (ag_1 (rf_cat _) (ag_1 (rf_cat _) (ag_1 rfl (ag_1 (rf_cat _) ag_n)))) (fun Δ Γ B hE hnm => ?_)
  refine g_aload_n B 0 dX5_readText_0 rfl rfl ?_
  refine g_aload_n B 3 dX5_readText_1 rfl rfl ?_
  replace h := bnP_s h
  obtain ⟨s3, h2, h⟩ := h
  refine g_putR B fl_RX5_28 (by decide) (Or.inl ⟨_, rfl⟩) dX5_readText_2 h2 ?_
  refine g_aload_n B 0 dX5_readText_5 rfl rfl ?_
  replace h := bnP_s h
  obtain ⟨x4, h5, h⟩ := h
  refine g_getR B fl_RX5_28 (by decide) dX5_readText_6 h5 ?_
  replace h := bnP_s h
  obtain ⟨s8, h7, h⟩ := h
  refine g_callVv0 (st := []) B (cX1_clearc h7) (Nat.le_of_ble_eq_true rfl) rfl rfl mi_X1_clear lk_RX5_32 ⟨Nat.le_of_ble_eq_true rfl, Nat.le_of_ble_eq_true rfl⟩ rfl rfl (Nat.le_of_ble_eq_true rfl) dX5_readText_9 (Nat.zero_le _) (Nat.zero_le _) ?_
  refine g_aload_n B 0 dX5_readText_12 rfl rfl ?_
  replace h := bnP_s h
  obtain ⟨x9, h10, h⟩ := h
  refine g_getR B fl_RX5_12 (by decide) dX5_readText_13 h10 ?_
  refine g_aload_n B 1 dX5_readText_16 rfl rfl ?_
  refine g_iload_n B 2 dX5_readText_17 rfl rfl ?_
  replace h := bnP_s h
  obtain ⟨s13, h12, h⟩ := h
  refine g_callVv0 (st := []) B (cX7_startAtc h12) (Nat.le_of_ble_eq_true rfl) rfl rfl mi_X7_startAt lk_RX5_37 ⟨Nat.le_of_ble_eq_true rfl, Nat.le_of_ble_eq_true rfl⟩ rfl rfl (Nat.le_of_ble_eq_true rfl) dX5_readText_18 (Nat.zero_le _) (Nat.zero_le _) ?_
  refine g_aload_n B 0 dX5_readText_21 rfl rfl ?_
  replace h := bnS_s h
  obtain ⟨x14, s16, h15, h⟩ := h
  refine g_callVs0 (st := []) B (cX5_readHeadc h15) (Nat.le_of_ble_eq_true rfl) rfl rfl mi_X5_readHead lk_RX5_41 ⟨Nat.le_of_ble_eq_true rfl, Nat.le_of_ble_eq_true rfl⟩ rfl rfl (Nat.le_of_ble_eq_true rfl) dX5_readText_22 (Nat.zero_le _) (Nat.zero_le _) ?_
  refine g_if_ne B 30 dX5_readText_25 (by decide) (fun hc => ?_) (fun hc => ?_)
  · replace h := ifp (bI1 hc) h
    refine g_iconst (v := 0) B dX5_readText_30 (by decide) ?_
    refine g_istore B dX5_readText_31 (Nat.le_of_ble_eq_true rfl) (s1_c (f1_k rfl (f1_k rfl (f1_k rfl (f1_1 rfl (rf_cat _) f1_n))))) ?_
    replace h := bnS_s h
    obtain ⟨r18, s51, h19, h⟩ := h
    have kE20 : ∀ y50, r18 = .inl y50 → GW Δ Γ (0) (0) 96 [(0, va_rf v0)] [] s51 := by
      intro y50 er
      subst er
      dsimp only at h
      refine g_aload_n B 0 dX5_readText_96 rfl rfl ?_
      refine g_iconst (v := 1) B dX5_readText_97 (by decide) ?_
      replace h := bnS_s h
      obtain ⟨x52, s54, h53, h⟩ := h
      refine g_callVs0 (st := []) B (cX5_failc h53) (Nat.le_of_ble_eq_true rfl) rfl rfl mi_X5_fail lk_RX5_51 ⟨Nat.le_of_ble_eq_true rfl, Nat.le_of_ble_eq_true rfl⟩ rfl rfl (Nat.le_of_ble_eq_true rfl) dX5_readText_98 (Nat.zero_le _) (Nat.zero_le _) ?_
      obtain ⟨w1, w2⟩ := inS h
      clear h
      subst w1
      subst w2
      exact g_zret B hE (nar_bI _) (Nat.zero_le _) (Nat.zero_le _) dX5_readText_101
    have kR21 : ∀ vv, r18 = .inr vv → En Δ Γ (.ok (some (.int (bI vv)))) s51 0 0 (some .boolean) ∧ 0 ≤ 0 ∧ 0 ≤ 0 := by
      intro vv er
      subst er
      dsimp only at h
      obtain ⟨w1, w2⟩ := inS h
      clear h
      subst w1
      subst w2
      exact ⟨hE, Nat.zero_le _, Nat.zero_le _⟩
    clear h
    refine g_sub [1, 0] rfl ?_
    refine lpS_w (I := fun q17 s26 => GW Δ Γ (0) (0) 33 [(0, va_rf v0), (4, .int q17)] [] s26) (r := r18) (σr := s51) ?_ FUEL 0 s16 h19
    intro q17 s26 x24 s9 h hI22 hR23
    unfold fX5_readText_l1 at h
    refine g_iload B 1 dX5_readText_33 rfl ?_
    refine g_aload_n B 0 dX5_readText_35 rfl rfl ?_
    replace h := bnP_s h
    obtain ⟨x27, h28, h⟩ := h
    refine g_getR B fl_RX5_12 (by decide) dX5_readText_36 h28 ?_
    replace h := bnP_s h
    obtain ⟨x29, h30, h⟩ := h
    refine g_getI B fl_RX5_45 (by decide) dX5_readText_39 h30 ?_
    refine g_icmp_gt B 96 dX5_readText_42 (by decide) (fun hc => ?_) (fun hc => ?_)
    · replace h := ifp hc h
      obtain ⟨w1, w2⟩ := inS h
      clear h
      subst w1
      subst w2
      obtain ⟨e8, e7⟩ := hR23 _ rfl
      subst e8
      subst e7
      exact g_sub [0] rfl (kE20 _ rfl)
    · replace h := ifn hc h
      refine g_aload_n B 0 dX5_readText_45 rfl rfl ?_
      replace h := bnP_s h
      obtain ⟨x31, h32, h⟩ := h
      refine g_getR B fl_RX5_12 (by decide) dX5_readText_46 h32 ?_
      replace h := bnP_s h
      obtain ⟨x33, h34, h⟩ := h
      refine g_getI B fl_RX5_48 (by decide) dX5_readText_49 h34 ?_
      refine g_if_ne B 57 dX5_readText_52 (by decide) (fun hc => ?_) (fun hc => ?_)
      · replace h := ifn hc h
        refine g_aload_n B 0 dX5_readText_57 rfl rfl ?_
        replace h := bnP_s h
        obtain ⟨x35, h36, h⟩ := h
        refine g_getR B fl_RX5_12 (by decide) dX5_readText_58 h36 ?_
        replace h := bnP_s h
        obtain ⟨x37, h38, h⟩ := h
        refine g_getI B fl_RX5_48 (by decide) dX5_readText_61 h38 ?_
        refine g_iconst (v := 3) B dX5_readText_64 (by decide) ?_
        refine g_icmp_eq B 74 dX5_readText_65 (by decide) (fun hc => ?_) (fun hc => ?_)
        · replace h := ifp hc h
          refine g_aload_n B 0 dX5_readText_74 rfl rfl ?_
          replace h := bnP_s h
          obtain ⟨x39, h40, h⟩ := h
          refine g_getR B fl_RX5_12 (by decide) dX5_readText_75 h40 ?_
          replace h := bnP_s h
          obtain ⟨s43, h42, h⟩ := h
          refine g_callVv0 (st := []) B (cX7_stepc h42) (Nat.le_of_ble_eq_true rfl) rfl rfl mi_X7_step lk_RX5_55 ⟨Nat.le_of_ble_eq_true rfl, Nat.le_of_ble_eq_true rfl⟩ rfl rfl (Nat.le_of_ble_eq_true rfl) dX5_readText_78 (Nat.zero_le _) (Nat.zero_le _) ?_
          refine g_aload_n B 0 dX5_readText_81 rfl rfl ?_
          replace h := bnS_s h
          obtain ⟨x44, s46, h45, h⟩ := h
          refine g_callVs0 (st := []) B (cX5_readLinec h45) (Nat.le_of_ble_eq_true rfl) rfl rfl mi_X5_readLine lk_RX5_58 ⟨Nat.le_of_ble_eq_true rfl, Nat.le_of_ble_eq_true rfl⟩ rfl rfl (Nat.le_of_ble_eq_true rfl) dX5_readText_82 (Nat.zero_le _) (Nat.zero_le _) ?_
          refine g_if_ne B 90 dX5_readText_85 (by decide) (fun hc => ?_) (fun hc => ?_)
          · replace h := ifp (bI1 hc) h
            refine g_iinc (v := (q17 + 1)) B 1 dX5_readText_90 rfl (by first | rfl | (congr 1; decide)) (Nat.le_of_ble_eq_true rfl) (s1_c (f1_k rfl (f1_x f1_n))) ?_
            refine g_goto B 33 dX5_readText_93 (by decide) ?_
            obtain ⟨w1, w2⟩ := inS h
            clear h
            subst w1
            subst w2
            exact g_sub [1, 0] rfl (hI22 _ rfl)
          · replace h := ifn (bI0 hc) h
            refine g_iconst (v := 0) B dX5_readText_88 (by decide) ?_
            obtain ⟨w1, w2⟩ := inS h
            clear h
            subst w1
            subst w2
            obtain ⟨e8, e7⟩ := hR23 _ rfl
            subst e7
            obtain ⟨hE, hc9, hs9⟩ := kR21 _ e8.symm
            exact g_zret B hE rfl hc9 hs9 dX5_readText_89
        · replace h := ifn hc h
          refine g_aload_n B 0 dX5_readText_68 rfl rfl ?_
          refine g_iconst (v := 1) B dX5_readText_69 (by decide) ?_
          replace h := bnS_s h
          obtain ⟨x47, s49, h48, h⟩ := h
          refine g_callVs0 (st := []) B (cX5_failc h48) (Nat.le_of_ble_eq_true rfl) rfl rfl mi_X5_fail lk_RX5_51 ⟨Nat.le_of_ble_eq_true rfl, Nat.le_of_ble_eq_true rfl⟩ rfl rfl (Nat.le_of_ble_eq_true rfl) dX5_readText_70 (Nat.zero_le _) (Nat.zero_le _) ?_
          obtain ⟨w1, w2⟩ := inS h
          clear h
          subst w1
          subst w2
          obtain ⟨e8, e7⟩ := hR23 _ rfl
          subst e7
          obtain ⟨hE, hc9, hs9⟩ := kR21 _ e8.symm
          exact g_zret B hE (nar_bI _) hc9 hs9 dX5_readText_73
      · replace h := ifp hc h
        refine g_iconst (v := 1) B dX5_readText_55 (by decide) ?_
        obtain ⟨w1, w2⟩ := inS h
        clear h
        subst w1
        subst w2
        obtain ⟨e8, e7⟩ := hR23 _ rfl
        subst e7
        obtain ⟨hE, hc9, hs9⟩ := kR21 _ e8.symm
        exact g_zret B hE rfl hc9 hs9 dX5_readText_56
  · replace h := ifn (bI0 hc) h
    refine g_iconst (v := 0) B dX5_readText_28 (by decide) ?_
    obtain ⟨w1, w2⟩ := inS h
    clear h
    subst w1
    subst w2
    exact g_zret B hE rfl (Nat.zero_le _) (Nat.zero_le _) dX5_readText_29
set_option maxRecDepth 100000 in
set_option maxHeartbeats 4000000 in
theorem cX5_readBodyAlonec {l : Launch} {v0 : Option Nat} {v1 : Option Nat} {v2 : Int32} {v3 : Option Nat} {σ : HpT} {r : Bool} {σ' : HpT} (h : fX5_readBodyAlone v0 v1 v2 v3 σ = some (r, σ')) : IsK σ v0 5 ∧ Ct l yX5_readBodyAlone cX5_readBodyAlone 4 (some .boolean) 4 86 [va_rf v0, va_rf v1, .int v2, va_rf v3] σ (.ok (some (.int (bI r)))) σ' 0 0 := by
  unfold fX5_readBodyAlone at h
  replace h := bnP_s h
  obtain ⟨u, hk, h⟩ := h
  replace hk := isK_s hk
  refine ⟨hk, ?_⟩
  refine ct_start mi_X5_readBodyAlone.1 rfl (al_le (al_1 (rf_cat _) (al_1 (rf_cat _) (al_1 rfl (al_1 (rf_cat _) al_n)))) (Nat.le_of_ble_eq_true rfl)) (ag_1 (rf_cat _) (ag_1 (rf_cat _) (ag_1 rfl (ag_1 (rf_cat _) ag_n)))) (fun Δ Γ B hE hnm => ?_)
  refine g_aload_n B 0 dX5_readBodyAlone_0 rfl rfl ?_
  refine g_aload_n B 3 dX5_readBodyAlone_1 rfl rfl ?_
  replace h := bnP_s h
  obtain ⟨s3, h2, h⟩ := h
  refine g_putR B fl_RX5_28 (by decide) (Or.inl ⟨_, rfl⟩) dX5_readBodyAlone_2 h2 ?_
  refine g_aload_n B 0 dX5_readBodyAlone_5 rfl rfl ?_
  replace h := bnP_s h
  obtain ⟨x4, h5, h⟩ := h
  refine g_getR B fl_RX5_12 (by decide) dX5_readBodyAlone_6 h5 ?_
  refine g_aload_n B 1 dX5_readBodyAlone_9 rfl rfl ?_
  refine g_iload_n B 2 dX5_readBodyAlone_10 rfl rfl ?_
  replace h := bnP_s h
  obtain ⟨s8, h7, h⟩ := h
  refine g_callVv0 (st := []) B (cX7_startAtc h7) (Nat.le_of_ble_eq_true rfl) rfl rfl mi_X7_startAt lk_RX5_37 ⟨Nat.le_of_ble_eq_true rfl, Nat.le_of_ble_eq_true rfl⟩ rfl rfl (Nat.le_of_ble_eq_true rfl) dX5_readBodyAlone_11 (Nat.zero_le _) (Nat.zero_le _) ?_
  refine g_aload_n B 0 dX5_readBodyAlone_14 rfl rfl ?_
  replace h := bnS_s h
  obtain ⟨x9, s11, h10, h⟩ := h
  refine g_callVs0 (st := []) B (cX5_readBodyc h10) (Nat.le_of_ble_eq_true rfl) rfl rfl mi_X5_readBody lk_RX5_61 ⟨Nat.le_of_ble_eq_true rfl, Nat.le_of_ble_eq_true rfl⟩ rfl rfl (Nat.le_of_ble_eq_true rfl) dX5_readBodyAlone_15 (Nat.zero_le _) (Nat.zero_le _) ?_
  refine g_if_eq B 35 dX5_readBodyAlone_18 (by decide) (fun hc => ?_) (fun hc => ?_)
  · replace h := ifn (bI0 hc) h
    refine g_iconst (v := 0) B dX5_readBodyAlone_35 (by decide) ?_
    obtain ⟨w1, w2⟩ := inS h
    clear h
    subst w1
    subst w2
    exact g_zret B hE rfl (Nat.zero_le _) (Nat.zero_le _) dX5_readBodyAlone_36
  · replace h := ifp (bI1 hc) h
    refine g_aload_n B 0 dX5_readBodyAlone_21 rfl rfl ?_
    replace h := bnP_s h
    obtain ⟨x12, h13, h⟩ := h
    refine g_getR B fl_RX5_12 (by decide) dX5_readBodyAlone_22 h13 ?_
    replace h := bnP_s h
    obtain ⟨x14, h15, h⟩ := h
    refine g_getI B fl_RX5_48 (by decide) dX5_readBodyAlone_25 h15 ?_
    refine g_if_ne B 35 dX5_readBodyAlone_28 (by decide) (fun hc => ?_) (fun hc => ?_)
    · replace h := ifn hc h
      refine g_iconst (v := 0) B dX5_readBodyAlone_35 (by decide) ?_
      obtain ⟨w1, w2⟩ := inS h
      clear h
      subst w1
      subst w2
      exact g_zret B hE rfl (Nat.zero_le _) (Nat.zero_le _) dX5_readBodyAlone_36
    · replace h := ifp hc h
      refine g_iconst (v := 1) B dX5_readBodyAlone_31 (by decide) ?_
      refine g_goto B 36 dX5_readBodyAlone_32 (by decide) ?_
      obtain ⟨w1, w2⟩ := inS h
      clear h
      subst w1
      subst w2
      exact g_zret B hE rfl (Nat.zero_le _) (Nat.zero_le _) dX5_readBodyAlone_36
set_option maxRecDepth 100000 in
set_option maxHeartbeats 4000000 in
theorem cX6_initc {l : Launch} {v0 : Option Nat} {σ : HpT} {o : Except Nat (Unit)} {σ' : HpT} {a b : Nat} (h : fX6_init v0 σ = some (o, σ', a, b)) : IsK σ v0 6 ∧ Ct l yX6_init cX6_init 1 none 3 62 [va_rf v0] σ (oU o) σ' a b := by
  unfold fX6_init at h
  replace h := bnP_s h
  obtain ⟨u, hk, h⟩ := h
  replace hk := isK_s hk
  refine ⟨hk, ?_⟩
  refine ct_start mi_X6_init.1 rfl (al_le (al_1 (rf_cat _) al_n) (Nat.le_of_ble_eq_true rfl)) (ag_1 (rf_cat _) ag_n) (fun Δ Γ B hE hnm => ?_)
  have hka : 0 + a = a := Nat.zero_add a
  have hkb : 0 + b = b := Nat.zero_add b
  have hla : a ≤ a := Nat.le_refl a
  have hlb : b ≤ b := Nat.le_refl b
  refine g_aload_n B 0 dX6_init_0 rfl rfl ?_
  refine g_objInit9 B hk obj_RX6_1 (by decide) (Nat.le_of_ble_eq_true rfl) dX6_init_1 ?_
  refine g_aload_n B 0 dX6_init_4 rfl rfl ?_
  replace h := bnA_s h
  rcases h with ⟨e9, h2, e8⟩ | ⟨x1, s3, a4, b5, a6, b7, h2, h, ea, eb⟩
  · exact absurd h2 (by simp [nwA, nwR]; try (split <;> simp))
  · subst ea; subst eb
    have hka := bk hka
    have hkb := bk hkb
    refine g_new B nw_RX6_7 dX6_init_5 h2 (Nat.le_trans (bm hka) hla) (Nat.le_trans (bm hkb) hlb) ?_
    refine g_dup B dX6_init_8 (rf_cat _) ?_
    replace h := bnA_s h
    rcases h with ⟨e9, h9, e8⟩ | ⟨x8, s10, a11, b12, a13, b14, h9, h, ea, eb⟩
    · subst e8
      exact g_callIx (st := [va_rf x1, va_rf v0]) B (cJ4_init_da8c8c (o := .error e9) h9) mi_J4_init_da8c8 lk_RX6_9 ⟨Nat.le_of_ble_eq_true rfl, Nat.le_of_ble_eq_true rfl⟩ rfl rfl (Nat.le_of_ble_eq_true rfl) dX6_init_9 (Nat.le_trans (Nat.le_of_eq hka) hla) (Nat.le_trans (Nat.le_of_eq hkb) hlb) hE
    · subst ea; subst eb
      have hka := bk hka
      have hkb := bk hkb
      refine g_callIvA (st := [va_rf x1, va_rf v0]) B (cJ4_init_da8c8c (o := .ok x8) h9) mi_J4_init_da8c8 lk_RX6_9 ⟨Nat.le_of_ble_eq_true rfl, Nat.le_of_ble_eq_true rfl⟩ rfl rfl (Nat.le_of_ble_eq_true rfl) dX6_init_9 (Nat.le_trans (bm hka) hla) (Nat.le_trans (bm hkb) hlb) ?_
      replace h := bnP_s h
      obtain ⟨s17, h16, h⟩ := h
      refine g_putRF B fl_RX6_10 (by decide) (Or.inl ⟨_, rfl⟩) hnm dX6_init_12 h16 ?_
      obtain ⟨w1, w2, w3, w4⟩ := inA h
      clear h
      subst w1
      subst w2
      subst w3
      subst w4
      exact g_vret B hE (Nat.le_trans (Nat.le_of_eq hka) hla) (Nat.le_trans (Nat.le_of_eq hkb) hlb) dX6_init_15
set_option maxRecDepth 100000 in
set_option maxHeartbeats 4000000 in
theorem cX6_startTextc {l : Launch} {v0 : Option Nat} {σ : HpT} {o : Except Nat (Unit)} {σ' : HpT} {a b : Nat} (h : fX6_startText v0 σ = some (o, σ', a, b)) : IsK σ v0 6 ∧ Ct l yX6_startText cX6_startText 1 none 6 146 [va_rf v0] σ (oU o) σ' a b := by
  unfold fX6_startText at h
  replace h := bnP_s h
  obtain ⟨u, hk, h⟩ := h
  replace hk := isK_s hk
  refine ⟨hk, ?_⟩
  refine ct_start mi_X6_startText.1 rfl (al_le (al_1 (rf_cat _) al_n) (Nat.le_of_ble_eq_true rfl)) (ag_1 (rf_cat _) ag_n) (fun Δ Γ B hE hnm => ?_)
  have hka : 0 + a = a := Nat.zero_add a
  have hkb : 0 + b = b := Nat.zero_add b
  have hla : a ≤ a := Nat.le_refl a
  have hlb : b ≤ b := Nat.le_refl b
  refine g_aload_n B 0 dX6_startText_0 rfl rfl ?_
  replace h := bnP_s h
  obtain ⟨x1, h2, h⟩ := h
  refine g_getR B fl_RX6_10 (by decide) dX6_startText_1 h2 ?_
  refine g_iconst (v := 0) B dX6_startText_4 (by decide) ?_
  replace h := bnA_s h
  rcases h with ⟨e9, h4, e8⟩ | ⟨x3, s5, a6, b7, a8, b9, h4, h, ea, eb⟩
  · subst e8
    exact g_callVx (st := []) B (cJ4_setLength_d00dfc (o := .error e9) h4) (Nat.le_of_ble_eq_true rfl) rfl rfl mi_J4_setLength_d00df lk_RX6_16 ⟨Nat.le_of_ble_eq_true rfl, Nat.le_of_ble_eq_true rfl⟩ rfl rfl (Nat.le_of_ble_eq_true rfl) dX6_startText_5 (Nat.le_trans (Nat.le_of_eq hka) hla) (Nat.le_trans (Nat.le_of_eq hkb) hlb) hE
  · subst ea; subst eb
    have hka := bk hka
    have hkb := bk hkb
    refine g_callVvA (st := []) B (cJ4_setLength_d00dfc (o := .ok x3) h4) (Nat.le_of_ble_eq_true rfl) rfl rfl mi_J4_setLength_d00df lk_RX6_16 ⟨Nat.le_of_ble_eq_true rfl, Nat.le_of_ble_eq_true rfl⟩ rfl rfl (Nat.le_of_ble_eq_true rfl) dX6_startText_5 (Nat.le_trans (bm hka) hla) (Nat.le_trans (bm hkb) hlb) ?_
    obtain ⟨w1, w2, w3, w4⟩ := inA h
    clear h
    subst w1
    subst w2
    subst w3
    subst w4
    exact g_vret B hE (Nat.le_trans (Nat.le_of_eq hka) hla) (Nat.le_trans (Nat.le_of_eq hkb) hlb) dX6_startText_8
set_option maxRecDepth 100000 in
set_option maxHeartbeats 4000000 in
theorem cX6_putBlankc {l : Launch} {v0 : Option Nat} {σ : HpT} {o : Except Nat (Unit)} {σ' : HpT} {a b : Nat} (h : fX6_putBlank v0 σ = some (o, σ', a, b)) : IsK σ v0 6 ∧ Ct l yX6_putBlank cX6_putBlank 1 none 6 146 [va_rf v0] σ (oU o) σ' a b := by
  unfold fX6_putBlank at h
  replace h := bnP_s h
  obtain ⟨u, hk, h⟩ := h
  replace hk := isK_s hk
  refine ⟨hk, ?_⟩
  refine ct_start mi_X6_putBlank.1 rfl (al_le (al_1 (rf_cat _) al_n) (Nat.le_of_ble_eq_true rfl)) (ag_1 (rf_cat _) ag_n) (fun Δ Γ B hE hnm => ?_)
  have hka : 0 + a = a := Nat.zero_add a
  have hkb : 0 + b = b := Nat.zero_add b
  have hla : a ≤ a := Nat.le_refl a
  have hlb : b ≤ b := Nat.le_refl b
  refine g_aload_n B 0 dX6_putBlank_0 rfl rfl ?_
  replace h := bnP_s h
  obtain ⟨x1, h2, h⟩ := h
  refine g_getR B fl_RX6_10 (by decide) dX6_putBlank_1 h2 ?_
  replace h := bnP_s h
  obtain ⟨x3, h4, h⟩ := h
  refine g_callVs0 (st := []) B (cJ4_length_8abf5c h4) (Nat.le_of_ble_eq_true rfl) rfl rfl mi_J4_length_8abf5 lk_RX6_20 ⟨Nat.le_of_ble_eq_true rfl, Nat.le_of_ble_eq_true rfl⟩ rfl rfl (Nat.le_of_ble_eq_true rfl) dX6_putBlank_4 (Nat.le_trans (bm hka) hla) (Nat.le_trans (bm hkb) hlb) ?_
  refine g_if_le B 20 dX6_putBlank_7 (by decide) (fun hc => ?_) (fun hc => ?_)
  · replace h := ifp hc h
    obtain ⟨w1, w2, w3, w4⟩ := inA h
    clear h
    subst w1
    subst w2
    subst w3
    subst w4
    exact g_vret B hE (Nat.le_trans (Nat.le_of_eq hka) hla) (Nat.le_trans (Nat.le_of_eq hkb) hlb) dX6_putBlank_20
  · replace h := ifn hc h
    refine g_aload_n B 0 dX6_putBlank_10 rfl rfl ?_
    replace h := bnP_s h
    obtain ⟨x5, h6, h⟩ := h
    refine g_getR B fl_RX6_10 (by decide) dX6_putBlank_11 h6 ?_
    refine g_bipush (v := 32) B dX6_putBlank_14 (by decide) ?_
    replace h := bnA_s h
    rcases h with ⟨e9, h8, e8⟩ | ⟨x7, s9, a10, b11, a12, b13, h8, h, ea, eb⟩
    · subst e8
      exact g_callVx (st := []) B (cJ4_append_cf468c (o := .error e9) h8) (Nat.le_of_ble_eq_true rfl) rfl rfl mi_J4_append_cf468 lk_RX6_24 ⟨Nat.le_of_ble_eq_true rfl, Nat.le_of_ble_eq_true rfl⟩ rfl rfl (Nat.le_of_ble_eq_true rfl) dX6_putBlank_16 (Nat.le_trans (Nat.le_of_eq hka) hla) (Nat.le_trans (Nat.le_of_eq hkb) hlb) hE
    · subst ea; subst eb
      have hka := bk hka
      have hkb := bk hkb
      refine g_callVsA (st := []) B (cJ4_append_cf468c (o := .ok x7) h8) (Nat.le_of_ble_eq_true rfl) rfl rfl mi_J4_append_cf468 lk_RX6_24 ⟨Nat.le_of_ble_eq_true rfl, Nat.le_of_ble_eq_true rfl⟩ rfl rfl (Nat.le_of_ble_eq_true rfl) dX6_putBlank_16 (Nat.le_trans (bm hka) hla) (Nat.le_trans (bm hkb) hlb) ?_
      refine g_pop B dX6_putBlank_19 (rf_cat _) ?_
      obtain ⟨w1, w2, w3, w4⟩ := inA h
      clear h
      subst w1
      subst w2
      subst w3
      subst w4
      exact g_vret B hE (Nat.le_trans (Nat.le_of_eq hka) hla) (Nat.le_trans (Nat.le_of_eq hkb) hlb) dX6_putBlank_20
set_option maxRecDepth 100000 in
set_option maxHeartbeats 4000000 in
theorem cX9_lettersInc {l : Launch} {v0 : Int64} {σ : HpT} {r : Int32} (h : fX9_lettersIn v0 σ = some r) : Ct l yX9_lettersIn cX9_lettersIn 3 (some .int) 0 0 [.long v0] σ (.ok (some (.int r))) σ 0 0 := by
  unfold fX9_lettersIn at h
  refine ct_start mi_X9_lettersIn.1 rfl (al_le (al_2 rfl al_n) (Nat.le_of_ble_eq_true rfl)) (ag_2 rfl ag_n) (fun Δ Γ B hE hnm => ?_)
  refine g_iconst (v := 0) B dX9_lettersIn_0 (by decide) ?_
  refine g_istore_n B dX9_lettersIn_1 rfl (Nat.le_of_ble_eq_true rfl) (s1_c (f1_k rfl f1_n)) ?_
  replace h := bnP_s h
  obtain ⟨r2, h3, h⟩ := h
  have kE4 : GW Δ Γ (0) (0) 25 [(2, .int r2)] [] σ := by
    refine g_iload_n B 0 dX9_lettersIn_25 rfl rfl ?_
    replace h := Option.some.inj h
    subst h
    exact g_iret B hE (Nat.zero_le _) (Nat.zero_le _) dX9_lettersIn_26
  clear h
  refine g_sub [1, 0] rfl ?_
  refine lpP_w (I := fun q1 => GW Δ Γ (0) (0) 2 [(0, .long v0), (2, .int q1)] [] σ) (r := r2) ?_ FUEL 0 h3
  intro q1 x8 h hI6 hR7
  unfold fX9_lettersIn_l1 at h
  refine g_iload_n B 1 dX9_lettersIn_2 rfl rfl ?_
  refine g_bipush (v := 8) B dX9_lettersIn_3 (by decide) ?_
  refine g_icmp_ge B 25 dX9_lettersIn_5 (by decide) (fun hc => ?_) (fun hc => ?_)
  · replace h := ifp hc h
    replace h := Option.some.inj h
    subst h
    have e8 := hR7 _ rfl
    subst e8
    exact g_sub [1] rfl kE4
  · replace h := ifn hc h
    refine g_lload_n B 0 dX9_lettersIn_8 rfl rfl ?_
    refine g_bipush (v := 8) B dX9_lettersIn_9 (by decide) ?_
    refine g_iload_n B 1 dX9_lettersIn_11 rfl rfl ?_
    refine g_imul B dX9_lettersIn_12 ?_
    refine g_lushr B dX9_lettersIn_13 ?_
    refine g_lconst (v := 0) B dX9_lettersIn_14 (by decide) ?_
    refine g_lcmp B dX9_lettersIn_15 ?_
    refine g_if_eq B 25 dX9_lettersIn_16 (by decide) (fun hc => ?_) (fun hc => ?_)
    · replace h := ifp hc h
      replace h := Option.some.inj h
      subst h
      have e8 := hR7 _ rfl
      subst e8
      exact g_sub [1] rfl kE4
    · replace h := ifn hc h
      refine g_iinc (v := (q1 + 1)) B 1 dX9_lettersIn_19 rfl (by first | rfl | (congr 1; decide)) (Nat.le_of_ble_eq_true rfl) (s1_c (f1_k rfl (f1_x f1_n))) ?_
      refine g_goto B 2 dX9_lettersIn_22 (by decide) ?_
      replace h := Option.some.inj h
      subst h
      exact g_sub [1, 0] rfl (hI6 _ rfl)
set_option maxRecDepth 100000 in
set_option maxHeartbeats 4000000 in
theorem cX9_letterOfc {l : Launch} {v0 : Int64} {v2 : Int32} {σ : HpT} {r : Int32} (h : fX9_letterOf v0 v2 σ = some r) : Ct l yX9_letterOf cX9_letterOf 4 (some .int) 1 22 [.long v0, .int v2] σ (.ok (some (.int r))) σ 0 0 := by
  unfold fX9_letterOf at h
  refine ct_start mi_X9_letterOf.1 rfl (al_le (al_2 rfl (al_1 rfl al_n)) (Nat.le_of_ble_eq_true rfl)) (ag_2 rfl (ag_1 rfl ag_n)) (fun Δ Γ B hE hnm => ?_)
  refine g_lload_n B 0 dX9_letterOf_0 rfl rfl ?_
  replace h := bnP_s h
  obtain ⟨x1, h2, h⟩ := h
  refine g_callSs0 (st := []) B (cX9_lettersInc h2) mi_X9_lettersIn lk_RX9_206 ⟨Nat.le_of_ble_eq_true rfl, Nat.le_of_ble_eq_true rfl⟩ rfl rfl (Nat.le_of_ble_eq_true rfl) dX9_letterOf_1 (Nat.zero_le _) (Nat.zero_le _) ?_
  refine g_istore_n B dX9_letterOf_4 rfl (Nat.le_of_ble_eq_true rfl) (s1_c (f1_k rfl (f1_1 rfl rfl f1_n))) ?_
  refine g_iload_n B 2 dX9_letterOf_5 rfl rfl ?_
  refine g_if_lt B 14 dX9_letterOf_6 (by decide) (fun hc => ?_) (fun hc => ?_)
  · replace h := ifp hc h
    refine g_iconst (v := (-1)) B dX9_letterOf_14 (by decide) ?_
    replace h := Option.some.inj h
    subst h
    exact g_iret B hE (Nat.zero_le _) (Nat.zero_le _) dX9_letterOf_15
  · replace h := ifn hc h
    refine g_iload_n B 2 dX9_letterOf_9 rfl rfl ?_
    refine g_iload_n B 0 dX9_letterOf_10 rfl rfl ?_
    refine g_icmp_lt B 16 dX9_letterOf_11 (by decide) (fun hc => ?_) (fun hc => ?_)
    · replace h := ifp hc h
      refine g_lload_n B 1 dX9_letterOf_16 rfl rfl ?_
      refine g_bipush (v := 8) B dX9_letterOf_17 (by decide) ?_
      refine g_iload_n B 0 dX9_letterOf_19 rfl rfl ?_
      refine g_iconst (v := 1) B dX9_letterOf_20 (by decide) ?_
      refine g_isub B dX9_letterOf_21 ?_
      refine g_iload_n B 2 dX9_letterOf_22 rfl rfl ?_
      refine g_isub B dX9_letterOf_23 ?_
      refine g_imul B dX9_letterOf_24 ?_
      refine g_lushr B dX9_letterOf_25 ?_
      refine g_l2i B dX9_letterOf_26 ?_
      refine g_sipush (v := 255) B dX9_letterOf_27 (by decide) ?_
      refine g_iand B dX9_letterOf_30 ?_
      replace h := Option.some.inj h
      subst h
      exact g_iret B hE (Nat.zero_le _) (Nat.zero_le _) dX9_letterOf_31
    · replace h := ifn hc h
      refine g_iconst (v := (-1)) B dX9_letterOf_14 (by decide) ?_
      replace h := Option.some.inj h
      subst h
      exact g_iret B hE (Nat.zero_le _) (Nat.zero_le _) dX9_letterOf_15
set_option maxRecDepth 100000 in
set_option maxHeartbeats 4000000 in
theorem cX6_putLettersc {l : Launch} {v0 : Option Nat} {v1 : Int64} {σ : HpT} {o : Except Nat (Unit)} {σ' : HpT} {a b : Nat} (h : fX6_putLetters v0 v1 σ = some (o, σ', a, b)) : IsK σ v0 6 ∧ Ct l yX6_putLetters cX6_putLetters 5 none 6 146 [va_rf v0, .long v1] σ (oU o) σ' a b := by
  unfold fX6_putLetters at h
  replace h := bnP_s h
  obtain ⟨u, hk, h⟩ := h
  replace hk := isK_s hk
  refine ⟨hk, ?_⟩
  refine ct_start mi_X6_putLetters.1 rfl (al_le (al_1 (rf_cat _) (al_2 rfl al_n)) (Nat.le_of_ble_eq_true rfl)) (ag_1 (rf_cat _) (ag_2 rfl ag_n)) (fun Δ Γ B hE hnm => ?_)
  have hka : 0 + a = a := Nat.zero_add a
  have hkb : 0 + b = b := Nat.zero_add b
  have hla : a ≤ a := Nat.le_refl a
  have hlb : b ≤ b := Nat.le_refl b
  refine g_lload_n B 1 dX6_putLetters_0 rfl rfl ?_
  replace h := bnP_s h
  obtain ⟨x1, h2, h⟩ := h
  refine g_callNSs0 (st := []) B (cX9_lettersInc h2) mi_X9_lettersIn lk_RX6_28 ⟨Nat.le_of_ble_eq_true rfl, Nat.le_of_ble_eq_true rfl⟩ rfl rfl (Nat.le_of_ble_eq_true rfl) dX6_putLetters_1 (Nat.le_trans (bm hka) hla) (Nat.le_trans (bm hkb) hlb) ?_
  refine g_istore_n B dX6_putLetters_4 rfl (Nat.le_of_ble_eq_true rfl) (s1_c (f1_k rfl (f1_k rfl f1_n))) ?_
  refine g_iconst (v := 0) B dX6_putLetters_5 (by decide) ?_
  refine g_istore B dX6_putLetters_6 (Nat.le_of_ble_eq_true rfl) (s1_c (f1_1 rfl rfl (f1_k rfl (f1_k rfl f1_n)))) ?_
  replace h := bnA_o h
  obtain ⟨z31, s26, a27, b28, h5, er11o, h, la, lb⟩ := h
  have kE6 : ∀ r4, z31 = .ok r4 → GW Δ Γ (0 + a27) (0 + b28) 35 [] [] s26 := by
    intro r4 ej
    replace h := h _ ej
    obtain ⟨a29, b30, h, ea, eb⟩ := h
    subst ea; subst eb
    have hka := bk hka
    have hkb := bk hkb
    obtain ⟨w1, w2, w3, w4⟩ := inA h
    clear h
    subst w1
    subst w2
    subst w3
    subst w4
    exact g_vret B hE (Nat.le_trans (Nat.le_of_eq hka) hla) (Nat.le_trans (Nat.le_of_eq hkb) hlb) dX6_putLetters_35
  clear h
  refine g_sub [2, 3, 1, 0] rfl ?_
  have hla9 := Nat.le_trans (bj hka la) hla
  have hlb9 := Nat.le_trans (bj hkb lb) hlb
  refine lpA_w (I := fun q3 s12 ka13 kb14 => GW Δ Γ (ka13) (kb14) 8 [(0, va_rf v0), (1, .long v1), (3, .int x1), (4, .int q3)] [] s12) (r := z31) (σr := s26) (A := 0 + a27) (B := 0 + b28) ?_ FUEL 0 σ _ _ _ _ h5 rfl rfl
  intro q3 s12 ka13 kb14 x10 s9 i9 j9 h hI8 hle9 hR9 er11i
  unfold fX6_putLetters_l1 at h
  have hka : ka13 + i9 = _ := rfl
  have hkb : kb14 + j9 = _ := rfl
  have hlab : ka13 + i9 ≤ 0 + a27 ∧ kb14 + j9 ≤ 0 + b28 := by
    rcases x10 with e | (x | x)
    · obtain ⟨-, -, e1, e2⟩ := er11i e rfl; exact ⟨Nat.le_of_eq e1, Nat.le_of_eq e2⟩
    · exact hle9 x rfl
    · obtain ⟨-, -, e1, e2⟩ := hR9 x rfl; exact ⟨Nat.le_of_eq e1, Nat.le_of_eq e2⟩
  have hla := Nat.le_trans hlab.1 hla9
  have hlb := Nat.le_trans hlab.2 hlb9
  have er11n : ∀ e, x10 = .error e → z31 = .error e ∧ s9 = s26 ∧ ka13 + i9 = 0 + a27 ∧ kb14 + j9 = 0 + b28 := fun e q => (fun r9 => ⟨r9.1, r9.2.1.symm, r9.2.2.1, r9.2.2.2⟩) (er11i e q)
  refine g_iload B 3 dX6_putLetters_8 rfl ?_
  refine g_iload_n B 2 dX6_putLetters_10 rfl rfl ?_
  refine g_icmp_ge B 35 dX6_putLetters_11 (by decide) (fun hc => ?_) (fun hc => ?_)
  · replace h := ifp hc h
    obtain ⟨w1, w2, w3, w4⟩ := inA h
    clear h
    subst w1
    subst w2
    subst w3
    subst w4
    obtain ⟨e8, e7, e6, e5⟩ := hR9 _ rfl
    subst e8
    subst e7
    refine g_cost (by omega) (by omega) ?_
    exact g_sub [] rfl (kE6 _ rfl)
  · replace h := ifn hc h
    refine g_aload_n B 0 dX6_putLetters_14 rfl rfl ?_
    replace h := bnP_s h
    obtain ⟨x15, h16, h⟩ := h
    refine g_getR B fl_RX6_10 (by decide) dX6_putLetters_15 h16 ?_
    refine g_lload_n B 1 dX6_putLetters_18 rfl rfl ?_
    refine g_iload B 3 dX6_putLetters_19 rfl ?_
    replace h := bnP_s h
    obtain ⟨x17, h18, h⟩ := h
    refine g_callNSs0 (st := [va_rf x15]) B (cX9_letterOfc h18) mi_X9_letterOf lk_RX6_34 ⟨Nat.le_of_ble_eq_true rfl, Nat.le_of_ble_eq_true rfl⟩ rfl rfl (Nat.le_of_ble_eq_true rfl) dX6_putLetters_21 (Nat.le_trans (bm hka) hla) (Nat.le_trans (bm hkb) hlb) ?_
    refine g_i2c B dX6_putLetters_24 ?_
    replace h := bnA_s h
    rcases h with ⟨e9, h20, e8⟩ | ⟨x19, s21, a22, b23, a24, b25, h20, h, ea, eb⟩
    · subst e8; obtain ⟨e8, e7, e6, e5⟩ := er11n _ rfl; subst e8; subst e7; obtain ⟨d8, d7, d6, d5⟩ := er11o _ rfl; subst d8; subst d7; subst d6; subst d5
      exact g_callVx (st := []) B (cJ4_append_cf468c (o := .error e9) h20) (Nat.le_of_ble_eq_true rfl) rfl rfl mi_J4_append_cf468 lk_RX6_24 ⟨Nat.le_of_ble_eq_true rfl, Nat.le_of_ble_eq_true rfl⟩ rfl rfl (Nat.le_of_ble_eq_true rfl) dX6_putLetters_25 (Nat.le_trans (Nat.le_of_eq hka) hla) (Nat.le_trans (Nat.le_of_eq hkb) hlb) hE
    · subst ea; subst eb
      have hka := bk hka
      have hkb := bk hkb
      refine g_callVsA (st := []) B (cJ4_append_cf468c (o := .ok x19) h20) (Nat.le_of_ble_eq_true rfl) rfl rfl mi_J4_append_cf468 lk_RX6_24 ⟨Nat.le_of_ble_eq_true rfl, Nat.le_of_ble_eq_true rfl⟩ rfl rfl (Nat.le_of_ble_eq_true rfl) dX6_putLetters_25 (Nat.le_trans (bm hka) hla) (Nat.le_trans (bm hkb) hlb) ?_
      refine g_pop B dX6_putLetters_28 (rf_cat _) ?_
      refine g_iinc (v := (q3 + 1)) B 3 dX6_putLetters_29 rfl (by first | rfl | (congr 1; decide)) (Nat.le_of_ble_eq_true rfl) (s1_c (f1_k rfl (f1_k rfl (f1_1 rfl rfl (f1_x f1_n))))) ?_
      refine g_goto B 8 dX6_putLetters_32 (by decide) ?_
      obtain ⟨w1, w2, w3, w4⟩ := inA h
      clear h
      subst w1
      subst w2
      subst w3
      subst w4
      refine g_cost (by omega) (by omega) ?_
      exact g_sub [1, 2, 3, 0] rfl (hI8 _ rfl)
set_option maxRecDepth 100000 in
set_option maxHeartbeats 4000000 in
theorem cX6_putWordc {l : Launch} {v0 : Option Nat} {v1 : Int64} {σ : HpT} {o : Except Nat (Unit)} {σ' : HpT} {a b : Nat} (h : fX6_putWord v0 v1 σ = some (o, σ', a, b)) : IsK σ v0 6 ∧ Ct l yX6_putWord cX6_putWord 3 none 7 170 [va_rf v0, .long v1] σ (oU o) σ' a b := by
  unfold fX6_putWord at h
  replace h := bnP_s h
  obtain ⟨u, hk, h⟩ := h
  replace hk := isK_s hk
  refine ⟨hk, ?_⟩
  refine ct_start mi_X6_putWord.1 rfl (al_le (al_1 (rf_cat _) (al_2 rfl al_n)) (Nat.le_of_ble_eq_true rfl)) (ag_1 (rf_cat _) (ag_2 rfl ag_n)) (fun Δ Γ B hE hnm => ?_)
  have hka : 0 + a = a := Nat.zero_add a
  have hkb : 0 + b = b := Nat.zero_add b
  have hla : a ≤ a := Nat.le_refl a
  have hlb : b ≤ b := Nat.le_refl b
  refine g_aload_n B 0 dX6_putWord_0 rfl rfl ?_
  replace h := bnA_s h
  rcases h with ⟨e9, h2, e8⟩ | ⟨x1, s3, a4, b5, a6, b7, h2, h, ea, eb⟩
  · subst e8
    exact g_callVx (st := []) B (cX6_putBlankc (o := .error e9) h2) (Nat.le_of_ble_eq_true rfl) rfl rfl mi_X6_putBlank lk_RX6_38 ⟨Nat.le_of_ble_eq_true rfl, Nat.le_of_ble_eq_true rfl⟩ rfl rfl (Nat.le_of_ble_eq_true rfl) dX6_putWord_1 (Nat.le_trans (Nat.le_of_eq hka) hla) (Nat.le_trans (Nat.le_of_eq hkb) hlb) hE
  · subst ea; subst eb
    have hka := bk hka
    have hkb := bk hkb
    refine g_callVvA (st := []) B (cX6_putBlankc (o := .ok x1) h2) (Nat.le_of_ble_eq_true rfl) rfl rfl mi_X6_putBlank lk_RX6_38 ⟨Nat.le_of_ble_eq_true rfl, Nat.le_of_ble_eq_true rfl⟩ rfl rfl (Nat.le_of_ble_eq_true rfl) dX6_putWord_1 (Nat.le_trans (bm hka) hla) (Nat.le_trans (bm hkb) hlb) ?_
    refine g_aload_n B 0 dX6_putWord_4 rfl rfl ?_
    refine g_lload_n B 1 dX6_putWord_5 rfl rfl ?_
    replace h := bnA_s h
    rcases h with ⟨e9, h9, e8⟩ | ⟨x8, s10, a11, b12, a13, b14, h9, h, ea, eb⟩
    · subst e8
      exact g_callVx (st := []) B (cX6_putLettersc (o := .error e9) h9) (Nat.le_of_ble_eq_true rfl) rfl rfl mi_X6_putLetters lk_RX6_41 ⟨Nat.le_of_ble_eq_true rfl, Nat.le_of_ble_eq_true rfl⟩ rfl rfl (Nat.le_of_ble_eq_true rfl) dX6_putWord_6 (Nat.le_trans (Nat.le_of_eq hka) hla) (Nat.le_trans (Nat.le_of_eq hkb) hlb) hE
    · subst ea; subst eb
      have hka := bk hka
      have hkb := bk hkb
      refine g_callVvA (st := []) B (cX6_putLettersc (o := .ok x8) h9) (Nat.le_of_ble_eq_true rfl) rfl rfl mi_X6_putLetters lk_RX6_41 ⟨Nat.le_of_ble_eq_true rfl, Nat.le_of_ble_eq_true rfl⟩ rfl rfl (Nat.le_of_ble_eq_true rfl) dX6_putWord_6 (Nat.le_trans (bm hka) hla) (Nat.le_trans (bm hkb) hlb) ?_
      obtain ⟨w1, w2, w3, w4⟩ := inA h
      clear h
      subst w1
      subst w2
      subst w3
      subst w4
      exact g_vret B hE (Nat.le_trans (Nat.le_of_eq hka) hla) (Nat.le_trans (Nat.le_of_eq hkb) hlb) dX6_putWord_9
set_option maxRecDepth 100000 in
set_option maxHeartbeats 4000000 in
theorem cX6_putMarkedWordc {l : Launch} {v0 : Option Nat} {v1 : Int32} {v2 : Int64} {σ : HpT} {o : Except Nat (Unit)} {σ' : HpT} {a b : Nat} (h : fX6_putMarkedWord v0 v1 v2 σ = some (o, σ', a, b)) : IsK σ v0 6 ∧ Ct l yX6_putMarkedWord cX6_putMarkedWord 4 none 7 170 [va_rf v0, .int v1, .long v2] σ (oU o) σ' a b := by
  unfold fX6_putMarkedWord at h
  replace h := bnP_s h
  obtain ⟨u, hk, h⟩ := h
  replace hk := isK_s hk
  refine ⟨hk, ?_⟩
  refine ct_start mi_X6_putMarkedWord.1 rfl (al_le (al_1 (rf_cat _) (al_1 rfl (al_2 rfl al_n))) (Nat.le_of_ble_eq_true rfl)) (ag_1 (rf_cat _) (ag_1 rfl (ag_2 rfl ag_n))) (fun Δ Γ B hE hnm => ?_)
  have hka : 0 + a = a := Nat.zero_add a
  have hkb : 0 + b = b := Nat.zero_add b
  have hla : a ≤ a := Nat.le_refl a
  have hlb : b ≤ b := Nat.le_refl b
  refine g_aload_n B 0 dX6_putMarkedWord_0 rfl rfl ?_
  replace h := bnA_s h
  rcases h with ⟨e9, h2, e8⟩ | ⟨x1, s3, a4, b5, a6, b7, h2, h, ea, eb⟩
  · subst e8
    exact g_callVx (st := []) B (cX6_putBlankc (o := .error e9) h2) (Nat.le_of_ble_eq_true rfl) rfl rfl mi_X6_putBlank lk_RX6_38 ⟨Nat.le_of_ble_eq_true rfl, Nat.le_of_ble_eq_true rfl⟩ rfl rfl (Nat.le_of_ble_eq_true rfl) dX6_putMarkedWord_1 (Nat.le_trans (Nat.le_of_eq hka) hla) (Nat.le_trans (Nat.le_of_eq hkb) hlb) hE
  · subst ea; subst eb
    have hka := bk hka
    have hkb := bk hkb
    refine g_callVvA (st := []) B (cX6_putBlankc (o := .ok x1) h2) (Nat.le_of_ble_eq_true rfl) rfl rfl mi_X6_putBlank lk_RX6_38 ⟨Nat.le_of_ble_eq_true rfl, Nat.le_of_ble_eq_true rfl⟩ rfl rfl (Nat.le_of_ble_eq_true rfl) dX6_putMarkedWord_1 (Nat.le_trans (bm hka) hla) (Nat.le_trans (bm hkb) hlb) ?_
    refine g_aload_n B 0 dX6_putMarkedWord_4 rfl rfl ?_
    replace h := bnP_s h
    obtain ⟨x8, h9, h⟩ := h
    refine g_getR B fl_RX6_10 (by decide) dX6_putMarkedWord_5 h9 ?_
    refine g_iload_n B 1 dX6_putMarkedWord_8 rfl rfl ?_
    replace h := bnA_s h
    rcases h with ⟨e9, h11, e8⟩ | ⟨x10, s12, a13, b14, a15, b16, h11, h, ea, eb⟩
    · subst e8
      exact g_callVx (st := []) B (cJ4_append_cf468c (o := .error e9) h11) (Nat.le_of_ble_eq_true rfl) rfl rfl mi_J4_append_cf468 lk_RX6_24 ⟨Nat.le_of_ble_eq_true rfl, Nat.le_of_ble_eq_true rfl⟩ rfl rfl (Nat.le_of_ble_eq_true rfl) dX6_putMarkedWord_9 (Nat.le_trans (Nat.le_of_eq hka) hla) (Nat.le_trans (Nat.le_of_eq hkb) hlb) hE
    · subst ea; subst eb
      have hka := bk hka
      have hkb := bk hkb
      refine g_callVsA (st := []) B (cJ4_append_cf468c (o := .ok x10) h11) (Nat.le_of_ble_eq_true rfl) rfl rfl mi_J4_append_cf468 lk_RX6_24 ⟨Nat.le_of_ble_eq_true rfl, Nat.le_of_ble_eq_true rfl⟩ rfl rfl (Nat.le_of_ble_eq_true rfl) dX6_putMarkedWord_9 (Nat.le_trans (bm hka) hla) (Nat.le_trans (bm hkb) hlb) ?_
      refine g_pop B dX6_putMarkedWord_12 (rf_cat _) ?_
      refine g_aload_n B 0 dX6_putMarkedWord_13 rfl rfl ?_
      refine g_lload_n B 2 dX6_putMarkedWord_14 rfl rfl ?_
      replace h := bnA_s h
      rcases h with ⟨e9, h18, e8⟩ | ⟨x17, s19, a20, b21, a22, b23, h18, h, ea, eb⟩
      · subst e8
        exact g_callVx (st := []) B (cX6_putLettersc (o := .error e9) h18) (Nat.le_of_ble_eq_true rfl) rfl rfl mi_X6_putLetters lk_RX6_41 ⟨Nat.le_of_ble_eq_true rfl, Nat.le_of_ble_eq_true rfl⟩ rfl rfl (Nat.le_of_ble_eq_true rfl) dX6_putMarkedWord_15 (Nat.le_trans (Nat.le_of_eq hka) hla) (Nat.le_trans (Nat.le_of_eq hkb) hlb) hE
      · subst ea; subst eb
        have hka := bk hka
        have hkb := bk hkb
        refine g_callVvA (st := []) B (cX6_putLettersc (o := .ok x17) h18) (Nat.le_of_ble_eq_true rfl) rfl rfl mi_X6_putLetters lk_RX6_41 ⟨Nat.le_of_ble_eq_true rfl, Nat.le_of_ble_eq_true rfl⟩ rfl rfl (Nat.le_of_ble_eq_true rfl) dX6_putMarkedWord_15 (Nat.le_trans (bm hka) hla) (Nat.le_trans (bm hkb) hlb) ?_
        obtain ⟨w1, w2, w3, w4⟩ := inA h
        clear h
        subst w1
        subst w2
        subst w3
        subst w4
        exact g_vret B hE (Nat.le_trans (Nat.le_of_eq hka) hla) (Nat.le_trans (Nat.le_of_eq hkb) hlb) dX6_putMarkedWord_18
set_option maxRecDepth 100000 in
set_option maxHeartbeats 4000000 in
theorem cX6_putNumberedWordc {l : Launch} {v0 : Option Nat} {v1 : Int32} {v2 : Int64} {σ : HpT} {o : Except Nat (Unit)} {σ' : HpT} {a b : Nat} (h : fX6_putNumberedWord v0 v1 v2 σ = some (o, σ', a, b)) : IsK σ v0 6 ∧ Ct l yX6_putNumberedWord cX6_putNumberedWord 4 none 7 170 [va_rf v0, .int v1, .long v2] σ (oU o) σ' a b := by
  unfold fX6_putNumberedWord at h
  replace h := bnP_s h
  obtain ⟨u, hk, h⟩ := h
  replace hk := isK_s hk
  refine ⟨hk, ?_⟩
  refine ct_start mi_X6_putNumberedWord.1 rfl (al_le (al_1 (rf_cat _) (al_1 rfl (al_2 rfl al_n))) (Nat.le_of_ble_eq_true rfl)) (ag_1 (rf_cat _) (ag_1 rfl (ag_2 rfl ag_n))) (fun Δ Γ B hE hnm => ?_)
  have hka : 0 + a = a := Nat.zero_add a
  have hkb : 0 + b = b := Nat.zero_add b
  have hla : a ≤ a := Nat.le_refl a
  have hlb : b ≤ b := Nat.le_refl b
  refine g_aload_n B 0 dX6_putNumberedWord_0 rfl rfl ?_
  replace h := bnA_s h
  rcases h with ⟨e9, h2, e8⟩ | ⟨x1, s3, a4, b5, a6, b7, h2, h, ea, eb⟩
  · subst e8
    exact g_callVx (st := []) B (cX6_putBlankc (o := .error e9) h2) (Nat.le_of_ble_eq_true rfl) rfl rfl mi_X6_putBlank lk_RX6_38 ⟨Nat.le_of_ble_eq_true rfl, Nat.le_of_ble_eq_true rfl⟩ rfl rfl (Nat.le_of_ble_eq_true rfl) dX6_putNumberedWord_1 (Nat.le_trans (Nat.le_of_eq hka) hla) (Nat.le_trans (Nat.le_of_eq hkb) hlb) hE
  · subst ea; subst eb
    have hka := bk hka
    have hkb := bk hkb
    refine g_callVvA (st := []) B (cX6_putBlankc (o := .ok x1) h2) (Nat.le_of_ble_eq_true rfl) rfl rfl mi_X6_putBlank lk_RX6_38 ⟨Nat.le_of_ble_eq_true rfl, Nat.le_of_ble_eq_true rfl⟩ rfl rfl (Nat.le_of_ble_eq_true rfl) dX6_putNumberedWord_1 (Nat.le_trans (bm hka) hla) (Nat.le_trans (bm hkb) hlb) ?_
    refine g_aload_n B 0 dX6_putNumberedWord_4 rfl rfl ?_
    replace h := bnP_s h
    obtain ⟨x8, h9, h⟩ := h
    refine g_getR B fl_RX6_10 (by decide) dX6_putNumberedWord_5 h9 ?_
    refine g_iload_n B 1 dX6_putNumberedWord_8 rfl rfl ?_
    replace h := bnA_s h
    rcases h with ⟨e9, h11, e8⟩ | ⟨x10, s12, a13, b14, a15, b16, h11, h, ea, eb⟩
    · subst e8
      exact g_callVx (st := []) B (cJ4_append_bf812c (o := .error e9) h11) (Nat.le_of_ble_eq_true rfl) rfl rfl mi_J4_append_bf812 lk_RX6_45 ⟨Nat.le_of_ble_eq_true rfl, Nat.le_of_ble_eq_true rfl⟩ rfl rfl (Nat.le_of_ble_eq_true rfl) dX6_putNumberedWord_9 (Nat.le_trans (Nat.le_of_eq hka) hla) (Nat.le_trans (Nat.le_of_eq hkb) hlb) hE
    · subst ea; subst eb
      have hka := bk hka
      have hkb := bk hkb
      refine g_callVsA (st := []) B (cJ4_append_bf812c (o := .ok x10) h11) (Nat.le_of_ble_eq_true rfl) rfl rfl mi_J4_append_bf812 lk_RX6_45 ⟨Nat.le_of_ble_eq_true rfl, Nat.le_of_ble_eq_true rfl⟩ rfl rfl (Nat.le_of_ble_eq_true rfl) dX6_putNumberedWord_9 (Nat.le_trans (bm hka) hla) (Nat.le_trans (bm hkb) hlb) ?_
      refine g_pop B dX6_putNumberedWord_12 (rf_cat _) ?_
      refine g_aload_n B 0 dX6_putNumberedWord_13 rfl rfl ?_
      replace h := bnP_s h
      obtain ⟨x17, h18, h⟩ := h
      refine g_getR B fl_RX6_10 (by decide) dX6_putNumberedWord_14 h18 ?_
      refine g_bipush (v := 58) B dX6_putNumberedWord_17 (by decide) ?_
      replace h := bnA_s h
      rcases h with ⟨e9, h20, e8⟩ | ⟨x19, s21, a22, b23, a24, b25, h20, h, ea, eb⟩
      · subst e8
        exact g_callVx (st := []) B (cJ4_append_cf468c (o := .error e9) h20) (Nat.le_of_ble_eq_true rfl) rfl rfl mi_J4_append_cf468 lk_RX6_24 ⟨Nat.le_of_ble_eq_true rfl, Nat.le_of_ble_eq_true rfl⟩ rfl rfl (Nat.le_of_ble_eq_true rfl) dX6_putNumberedWord_19 (Nat.le_trans (Nat.le_of_eq hka) hla) (Nat.le_trans (Nat.le_of_eq hkb) hlb) hE
      · subst ea; subst eb
        have hka := bk hka
        have hkb := bk hkb
        refine g_callVsA (st := []) B (cJ4_append_cf468c (o := .ok x19) h20) (Nat.le_of_ble_eq_true rfl) rfl rfl mi_J4_append_cf468 lk_RX6_24 ⟨Nat.le_of_ble_eq_true rfl, Nat.le_of_ble_eq_true rfl⟩ rfl rfl (Nat.le_of_ble_eq_true rfl) dX6_putNumberedWord_19 (Nat.le_trans (bm hka) hla) (Nat.le_trans (bm hkb) hlb) ?_
        refine g_pop B dX6_putNumberedWord_22 (rf_cat _) ?_
        refine g_aload_n B 0 dX6_putNumberedWord_23 rfl rfl ?_
        refine g_lload_n B 2 dX6_putNumberedWord_24 rfl rfl ?_
        replace h := bnA_s h
        rcases h with ⟨e9, h27, e8⟩ | ⟨x26, s28, a29, b30, a31, b32, h27, h, ea, eb⟩
        · subst e8
          exact g_callVx (st := []) B (cX6_putLettersc (o := .error e9) h27) (Nat.le_of_ble_eq_true rfl) rfl rfl mi_X6_putLetters lk_RX6_41 ⟨Nat.le_of_ble_eq_true rfl, Nat.le_of_ble_eq_true rfl⟩ rfl rfl (Nat.le_of_ble_eq_true rfl) dX6_putNumberedWord_25 (Nat.le_trans (Nat.le_of_eq hka) hla) (Nat.le_trans (Nat.le_of_eq hkb) hlb) hE
        · subst ea; subst eb
          have hka := bk hka
          have hkb := bk hkb
          refine g_callVvA (st := []) B (cX6_putLettersc (o := .ok x26) h27) (Nat.le_of_ble_eq_true rfl) rfl rfl mi_X6_putLetters lk_RX6_41 ⟨Nat.le_of_ble_eq_true rfl, Nat.le_of_ble_eq_true rfl⟩ rfl rfl (Nat.le_of_ble_eq_true rfl) dX6_putNumberedWord_25 (Nat.le_trans (bm hka) hla) (Nat.le_trans (bm hkb) hlb) ?_
          obtain ⟨w1, w2, w3, w4⟩ := inA h
          clear h
          subst w1
          subst w2
          subst w3
          subst w4
          exact g_vret B hE (Nat.le_trans (Nat.le_of_eq hka) hla) (Nat.le_trans (Nat.le_of_eq hkb) hlb) dX6_putNumberedWord_28
set_option maxRecDepth 100000 in
set_option maxHeartbeats 4000000 in
theorem cX6_putSignsc {l : Launch} {v0 : Option Nat} {v1 : Int32} {v2 : Int32} {σ : HpT} {o : Except Nat (Unit)} {σ' : HpT} {a b : Nat} (h : fX6_putSigns v0 v1 v2 σ = some (o, σ', a, b)) : IsK σ v0 6 ∧ Ct l yX6_putSigns cX6_putSigns 4 none 7 166 [va_rf v0, .int v1, .int v2] σ (oU o) σ' a b := by
  unfold fX6_putSigns at h
  replace h := bnP_s h
  obtain ⟨u, hk, h⟩ := h
  replace hk := isK_s hk
  refine ⟨hk, ?_⟩
  refine ct_start mi_X6_putSigns.1 rfl (al_le (al_1 (rf_cat _) (al_1 rfl (al_1 rfl al_n))) (Nat.le_of_ble_eq_true rfl)) (ag_1 (rf_cat _) (ag_1 rfl (ag_1 rfl ag_n))) (fun Δ Γ B hE hnm => ?_)
  have hka : 0 + a = a := Nat.zero_add a
  have hkb : 0 + b = b := Nat.zero_add b
  have hla : a ≤ a := Nat.le_refl a
  have hlb : b ≤ b := Nat.le_refl b
  refine g_iconst (v := 0) B dX6_putSigns_0 (by decide) ?_
  refine g_istore_n B dX6_putSigns_1 rfl (Nat.le_of_ble_eq_true rfl) (s1_c (f1_k rfl (f1_k rfl (f1_1 rfl rfl f1_n)))) ?_
  replace h := bnA_o h
  obtain ⟨z34, s29, a30, b31, h3, er9o, h, la, lb⟩ := h
  have kE4 : ∀ r2, z34 = .ok r2 → GW Δ Γ (0 + a30) (0 + b31) 26 [] [] s29 := by
    intro r2 ej
    replace h := h _ ej
    obtain ⟨a32, b33, h, ea, eb⟩ := h
    subst ea; subst eb
    have hka := bk hka
    have hkb := bk hkb
    obtain ⟨w1, w2, w3, w4⟩ := inA h
    clear h
    subst w1
    subst w2
    subst w3
    subst w4
    exact g_vret B hE (Nat.le_trans (Nat.le_of_eq hka) hla) (Nat.le_trans (Nat.le_of_eq hkb) hlb) dX6_putSigns_26
  clear h
  refine g_sub [1, 2, 3, 0] rfl ?_
  have hla9 := Nat.le_trans (bj hka la) hla
  have hlb9 := Nat.le_trans (bj hkb lb) hlb
  refine lpA_w (I := fun q1 s10 ka11 kb12 => GW Δ Γ (ka11) (kb12) 2 [(0, va_rf v0), (1, .int v1), (2, .int v2), (3, .int q1)] [] s10) (r := z34) (σr := s29) (A := 0 + a30) (B := 0 + b31) ?_ FUEL 0 σ _ _ _ _ h3 rfl rfl
  intro q1 s10 ka11 kb12 x8 s9 i9 j9 h hI6 hle9 hR7 er9i
  unfold fX6_putSigns_l1 at h
  have hka : ka11 + i9 = _ := rfl
  have hkb : kb12 + j9 = _ := rfl
  have hlab : ka11 + i9 ≤ 0 + a30 ∧ kb12 + j9 ≤ 0 + b31 := by
    rcases x8 with e | (x | x)
    · obtain ⟨-, -, e1, e2⟩ := er9i e rfl; exact ⟨Nat.le_of_eq e1, Nat.le_of_eq e2⟩
    · exact hle9 x rfl
    · obtain ⟨-, -, e1, e2⟩ := hR7 x rfl; exact ⟨Nat.le_of_eq e1, Nat.le_of_eq e2⟩
  have hla := Nat.le_trans hlab.1 hla9
  have hlb := Nat.le_trans hlab.2 hlb9
  have er9n : ∀ e, x8 = .error e → z34 = .error e ∧ s9 = s29 ∧ ka11 + i9 = 0 + a30 ∧ kb12 + j9 = 0 + b31 := fun e q => (fun r9 => ⟨r9.1, r9.2.1.symm, r9.2.2.1, r9.2.2.2⟩) (er9i e q)
  refine g_iload_n B 3 dX6_putSigns_2 rfl rfl ?_
  refine g_iload_n B 2 dX6_putSigns_3 rfl rfl ?_
  refine g_icmp_ge B 26 dX6_putSigns_4 (by decide) (fun hc => ?_) (fun hc => ?_)
  · replace h := ifp hc h
    obtain ⟨w1, w2, w3, w4⟩ := inA h
    clear h
    subst w1
    subst w2
    subst w3
    subst w4
    obtain ⟨e8, e7, e6, e5⟩ := hR7 _ rfl
    subst e8
    subst e7
    refine g_cost (by omega) (by omega) ?_
    exact g_sub [] rfl (kE4 _ rfl)
  · replace h := ifn hc h
    refine g_aload_n B 0 dX6_putSigns_7 rfl rfl ?_
    replace h := bnA_s h
    rcases h with ⟨e9, h14, e8⟩ | ⟨x13, s15, a16, b17, a18, b19, h14, h, ea, eb⟩
    · subst e8; obtain ⟨e8, e7, e6, e5⟩ := er9n _ rfl; subst e8; subst e7; obtain ⟨d8, d7, d6, d5⟩ := er9o _ rfl; subst d8; subst d7; subst d6; subst d5
      exact g_callVx (st := []) B (cX6_putBlankc (o := .error e9) h14) (Nat.le_of_ble_eq_true rfl) rfl rfl mi_X6_putBlank lk_RX6_38 ⟨Nat.le_of_ble_eq_true rfl, Nat.le_of_ble_eq_true rfl⟩ rfl rfl (Nat.le_of_ble_eq_true rfl) dX6_putSigns_8 (Nat.le_trans (Nat.le_of_eq hka) hla) (Nat.le_trans (Nat.le_of_eq hkb) hlb) hE
    · subst ea; subst eb
      have hka := bk hka
      have hkb := bk hkb
      refine g_callVvA (st := []) B (cX6_putBlankc (o := .ok x13) h14) (Nat.le_of_ble_eq_true rfl) rfl rfl mi_X6_putBlank lk_RX6_38 ⟨Nat.le_of_ble_eq_true rfl, Nat.le_of_ble_eq_true rfl⟩ rfl rfl (Nat.le_of_ble_eq_true rfl) dX6_putSigns_8 (Nat.le_trans (bm hka) hla) (Nat.le_trans (bm hkb) hlb) ?_
      refine g_aload_n B 0 dX6_putSigns_11 rfl rfl ?_
      replace h := bnP_s h
      obtain ⟨x20, h21, h⟩ := h
      refine g_getR B fl_RX6_10 (by decide) dX6_putSigns_12 h21 ?_
      refine g_iload_n B 1 dX6_putSigns_15 rfl rfl ?_
      replace h := bnA_s h
      rcases h with ⟨e9, h23, e8⟩ | ⟨x22, s24, a25, b26, a27, b28, h23, h, ea, eb⟩
      · subst e8; obtain ⟨e8, e7, e6, e5⟩ := er9n _ rfl; subst e8; subst e7; obtain ⟨d8, d7, d6, d5⟩ := er9o _ rfl; subst d8; subst d7; subst d6; subst d5
        exact g_callVx (st := []) B (cJ4_append_cf468c (o := .error e9) h23) (Nat.le_of_ble_eq_true rfl) rfl rfl mi_J4_append_cf468 lk_RX6_24 ⟨Nat.le_of_ble_eq_true rfl, Nat.le_of_ble_eq_true rfl⟩ rfl rfl (Nat.le_of_ble_eq_true rfl) dX6_putSigns_16 (Nat.le_trans (Nat.le_of_eq hka) hla) (Nat.le_trans (Nat.le_of_eq hkb) hlb) hE
      · subst ea; subst eb
        have hka := bk hka
        have hkb := bk hkb
        refine g_callVsA (st := []) B (cJ4_append_cf468c (o := .ok x22) h23) (Nat.le_of_ble_eq_true rfl) rfl rfl mi_J4_append_cf468 lk_RX6_24 ⟨Nat.le_of_ble_eq_true rfl, Nat.le_of_ble_eq_true rfl⟩ rfl rfl (Nat.le_of_ble_eq_true rfl) dX6_putSigns_16 (Nat.le_trans (bm hka) hla) (Nat.le_trans (bm hkb) hlb) ?_
        refine g_pop B dX6_putSigns_19 (rf_cat _) ?_
        refine g_iinc (v := (q1 + 1)) B 3 dX6_putSigns_20 rfl (by first | rfl | (congr 1; decide)) (Nat.le_of_ble_eq_true rfl) (s1_c (f1_k rfl (f1_k rfl (f1_1 rfl rfl (f1_x f1_n))))) ?_
        refine g_goto B 2 dX6_putSigns_23 (by decide) ?_
        obtain ⟨w1, w2, w3, w4⟩ := inA h
        clear h
        subst w1
        subst w2
        subst w3
        subst w4
        refine g_cost (by omega) (by omega) ?_
        exact g_sub [1, 2, 3, 0] rfl (hI6 _ rfl)
set_option maxRecDepth 100000 in
set_option maxHeartbeats 4000000 in
theorem cX8_clausesFromc {l : Launch} {v0 : Option Nat} {v1 : Int32} {v2 : Int32} {σ : HpT} {r : Int32} (h : fX8_clausesFrom v0 v1 v2 σ = some r) : IsK σ v0 8 ∧ Ct l yX8_clausesFrom cX8_clausesFrom 5 (some .int) 0 0 [va_rf v0, .int v1, .int v2] σ (.ok (some (.int r))) σ 0 0 := by
  unfold fX8_clausesFrom at h
  replace h := bnP_s h
  obtain ⟨u, hk, h⟩ := h
  replace hk := isK_s hk
  refine ⟨hk, ?_⟩
  refine ct_start mi_X8_clausesFrom.1 rfl (al_le (al_1 (rf_cat _) (al_1 rfl (al_1 rfl al_n))) (Nat.le_of_ble_eq_true rfl)) (ag_1 (rf_cat _) (ag_1 rfl (ag_1 rfl ag_n))) (fun Δ Γ B hE hnm => ?_)
  refine g_iconst (v := 0) B dX8_clausesFrom_0 (by decide) ?_
  refine g_istore_n B dX8_clausesFrom_1 rfl (Nat.le_of_ble_eq_true rfl) (s1_c (f1_k rfl (f1_k rfl (f1_1 rfl rfl f1_n)))) ?_
  refine g_iload_n B 2 dX8_clausesFrom_2 rfl rfl ?_
  refine g_istore B dX8_clausesFrom_3 (Nat.le_of_ble_eq_true rfl) (s1_c (f1_1 rfl rfl (f1_k rfl (f1_k rfl (f1_k rfl f1_n))))) ?_
  replace h := bnP_s h
  obtain ⟨r2, h3, h⟩ := h
  have kE4 : GW Δ Γ (0) (0) 29 [(3, .int r2)] [] σ := by
    refine g_iload_n B 0 dX8_clausesFrom_29 rfl rfl ?_
    replace h := Option.some.inj h
    subst h
    exact g_iret B hE (Nat.zero_le _) (Nat.zero_le _) dX8_clausesFrom_30
  clear h
  refine g_sub [2, 3, 4, 1, 0] rfl ?_
  refine lpP_w (I := fun q1 => GW Δ Γ (0) (0) 5 [(0, va_rf v0), (1, .int v1), (2, .int v2), (3, .int q1.1), (4, .int q1.2)] [] σ) (r := r2) ?_ FUEL (0, v1) h3
  intro q1 x8 h hI6 hR7
  unfold fX8_clausesFrom_l1 at h
  refine g_iload B 4 dX8_clausesFrom_5 rfl ?_
  refine g_iload_n B 1 dX8_clausesFrom_7 rfl rfl ?_
  refine g_iload_n B 2 dX8_clausesFrom_8 rfl rfl ?_
  refine g_iadd B dX8_clausesFrom_9 ?_
  refine g_icmp_ge B 29 dX8_clausesFrom_10 (by decide) (fun hc => ?_) (fun hc => ?_)
  · replace h := ifp hc h
    replace h := Option.some.inj h
    subst h
    have e8 := hR7 _ rfl
    subst e8
    exact g_sub [3] rfl kE4
  · replace h := ifn hc h
    refine g_iload_n B 3 dX8_clausesFrom_13 rfl rfl ?_
    refine g_aload_n B 0 dX8_clausesFrom_14 rfl rfl ?_
    replace h := bnP_s h
    obtain ⟨x10, h11, h⟩ := h
    refine g_getR B fl_RX8_15 (by decide) dX8_clausesFrom_15 h11 ?_
    refine g_iload B 4 dX8_clausesFrom_18 rfl ?_
    replace h := bnP_s h
    obtain ⟨x12, h13, h⟩ := h
    refine g_iald B dX8_clausesFrom_20 h13 ?_
    refine g_iadd B dX8_clausesFrom_21 ?_
    refine g_istore_n B dX8_clausesFrom_22 rfl (Nat.le_of_ble_eq_true rfl) (s1_c (f1_k rfl (f1_k rfl (f1_1 rfl rfl (f1_x (f1_k rfl f1_n)))))) ?_
    refine g_iinc (v := (q1.2 + 1)) B 4 dX8_clausesFrom_23 rfl (by first | rfl | (congr 1; decide)) (Nat.le_of_ble_eq_true rfl) (s1_c (f1_1 rfl rfl (f1_k rfl (f1_k rfl (f1_k rfl (f1_x f1_n)))))) ?_
    refine g_goto B 5 dX8_clausesFrom_26 (by decide) ?_
    replace h := Option.some.inj h
    subst h
    exact g_sub [2, 3, 4, 1, 0] rfl (hI6 _ rfl)
set_option maxRecDepth 100000 in
set_option maxHeartbeats 4000000 in
theorem cX8_greatestDepthc {l : Launch} {v0 : Option Nat} {v1 : Int32} {v2 : Int32} {σ : HpT} {r : Int32} (h : fX8_greatestDepth v0 v1 v2 σ = some r) : IsK σ v0 8 ∧ Ct l yX8_greatestDepth cX8_greatestDepth 6 (some .int) 1 21 [va_rf v0, .int v1, .int v2] σ (.ok (some (.int r))) σ 0 0 := by
  unfold fX8_greatestDepth at h
  replace h := bnP_s h
  obtain ⟨u, hk, h⟩ := h
  replace hk := isK_s hk
  refine ⟨hk, ?_⟩
  refine ct_start mi_X8_greatestDepth.1 rfl (al_le (al_1 (rf_cat _) (al_1 rfl (al_1 rfl al_n))) (Nat.le_of_ble_eq_true rfl)) (ag_1 (rf_cat _) (ag_1 rfl (ag_1 rfl ag_n))) (fun Δ Γ B hE hnm => ?_)
  refine g_iconst (v := 0) B dX8_greatestDepth_0 (by decide) ?_
  refine g_istore_n B dX8_greatestDepth_1 rfl (Nat.le_of_ble_eq_true rfl) (s1_c (f1_k rfl (f1_k rfl (f1_1 rfl rfl f1_n)))) ?_
  refine g_iconst (v := 0) B dX8_greatestDepth_2 (by decide) ?_
  refine g_istore B dX8_greatestDepth_3 (Nat.le_of_ble_eq_true rfl) (s1_c (f1_1 rfl rfl (f1_k rfl (f1_k rfl (f1_k rfl f1_n))))) ?_
  refine g_iload_n B 3 dX8_greatestDepth_5 rfl rfl ?_
  refine g_istore B dX8_greatestDepth_6 (Nat.le_of_ble_eq_true rfl) (s1_c (f1_1 rfl rfl (f1_k rfl (f1_k rfl (f1_k rfl (f1_k rfl f1_n)))))) ?_
  replace h := bnP_s h
  obtain ⟨r2, h3, h⟩ := h
  have kE4 : GW Δ Γ (0) (0) 53 [(3, .int r2)] [] σ := by
    refine g_iload_n B 0 dX8_greatestDepth_53 rfl rfl ?_
    replace h := Option.some.inj h
    subst h
    exact g_iret B hE (Nat.zero_le _) (Nat.zero_le _) dX8_greatestDepth_54
  clear h
  refine g_sub [3, 4, 5, 2, 1, 0] rfl ?_
  refine lpP_w (I := fun q1 => GW Δ Γ (0) (0) 8 [(0, va_rf v0), (1, .int v1), (2, .int v2), (3, .int q1.1), (4, .int q1.2.1), (5, .int q1.2.2)] [] σ) (r := r2) ?_ FUEL (0, 0, v1) h3
  intro q1 x8 h hI6 hR7
  unfold fX8_greatestDepth_l1 at h
  refine g_iload B 5 dX8_greatestDepth_8 rfl ?_
  refine g_iload_n B 1 dX8_greatestDepth_10 rfl rfl ?_
  refine g_iload_n B 2 dX8_greatestDepth_11 rfl rfl ?_
  refine g_iadd B dX8_greatestDepth_12 ?_
  refine g_icmp_ge B 53 dX8_greatestDepth_13 (by decide) (fun hc => ?_) (fun hc => ?_)
  · replace h := ifp hc h
    replace h := Option.some.inj h
    subst h
    have e8 := hR7 _ rfl
    subst e8
    exact g_sub [3] rfl kE4
  · replace h := ifn hc h
    refine g_iload B 4 dX8_greatestDepth_16 rfl ?_
    refine g_aload_n B 0 dX8_greatestDepth_18 rfl rfl ?_
    replace h := bnP_s h
    obtain ⟨x10, h11, h⟩ := h
    refine g_getR B fl_RX8_15 (by decide) dX8_greatestDepth_19 h11 ?_
    refine g_iload B 5 dX8_greatestDepth_22 rfl ?_
    replace h := bnP_s h
    obtain ⟨x12, h13, h⟩ := h
    refine g_iald B dX8_greatestDepth_24 h13 ?_
    refine g_iadd B dX8_greatestDepth_25 ?_
    refine g_istore B dX8_greatestDepth_26 (Nat.le_of_ble_eq_true rfl) (s1_c (f1_k rfl (f1_k rfl (f1_k rfl (f1_1 rfl rfl (f1_x (f1_k rfl f1_n))))))) ?_
    refine g_iload_n B 4 dX8_greatestDepth_28 rfl rfl ?_
    refine g_iload B 0 dX8_greatestDepth_29 rfl ?_
    refine g_mmax B mt_RX8_59 (by decide) (Nat.le_of_ble_eq_true rfl) dX8_greatestDepth_31 (Nat.zero_le _) (Nat.zero_le _) ?_
    refine g_istore_n B dX8_greatestDepth_34 rfl (Nat.le_of_ble_eq_true rfl) (s1_c (f1_k rfl (f1_k rfl (f1_k rfl (f1_1 rfl rfl (f1_x (f1_k rfl f1_n))))))) ?_
    refine g_iload B 1 dX8_greatestDepth_35 rfl ?_
    refine g_aload_n B 2 dX8_greatestDepth_37 rfl rfl ?_
    replace h := bnP_s h
    obtain ⟨x14, h15, h⟩ := h
    refine g_getR B fl_RX8_19 (by decide) dX8_greatestDepth_38 h15 ?_
    refine g_iload B 5 dX8_greatestDepth_41 rfl ?_
    replace h := bnP_s h
    obtain ⟨x16, h17, h⟩ := h
    refine g_iald B dX8_greatestDepth_43 h17 ?_
    refine g_isub B dX8_greatestDepth_44 ?_
    refine g_istore B dX8_greatestDepth_45 (Nat.le_of_ble_eq_true rfl) (s1_c (f1_1 rfl rfl (f1_x (f1_k rfl (f1_k rfl (f1_k rfl (f1_k rfl f1_n))))))) ?_
    refine g_iinc (v := (q1.2.2 + 1)) B 5 dX8_greatestDepth_47 rfl (by first | rfl | (congr 1; decide)) (Nat.le_of_ble_eq_true rfl) (s1_c (f1_1 rfl rfl (f1_k rfl (f1_k rfl (f1_k rfl (f1_k rfl (f1_x f1_n))))))) ?_
    refine g_goto B 8 dX8_greatestDepth_50 (by decide) ?_
    replace h := Option.some.inj h
    subst h
    exact g_sub [3, 4, 5, 2, 1, 0] rfl (hI6 _ rfl)
