theorem mi_X5_kindAtWord : MI yX5_kindAtWord cX5_kindAtWord 1 (some .int) 0 := ⟨by decide +kernel, (mw (i := 668) (by decide +kernel) rfl), (mw (i := 44) (by decide +kernel) rfl), by decide +kernel, by decide +kernel⟩
theorem mi_X5_readActLine : MI yX5_readActLine cX5_readActLine 2 (some .boolean) 0 := ⟨by decide +kernel, (mw (i := 660) (by decide +kernel) rfl), (mw (i := 44) (by decide +kernel) rfl), by decide +kernel, by decide +kernel⟩
theorem mi_X5_readBody : MI yX5_readBody cX5_readBody 5 (some .boolean) 0 := ⟨by decide +kernel, (mw (i := 675) (by decide +kernel) rfl), (mw (i := 44) (by decide +kernel) rfl), by decide +kernel, by decide +kernel⟩
theorem mi_X5_readCancelLine : MI yX5_readCancelLine cX5_readCancelLine 1 (some .boolean) 0 := ⟨by decide +kernel, (mw (i := 837) (by decide +kernel) rfl), (mw (i := 44) (by decide +kernel) rfl), by decide +kernel, by decide +kernel⟩
theorem mi_X5_readCopyLine : MI yX5_readCopyLine cX5_readCopyLine 2 (some .boolean) 0 := ⟨by decide +kernel, (mw (i := 846) (by decide +kernel) rfl), (mw (i := 44) (by decide +kernel) rfl), by decide +kernel, by decide +kernel⟩
theorem mi_X5_readInsertLine : MI yX5_readInsertLine cX5_readInsertLine 2 (some .boolean) 0 := ⟨by decide +kernel, (mw (i := 794) (by decide +kernel) rfl), (mw (i := 44) (by decide +kernel) rfl), by decide +kernel, by decide +kernel⟩
theorem mi_X5_readOutLine : MI yX5_readOutLine cX5_readOutLine 1 (some .boolean) 0 := ⟨by decide +kernel, (mw (i := 764) (by decide +kernel) rfl), (mw (i := 44) (by decide +kernel) rfl), by decide +kernel, by decide +kernel⟩
theorem mi_X5_readSealLine : MI yX5_readSealLine cX5_readSealLine 2 (some .boolean) 0 := ⟨by decide +kernel, (mw (i := 812) (by decide +kernel) rfl), (mw (i := 44) (by decide +kernel) rfl), by decide +kernel, by decide +kernel⟩
theorem mi_X5_readStrikeLine : MI yX5_readStrikeLine cX5_readStrikeLine 1 (some .boolean) 0 := ⟨by decide +kernel, (mw (i := 738) (by decide +kernel) rfl), (mw (i := 44) (by decide +kernel) rfl), by decide +kernel, by decide +kernel⟩
theorem mi_X8_closeBehind : MI yX8_closeBehind cX8_closeBehind 2 none 1 := ⟨by decide +kernel, (mw (i := 688) (by decide +kernel) rfl), (mw (i := 39) (by decide +kernel) rfl), by decide +kernel, by decide +kernel⟩
theorem mi_X8_stage : MI yX8_stage cX8_stage 5 none 3 := ⟨by decide +kernel, (mw (i := 684) (by decide +kernel) rfl), (mw (i := 39) (by decide +kernel) rfl), by decide +kernel, by decide +kernel⟩
theorem fl_RX5_45 : Fl RX5 45 7 2 .int false := ⟨RX7, TX7, 7, tyX7, rfl, by decide, rfl, lay_7, (mw (i := 329) (by decide +kernel) rfl), tyX7_ok, nmX7, tyX7_ok 2 (by decide), rfl, by decide, by decide⟩
theorem fl_RX5_153 : Fl RX5 153 1 2 .int false := ⟨RX1, TX1, 12, tyX1, rfl, by decide, rfl, lay_1, (mw (i := 268) (by decide +kernel) rfl), tyX1_ok, nmX1, tyX1_ok 2 (by decide), rfl, by decide, by decide⟩
theorem fl_RX5_159 : Fl RX5 159 5 2 .int false := ⟨RX5, TX5, 5, tyX5, rfl, by decide, rfl, lay_5, (mw (i := 357) (by decide +kernel) rfl), tyX5_ok, nmX5, tyX5_ok 2 (by decide), rfl, by decide, by decide⟩
theorem fl_RX5_172 : Fg RX5 172 1 8 := ⟨RX1, TX1, 12, rfl, by decide, rfl, lay_1, (mw (i := 281) (by decide +kernel) rfl)⟩
theorem fl_RX5_176 : Fl RX5 176 8 0 .int false := ⟨RX8, TX8, 7, tyX8, rfl, by decide, rfl, lay_8, (mw (i := 102) (by decide +kernel) rfl), tyX8_ok, nmX8, tyX8_ok 0 (by decide), rfl, by decide, by decide⟩
theorem fl_RX5_225 : Fl RX5 225 1 3 .int false := ⟨RX1, TX1, 12, tyX1, rfl, by decide, rfl, lay_1, (mw (i := 271) (by decide +kernel) rfl), tyX1_ok, nmX1, tyX1_ok 3 (by decide), rfl, by decide, by decide⟩
theorem lk_RX5_61 : LV RX5 61 yX5_readBody := ⟨(mw (i := 672) (by decide +kernel) rfl), (mw (i := 674) (by decide +kernel) rfl), (mw (i := 13) (by decide +kernel) rfl)⟩
theorem lk_RX5_149 : LV RX5 149 yX1_openAct := ⟨(mw (i := 661) (by decide +kernel) rfl), (mw (i := 662) (by decide +kernel) rfl), (mw (i := 663) (by decide +kernel) rfl)⟩
theorem lk_RX5_156 : LV RX5 156 yX5_kindAtWord := ⟨(mw (i := 665) (by decide +kernel) rfl), (mw (i := 667) (by decide +kernel) rfl), (mw (i := 12) (by decide +kernel) rfl)⟩
theorem lk_RX5_162 : LV RX5 162 yX1_beginAct := ⟨(mw (i := 689) (by decide +kernel) rfl), (mw (i := 690) (by decide +kernel) rfl), (mw (i := 691) (by decide +kernel) rfl)⟩
theorem lk_RX5_181 : LV RX5 181 yX1_mostWords := ⟨(mw (i := 676) (by decide +kernel) rfl), (mw (i := 677) (by decide +kernel) rfl), (mw (i := 678) (by decide +kernel) rfl)⟩
theorem lk_RX5_184 : LV RX5 184 yX8_stage := ⟨(mw (i := 681) (by decide +kernel) rfl), (mw (i := 682) (by decide +kernel) rfl), (mw (i := 683) (by decide +kernel) rfl)⟩
theorem lk_RX5_188 : LV RX5 188 yX8_closeBehind := ⟨(mw (i := 685) (by decide +kernel) rfl), (mw (i := 686) (by decide +kernel) rfl), (mw (i := 687) (by decide +kernel) rfl)⟩
theorem lk_RX5_192 : LV RX5 192 yX1_openSize := ⟨(mw (i := 739) (by decide +kernel) rfl), (mw (i := 740) (by decide +kernel) rfl), (mw (i := 741) (by decide +kernel) rfl)⟩
theorem lk_RX5_195 : LV RX5 195 yX1_strikeReason := ⟨(mw (i := 744) (by decide +kernel) rfl), (mw (i := 745) (by decide +kernel) rfl), (mw (i := 746) (by decide +kernel) rfl)⟩
theorem lk_RX5_199 : LV RX5 199 yX1_strikeWord := ⟨(mw (i := 748) (by decide +kernel) rfl), (mw (i := 749) (by decide +kernel) rfl), (mw (i := 750) (by decide +kernel) rfl)⟩
theorem lk_RX5_202 : LV RX5 202 yX1_seekClauseAround := ⟨(mw (i := 765) (by decide +kernel) rfl), (mw (i := 766) (by decide +kernel) rfl), (mw (i := 767) (by decide +kernel) rfl)⟩
theorem lk_RX5_205 : LV RX5 205 yX1_strikeAround := ⟨(mw (i := 785) (by decide +kernel) rfl), (mw (i := 786) (by decide +kernel) rfl), (mw (i := 787) (by decide +kernel) rfl)⟩
theorem lk_RX5_208 : LV RX5 208 yX1_canInsert := ⟨(mw (i := 795) (by decide +kernel) rfl), (mw (i := 796) (by decide +kernel) rfl), (mw (i := 797) (by decide +kernel) rfl)⟩
theorem lk_RX5_211 : LV RX5 211 yX1_insertWord := ⟨(mw (i := 799) (by decide +kernel) rfl), (mw (i := 800) (by decide +kernel) rfl), (mw (i := 801) (by decide +kernel) rfl)⟩
theorem lk_RX5_215 : LV RX5 215 yX1_sealReason := ⟨(mw (i := 813) (by decide +kernel) rfl), (mw (i := 814) (by decide +kernel) rfl), (mw (i := 815) (by decide +kernel) rfl)⟩
theorem lk_RX5_219 : LV RX5 219 yX1_sealOpen := ⟨(mw (i := 825) (by decide +kernel) rfl), (mw (i := 826) (by decide +kernel) rfl), (mw (i := 827) (by decide +kernel) rfl)⟩
theorem lk_RX5_222 : LV RX5 222 yX1_cancelOpen := ⟨(mw (i := 838) (by decide +kernel) rfl), (mw (i := 839) (by decide +kernel) rfl), (mw (i := 840) (by decide +kernel) rfl)⟩
theorem lk_RX5_228 : LV RX5 228 yX1_copyReason := ⟨(mw (i := 847) (by decide +kernel) rfl), (mw (i := 848) (by decide +kernel) rfl), (mw (i := 849) (by decide +kernel) rfl)⟩
theorem lk_RX5_231 : LV RX5 231 yX1_makeCopy := ⟨(mw (i := 872) (by decide +kernel) rfl), (mw (i := 873) (by decide +kernel) rfl), (mw (i := 874) (by decide +kernel) rfl)⟩
theorem dX5_kindAtWord_0 : decode cX5_kindAtWord 0 = .ok (.aload_n 0, 1) := by decide +kernel
theorem dX5_kindAtWord_1 : decode cX5_kindAtWord 1 = .ok (.ldc 166, 2) := by decide +kernel
theorem dX5_kindAtWord_3 : decode cX5_kindAtWord 3 = .ok (.invokevirtual 80, 3) := by decide +kernel
theorem dX5_kindAtWord_6 : decode cX5_kindAtWord 6 = .ok (.ifCond .eq 5, 3) := by decide +kernel
theorem dX5_kindAtWord_9 : decode cX5_kindAtWord 9 = .ok (.iconst 0, 1) := by decide +kernel
theorem dX5_kindAtWord_10 : decode cX5_kindAtWord 10 = .ok (.ireturn, 1) := by decide +kernel
theorem dX5_kindAtWord_11 : decode cX5_kindAtWord 11 = .ok (.aload_n 0, 1) := by decide +kernel
theorem dX5_kindAtWord_12 : decode cX5_kindAtWord 12 = .ok (.ldc 168, 2) := by decide +kernel
theorem dX5_kindAtWord_14 : decode cX5_kindAtWord 14 = .ok (.invokevirtual 80, 3) := by decide +kernel
theorem dX5_kindAtWord_17 : decode cX5_kindAtWord 17 = .ok (.ifCond .eq 5, 3) := by decide +kernel
theorem dX5_kindAtWord_20 : decode cX5_kindAtWord 20 = .ok (.iconst 1, 1) := by decide +kernel
theorem dX5_kindAtWord_21 : decode cX5_kindAtWord 21 = .ok (.ireturn, 1) := by decide +kernel
theorem dX5_kindAtWord_22 : decode cX5_kindAtWord 22 = .ok (.aload_n 0, 1) := by decide +kernel
theorem dX5_kindAtWord_23 : decode cX5_kindAtWord 23 = .ok (.ldc 170, 2) := by decide +kernel
theorem dX5_kindAtWord_25 : decode cX5_kindAtWord 25 = .ok (.invokevirtual 80, 3) := by decide +kernel
theorem dX5_kindAtWord_28 : decode cX5_kindAtWord 28 = .ok (.ifCond .eq 7, 3) := by decide +kernel
theorem dX5_kindAtWord_31 : decode cX5_kindAtWord 31 = .ok (.iconst 2, 1) := by decide +kernel
theorem dX5_kindAtWord_32 : decode cX5_kindAtWord 32 = .ok (.goto 4, 3) := by decide +kernel
theorem dX5_kindAtWord_35 : decode cX5_kindAtWord 35 = .ok (.iconst (-1), 1) := by decide +kernel
theorem dX5_kindAtWord_36 : decode cX5_kindAtWord 36 = .ok (.ireturn, 1) := by decide +kernel
theorem dX8_stage_0 : decode cX8_stage 0 = .ok (.iload_n 1, 1) := by decide +kernel
theorem dX8_stage_1 : decode cX8_stage 1 = .ok (.aload_n 0, 1) := by decide +kernel
theorem dX8_stage_2 : decode cX8_stage 2 = .ok (.getfield 32, 3) := by decide +kernel
theorem dX8_stage_5 : decode cX8_stage 5 = .ok (.if_icmp .lt 46, 3) := by decide +kernel
theorem dX8_stage_8 : decode cX8_stage 8 = .ok (.iload_n 1, 1) := by decide +kernel
theorem dX8_stage_9 : decode cX8_stage 9 = .ok (.sipush 240, 3) := by decide +kernel
theorem dX8_stage_12 : decode cX8_stage 12 = .ok (.if_icmp .ge 39, 3) := by decide +kernel
theorem dX8_stage_15 : decode cX8_stage 15 = .ok (.aload_n 0, 1) := by decide +kernel
theorem dX8_stage_16 : decode cX8_stage 16 = .ok (.getfield 11, 3) := by decide +kernel
theorem dX8_stage_19 : decode cX8_stage 19 = .ok (.iload_n 1, 1) := by decide +kernel
theorem dX8_stage_20 : decode cX8_stage 20 = .ok (.lload_n 2, 1) := by decide +kernel
theorem dX8_stage_21 : decode cX8_stage 21 = .ok (.lastore, 1) := by decide +kernel
theorem dX8_stage_22 : decode cX8_stage 22 = .ok (.aload_n 0, 1) := by decide +kernel
theorem dX8_stage_23 : decode cX8_stage 23 = .ok (.getfield 15, 3) := by decide +kernel
theorem dX8_stage_26 : decode cX8_stage 26 = .ok (.iload_n 1, 1) := by decide +kernel
theorem dX8_stage_27 : decode cX8_stage 27 = .ok (.iload 4, 2) := by decide +kernel
theorem dX8_stage_29 : decode cX8_stage 29 = .ok (.iastore, 1) := by decide +kernel
theorem dX8_stage_30 : decode cX8_stage 30 = .ok (.aload_n 0, 1) := by decide +kernel
theorem dX8_stage_31 : decode cX8_stage 31 = .ok (.getfield 19, 3) := by decide +kernel
theorem dX8_stage_34 : decode cX8_stage 34 = .ok (.iload_n 1, 1) := by decide +kernel
theorem dX8_stage_35 : decode cX8_stage 35 = .ok (.iconst 0, 1) := by decide +kernel
theorem dX8_stage_36 : decode cX8_stage 36 = .ok (.iastore, 1) := by decide +kernel
theorem dX8_stage_37 : decode cX8_stage 37 = .ok (.aload_n 0, 1) := by decide +kernel
theorem dX8_stage_38 : decode cX8_stage 38 = .ok (.getfield 22, 3) := by decide +kernel
theorem dX8_stage_41 : decode cX8_stage 41 = .ok (.iload_n 1, 1) := by decide +kernel
theorem dX8_stage_42 : decode cX8_stage 42 = .ok (.iconst 0, 1) := by decide +kernel
theorem dX8_stage_43 : decode cX8_stage 43 = .ok (.bastore, 1) := by decide +kernel
theorem dX8_stage_44 : decode cX8_stage 44 = .ok (.aload_n 0, 1) := by decide +kernel
theorem dX8_stage_45 : decode cX8_stage 45 = .ok (.getfield 26, 3) := by decide +kernel
theorem dX8_stage_48 : decode cX8_stage 48 = .ok (.iload_n 1, 1) := by decide +kernel
theorem dX8_stage_49 : decode cX8_stage 49 = .ok (.iconst 0, 1) := by decide +kernel
theorem dX8_stage_50 : decode cX8_stage 50 = .ok (.iastore, 1) := by decide +kernel
theorem dX8_stage_51 : decode cX8_stage 51 = .ok (.return_, 1) := by decide +kernel
theorem dX8_closeBehind_0 : decode cX8_closeBehind 0 = .ok (.iload_n 1, 1) := by decide +kernel
theorem dX8_closeBehind_1 : decode cX8_closeBehind 1 = .ok (.aload_n 0, 1) := by decide +kernel
theorem dX8_closeBehind_2 : decode cX8_closeBehind 2 = .ok (.getfield 32, 3) := by decide +kernel
theorem dX8_closeBehind_5 : decode cX8_closeBehind 5 = .ok (.if_icmp .lt 20, 3) := by decide +kernel
theorem dX8_closeBehind_8 : decode cX8_closeBehind 8 = .ok (.iload_n 1, 1) := by decide +kernel
theorem dX8_closeBehind_9 : decode cX8_closeBehind 9 = .ok (.sipush 240, 3) := by decide +kernel
theorem dX8_closeBehind_12 : decode cX8_closeBehind 12 = .ok (.if_icmp .ge 13, 3) := by decide +kernel
theorem dX8_closeBehind_15 : decode cX8_closeBehind 15 = .ok (.aload_n 0, 1) := by decide +kernel
theorem dX8_closeBehind_16 : decode cX8_closeBehind 16 = .ok (.getfield 19, 3) := by decide +kernel
theorem dX8_closeBehind_19 : decode cX8_closeBehind 19 = .ok (.iload_n 1, 1) := by decide +kernel
theorem dX8_closeBehind_20 : decode cX8_closeBehind 20 = .ok (.dup2, 1) := by decide +kernel
theorem dX8_closeBehind_21 : decode cX8_closeBehind 21 = .ok (.iaload, 1) := by decide +kernel
theorem dX8_closeBehind_22 : decode cX8_closeBehind 22 = .ok (.iconst 1, 1) := by decide +kernel
theorem dX8_closeBehind_23 : decode cX8_closeBehind 23 = .ok (.iadd, 1) := by decide +kernel
theorem dX8_closeBehind_24 : decode cX8_closeBehind 24 = .ok (.iastore, 1) := by decide +kernel
theorem dX8_closeBehind_25 : decode cX8_closeBehind 25 = .ok (.return_, 1) := by decide +kernel
theorem dX5_readBody_0 : decode cX5_readBody 0 = .ok (.aload_n 0, 1) := by decide +kernel
theorem dX5_readBody_1 : decode cX5_readBody 1 = .ok (.getfield 28, 3) := by decide +kernel
theorem dX5_readBody_4 : decode cX5_readBody 4 = .ok (.getfield 172, 3) := by decide +kernel
theorem dX5_readBody_7 : decode cX5_readBody 7 = .ok (.astore_n 1, 1) := by decide +kernel
theorem dX5_readBody_8 : decode cX5_readBody 8 = .ok (.iconst 0, 1) := by decide +kernel
theorem dX5_readBody_9 : decode cX5_readBody 9 = .ok (.istore_n 2, 1) := by decide +kernel
theorem dX5_readBody_10 : decode cX5_readBody 10 = .ok (.iconst 0, 1) := by decide +kernel
theorem dX5_readBody_11 : decode cX5_readBody 11 = .ok (.istore_n 3, 1) := by decide +kernel
theorem dX5_readBody_12 : decode cX5_readBody 12 = .ok (.aload_n 0, 1) := by decide +kernel
theorem dX5_readBody_13 : decode cX5_readBody 13 = .ok (.iconst 0, 1) := by decide +kernel
theorem dX5_readBody_14 : decode cX5_readBody 14 = .ok (.putfield 159, 3) := by decide +kernel
theorem dX5_readBody_17 : decode cX5_readBody 17 = .ok (.iconst 0, 1) := by decide +kernel
theorem dX5_readBody_18 : decode cX5_readBody 18 = .ok (.istore 4, 2) := by decide +kernel
theorem dX5_readBody_20 : decode cX5_readBody 20 = .ok (.iload 4, 2) := by decide +kernel
theorem dX5_readBody_22 : decode cX5_readBody 22 = .ok (.aload_n 0, 1) := by decide +kernel
theorem dX5_readBody_23 : decode cX5_readBody 23 = .ok (.getfield 12, 3) := by decide +kernel
theorem dX5_readBody_26 : decode cX5_readBody 26 = .ok (.getfield 45, 3) := by decide +kernel
theorem dX5_readBody_29 : decode cX5_readBody 29 = .ok (.if_icmp .gt 184, 3) := by decide +kernel
theorem dX5_readBody_32 : decode cX5_readBody 32 = .ok (.aload_n 0, 1) := by decide +kernel
theorem dX5_readBody_33 : decode cX5_readBody 33 = .ok (.getfield 12, 3) := by decide +kernel
theorem dX5_readBody_36 : decode cX5_readBody 36 = .ok (.getfield 48, 3) := by decide +kernel
theorem dX5_readBody_39 : decode cX5_readBody 39 = .ok (.iconst 1, 1) := by decide +kernel
theorem dX5_readBody_40 : decode cX5_readBody 40 = .ok (.if_icmp .ne 64, 3) := by decide +kernel
theorem dX5_readBody_43 : decode cX5_readBody 43 = .ok (.aload_n 1, 1) := by decide +kernel
theorem dX5_readBody_44 : decode cX5_readBody 44 = .ok (.getfield 176, 3) := by decide +kernel
theorem dX5_readBody_47 : decode cX5_readBody 47 = .ok (.aload_n 0, 1) := by decide +kernel
theorem dX5_readBody_48 : decode cX5_readBody 48 = .ok (.getfield 159, 3) := by decide +kernel
theorem dX5_readBody_51 : decode cX5_readBody 51 = .ok (.iadd, 1) := by decide +kernel
theorem dX5_readBody_52 : decode cX5_readBody 52 = .ok (.aload_n 0, 1) := by decide +kernel
theorem dX5_readBody_53 : decode cX5_readBody 53 = .ok (.getfield 28, 3) := by decide +kernel
theorem dX5_readBody_56 : decode cX5_readBody 56 = .ok (.invokevirtual 181, 3) := by decide +kernel
theorem dX5_readBody_59 : decode cX5_readBody 59 = .ok (.if_icmp .lt 9, 3) := by decide +kernel
theorem dX5_readBody_62 : decode cX5_readBody 62 = .ok (.aload_n 0, 1) := by decide +kernel
theorem dX5_readBody_63 : decode cX5_readBody 63 = .ok (.iconst 4, 1) := by decide +kernel
theorem dX5_readBody_64 : decode cX5_readBody 64 = .ok (.invokevirtual 51, 3) := by decide +kernel
theorem dX5_readBody_67 : decode cX5_readBody 67 = .ok (.ireturn, 1) := by decide +kernel
theorem dX5_readBody_68 : decode cX5_readBody 68 = .ok (.aload_n 1, 1) := by decide +kernel
theorem dX5_readBody_69 : decode cX5_readBody 69 = .ok (.aload_n 1, 1) := by decide +kernel
theorem dX5_readBody_70 : decode cX5_readBody 70 = .ok (.getfield 176, 3) := by decide +kernel
theorem dX5_readBody_73 : decode cX5_readBody 73 = .ok (.aload_n 0, 1) := by decide +kernel
theorem dX5_readBody_74 : decode cX5_readBody 74 = .ok (.getfield 159, 3) := by decide +kernel
theorem dX5_readBody_77 : decode cX5_readBody 77 = .ok (.iadd, 1) := by decide +kernel
theorem dX5_readBody_78 : decode cX5_readBody 78 = .ok (.aload_n 0, 1) := by decide +kernel
theorem dX5_readBody_79 : decode cX5_readBody 79 = .ok (.getfield 12, 3) := by decide +kernel
theorem dX5_readBody_82 : decode cX5_readBody 82 = .ok (.getfield 64, 3) := by decide +kernel
theorem dX5_readBody_85 : decode cX5_readBody 85 = .ok (.iload_n 3, 1) := by decide +kernel
theorem dX5_readBody_86 : decode cX5_readBody 86 = .ok (.invokevirtual 184, 3) := by decide +kernel
theorem dX5_readBody_89 : decode cX5_readBody 89 = .ok (.aload_n 0, 1) := by decide +kernel
theorem dX5_readBody_90 : decode cX5_readBody 90 = .ok (.dup, 1) := by decide +kernel
theorem dX5_readBody_91 : decode cX5_readBody 91 = .ok (.getfield 159, 3) := by decide +kernel
theorem dX5_readBody_94 : decode cX5_readBody 94 = .ok (.iconst 1, 1) := by decide +kernel
theorem dX5_readBody_95 : decode cX5_readBody 95 = .ok (.iadd, 1) := by decide +kernel
theorem dX5_readBody_96 : decode cX5_readBody 96 = .ok (.putfield 159, 3) := by decide +kernel
theorem dX5_readBody_99 : decode cX5_readBody 99 = .ok (.iconst 0, 1) := by decide +kernel
theorem dX5_readBody_100 : decode cX5_readBody 100 = .ok (.istore_n 3, 1) := by decide +kernel
theorem dX5_readBody_101 : decode cX5_readBody 101 = .ok (.goto 99, 3) := by decide +kernel
theorem dX5_readBody_104 : decode cX5_readBody 104 = .ok (.aload_n 0, 1) := by decide +kernel
theorem dX5_readBody_105 : decode cX5_readBody 105 = .ok (.getfield 12, 3) := by decide +kernel
theorem dX5_readBody_108 : decode cX5_readBody 108 = .ok (.getfield 48, 3) := by decide +kernel
theorem dX5_readBody_111 : decode cX5_readBody 111 = .ok (.iconst 4, 1) := by decide +kernel
theorem dX5_readBody_112 : decode cX5_readBody 112 = .ok (.if_icmp .ne 23, 3) := by decide +kernel
theorem dX5_readBody_115 : decode cX5_readBody 115 = .ok (.iload_n 2, 1) := by decide +kernel
theorem dX5_readBody_116 : decode cX5_readBody 116 = .ok (.iconst 4, 1) := by decide +kernel
theorem dX5_readBody_117 : decode cX5_readBody 117 = .ok (.if_icmp .ne 9, 3) := by decide +kernel
theorem dX5_readBody_120 : decode cX5_readBody 120 = .ok (.aload_n 0, 1) := by decide +kernel
theorem dX5_readBody_121 : decode cX5_readBody 121 = .ok (.iconst 4, 1) := by decide +kernel
theorem dX5_readBody_122 : decode cX5_readBody 122 = .ok (.invokevirtual 51, 3) := by decide +kernel
theorem dX5_readBody_125 : decode cX5_readBody 125 = .ok (.ireturn, 1) := by decide +kernel
theorem dX5_readBody_126 : decode cX5_readBody 126 = .ok (.iinc 2 1, 3) := by decide +kernel
theorem dX5_readBody_129 : decode cX5_readBody 129 = .ok (.iinc 3 1, 3) := by decide +kernel
theorem dX5_readBody_132 : decode cX5_readBody 132 = .ok (.goto 68, 3) := by decide +kernel
theorem dX5_readBody_135 : decode cX5_readBody 135 = .ok (.aload_n 0, 1) := by decide +kernel
theorem dX5_readBody_136 : decode cX5_readBody 136 = .ok (.getfield 12, 3) := by decide +kernel
theorem dX5_readBody_139 : decode cX5_readBody 139 = .ok (.getfield 48, 3) := by decide +kernel
theorem dX5_readBody_142 : decode cX5_readBody 142 = .ok (.iconst 5, 1) := by decide +kernel
theorem dX5_readBody_143 : decode cX5_readBody 143 = .ok (.if_icmp .ne 32, 3) := by decide +kernel
theorem dX5_readBody_146 : decode cX5_readBody 146 = .ok (.iload_n 2, 1) := by decide +kernel
theorem dX5_readBody_147 : decode cX5_readBody 147 = .ok (.ifCond .le 28, 3) := by decide +kernel
theorem dX5_readBody_150 : decode cX5_readBody 150 = .ok (.iload_n 3, 1) := by decide +kernel
theorem dX5_readBody_151 : decode cX5_readBody 151 = .ok (.ifCond .ne 24, 3) := by decide +kernel
theorem dX5_readBody_154 : decode cX5_readBody 154 = .ok (.aload_n 1, 1) := by decide +kernel
theorem dX5_readBody_155 : decode cX5_readBody 155 = .ok (.aload_n 1, 1) := by decide +kernel
theorem dX5_readBody_156 : decode cX5_readBody 156 = .ok (.getfield 176, 3) := by decide +kernel
theorem dX5_readBody_159 : decode cX5_readBody 159 = .ok (.aload_n 0, 1) := by decide +kernel
theorem dX5_readBody_160 : decode cX5_readBody 160 = .ok (.getfield 159, 3) := by decide +kernel
theorem dX5_readBody_163 : decode cX5_readBody 163 = .ok (.iadd, 1) := by decide +kernel
theorem dX5_readBody_164 : decode cX5_readBody 164 = .ok (.iconst 1, 1) := by decide +kernel
theorem dX5_readBody_165 : decode cX5_readBody 165 = .ok (.isub, 1) := by decide +kernel
theorem dX5_readBody_166 : decode cX5_readBody 166 = .ok (.invokevirtual 188, 3) := by decide +kernel
theorem dX5_readBody_169 : decode cX5_readBody 169 = .ok (.iinc 2 (-1), 3) := by decide +kernel
theorem dX5_readBody_172 : decode cX5_readBody 172 = .ok (.goto 28, 3) := by decide +kernel
theorem dX5_readBody_175 : decode cX5_readBody 175 = .ok (.iload_n 2, 1) := by decide +kernel
theorem dX5_readBody_176 : decode cX5_readBody 176 = .ok (.ifCond .ne 10, 3) := by decide +kernel
theorem dX5_readBody_179 : decode cX5_readBody 179 = .ok (.aload_n 0, 1) := by decide +kernel
theorem dX5_readBody_180 : decode cX5_readBody 180 = .ok (.getfield 159, 3) := by decide +kernel
theorem dX5_readBody_183 : decode cX5_readBody 183 = .ok (.ifCond .gt 11, 3) := by decide +kernel
theorem dX5_readBody_186 : decode cX5_readBody 186 = .ok (.aload_n 0, 1) := by decide +kernel
theorem dX5_readBody_187 : decode cX5_readBody 187 = .ok (.iconst 1, 1) := by decide +kernel
theorem dX5_readBody_188 : decode cX5_readBody 188 = .ok (.invokevirtual 51, 3) := by decide +kernel
theorem dX5_readBody_191 : decode cX5_readBody 191 = .ok (.ifCond .eq 7, 3) := by decide +kernel
theorem dX5_readBody_194 : decode cX5_readBody 194 = .ok (.iconst 1, 1) := by decide +kernel
theorem dX5_readBody_195 : decode cX5_readBody 195 = .ok (.goto 4, 3) := by decide +kernel
theorem dX5_readBody_198 : decode cX5_readBody 198 = .ok (.iconst 0, 1) := by decide +kernel
theorem dX5_readBody_199 : decode cX5_readBody 199 = .ok (.ireturn, 1) := by decide +kernel
theorem dX5_readBody_200 : decode cX5_readBody 200 = .ok (.aload_n 0, 1) := by decide +kernel
theorem dX5_readBody_201 : decode cX5_readBody 201 = .ok (.getfield 12, 3) := by decide +kernel
theorem dX5_readBody_204 : decode cX5_readBody 204 = .ok (.invokevirtual 55, 3) := by decide +kernel
theorem dX5_readBody_207 : decode cX5_readBody 207 = .ok (.iinc 4 1, 3) := by decide +kernel
theorem dX5_readBody_210 : decode cX5_readBody 210 = .ok (.goto (-190), 3) := by decide +kernel
theorem dX5_readBody_213 : decode cX5_readBody 213 = .ok (.aload_n 0, 1) := by decide +kernel
theorem dX5_readBody_214 : decode cX5_readBody 214 = .ok (.iconst 1, 1) := by decide +kernel
theorem dX5_readBody_215 : decode cX5_readBody 215 = .ok (.invokevirtual 51, 3) := by decide +kernel
theorem dX5_readBody_218 : decode cX5_readBody 218 = .ok (.ireturn, 1) := by decide +kernel
theorem dX5_readActLine_0 : decode cX5_readActLine 0 = .ok (.aload_n 0, 1) := by decide +kernel
theorem dX5_readActLine_1 : decode cX5_readActLine 1 = .ok (.getfield 28, 3) := by decide +kernel
theorem dX5_readActLine_4 : decode cX5_readActLine 4 = .ok (.invokevirtual 149, 3) := by decide +kernel
theorem dX5_readActLine_7 : decode cX5_readActLine 7 = .ok (.ifnull 9, 3) := by decide +kernel
theorem dX5_readActLine_10 : decode cX5_readActLine 10 = .ok (.aload_n 0, 1) := by decide +kernel
theorem dX5_readActLine_11 : decode cX5_readActLine 11 = .ok (.iconst 3, 1) := by decide +kernel
theorem dX5_readActLine_12 : decode cX5_readActLine 12 = .ok (.invokevirtual 51, 3) := by decide +kernel
theorem dX5_readActLine_15 : decode cX5_readActLine 15 = .ok (.ireturn, 1) := by decide +kernel
theorem dX5_readActLine_16 : decode cX5_readActLine 16 = .ok (.aload_n 0, 1) := by decide +kernel
theorem dX5_readActLine_17 : decode cX5_readActLine 17 = .ok (.getfield 28, 3) := by decide +kernel
theorem dX5_readActLine_20 : decode cX5_readActLine 20 = .ok (.getfield 153, 3) := by decide +kernel
theorem dX5_readActLine_23 : decode cX5_readActLine 23 = .ok (.bipush 10, 2) := by decide +kernel
theorem dX5_readActLine_25 : decode cX5_readActLine 25 = .ok (.if_icmp .lt 9, 3) := by decide +kernel
theorem dX5_readActLine_28 : decode cX5_readActLine 28 = .ok (.aload_n 0, 1) := by decide +kernel
theorem dX5_readActLine_29 : decode cX5_readActLine 29 = .ok (.iconst 4, 1) := by decide +kernel
theorem dX5_readActLine_30 : decode cX5_readActLine 30 = .ok (.invokevirtual 51, 3) := by decide +kernel
theorem dX5_readActLine_33 : decode cX5_readActLine 33 = .ok (.ireturn, 1) := by decide +kernel
theorem dX5_readActLine_34 : decode cX5_readActLine 34 = .ok (.aload_n 0, 1) := by decide +kernel
theorem dX5_readActLine_35 : decode cX5_readActLine 35 = .ok (.getfield 12, 3) := by decide +kernel
theorem dX5_readActLine_38 : decode cX5_readActLine 38 = .ok (.invokevirtual 55, 3) := by decide +kernel
theorem dX5_readActLine_41 : decode cX5_readActLine 41 = .ok (.aload_n 0, 1) := by decide +kernel
theorem dX5_readActLine_42 : decode cX5_readActLine 42 = .ok (.invokevirtual 156, 3) := by decide +kernel
theorem dX5_readActLine_45 : decode cX5_readActLine 45 = .ok (.istore_n 1, 1) := by decide +kernel
theorem dX5_readActLine_46 : decode cX5_readActLine 46 = .ok (.iload_n 1, 1) := by decide +kernel
theorem dX5_readActLine_47 : decode cX5_readActLine 47 = .ok (.iconst (-1), 1) := by decide +kernel
theorem dX5_readActLine_48 : decode cX5_readActLine 48 = .ok (.if_icmp .ne 9, 3) := by decide +kernel
theorem dX5_readActLine_51 : decode cX5_readActLine 51 = .ok (.aload_n 0, 1) := by decide +kernel
theorem dX5_readActLine_52 : decode cX5_readActLine 52 = .ok (.iconst 1, 1) := by decide +kernel
theorem dX5_readActLine_53 : decode cX5_readActLine 53 = .ok (.invokevirtual 51, 3) := by decide +kernel
theorem dX5_readActLine_56 : decode cX5_readActLine 56 = .ok (.ireturn, 1) := by decide +kernel
theorem dX5_readActLine_57 : decode cX5_readActLine 57 = .ok (.aload_n 0, 1) := by decide +kernel
theorem dX5_readActLine_58 : decode cX5_readActLine 58 = .ok (.getfield 12, 3) := by decide +kernel
theorem dX5_readActLine_61 : decode cX5_readActLine 61 = .ok (.invokevirtual 55, 3) := by decide +kernel
theorem dX5_readActLine_64 : decode cX5_readActLine 64 = .ok (.aload_n 0, 1) := by decide +kernel
theorem dX5_readActLine_65 : decode cX5_readActLine 65 = .ok (.invokevirtual 61, 3) := by decide +kernel
theorem dX5_readActLine_68 : decode cX5_readActLine 68 = .ok (.ifCond .ne 5, 3) := by decide +kernel
theorem dX5_readActLine_71 : decode cX5_readActLine 71 = .ok (.iconst 0, 1) := by decide +kernel
theorem dX5_readActLine_72 : decode cX5_readActLine 72 = .ok (.ireturn, 1) := by decide +kernel
theorem dX5_readActLine_73 : decode cX5_readActLine 73 = .ok (.aload_n 0, 1) := by decide +kernel
theorem dX5_readActLine_74 : decode cX5_readActLine 74 = .ok (.getfield 28, 3) := by decide +kernel
theorem dX5_readActLine_77 : decode cX5_readActLine 77 = .ok (.iload_n 1, 1) := by decide +kernel
theorem dX5_readActLine_78 : decode cX5_readActLine 78 = .ok (.aload_n 0, 1) := by decide +kernel
theorem dX5_readActLine_79 : decode cX5_readActLine 79 = .ok (.getfield 159, 3) := by decide +kernel
theorem dX5_readActLine_82 : decode cX5_readActLine 82 = .ok (.invokevirtual 162, 3) := by decide +kernel
theorem dX5_readActLine_85 : decode cX5_readActLine 85 = .ok (.iconst 1, 1) := by decide +kernel
theorem dX5_readActLine_86 : decode cX5_readActLine 86 = .ok (.ireturn, 1) := by decide +kernel
theorem dX5_readStrikeLine_0 : decode cX5_readStrikeLine 0 = .ok (.aload_n 0, 1) := by decide +kernel
theorem dX5_readStrikeLine_1 : decode cX5_readStrikeLine 1 = .ok (.iconst 0, 1) := by decide +kernel
theorem dX5_readStrikeLine_2 : decode cX5_readStrikeLine 2 = .ok (.aload_n 0, 1) := by decide +kernel
theorem dX5_readStrikeLine_3 : decode cX5_readStrikeLine 3 = .ok (.getfield 28, 3) := by decide +kernel
theorem dX5_readStrikeLine_6 : decode cX5_readStrikeLine 6 = .ok (.invokevirtual 192, 3) := by decide +kernel
theorem dX5_readStrikeLine_9 : decode cX5_readStrikeLine 9 = .ok (.iconst 1, 1) := by decide +kernel
theorem dX5_readStrikeLine_10 : decode cX5_readStrikeLine 10 = .ok (.isub, 1) := by decide +kernel
theorem dX5_readStrikeLine_11 : decode cX5_readStrikeLine 11 = .ok (.invokevirtual 84, 3) := by decide +kernel
theorem dX5_readStrikeLine_14 : decode cX5_readStrikeLine 14 = .ok (.ifCond .ne 5, 3) := by decide +kernel
theorem dX5_readStrikeLine_17 : decode cX5_readStrikeLine 17 = .ok (.iconst 0, 1) := by decide +kernel
theorem dX5_readStrikeLine_18 : decode cX5_readStrikeLine 18 = .ok (.ireturn, 1) := by decide +kernel
theorem dX5_readStrikeLine_19 : decode cX5_readStrikeLine 19 = .ok (.aload_n 0, 1) := by decide +kernel
theorem dX5_readStrikeLine_20 : decode cX5_readStrikeLine 20 = .ok (.getfield 28, 3) := by decide +kernel
theorem dX5_readStrikeLine_23 : decode cX5_readStrikeLine 23 = .ok (.aload_n 0, 1) := by decide +kernel
theorem dX5_readStrikeLine_24 : decode cX5_readStrikeLine 24 = .ok (.getfield 12, 3) := by decide +kernel
theorem dX5_readStrikeLine_27 : decode cX5_readStrikeLine 27 = .ok (.getfield 72, 3) := by decide +kernel
theorem dX5_readStrikeLine_30 : decode cX5_readStrikeLine 30 = .ok (.invokevirtual 195, 3) := by decide +kernel
theorem dX5_readStrikeLine_33 : decode cX5_readStrikeLine 33 = .ok (.ifCond .eq 9, 3) := by decide +kernel
theorem dX5_readStrikeLine_36 : decode cX5_readStrikeLine 36 = .ok (.aload_n 0, 1) := by decide +kernel
theorem dX5_readStrikeLine_37 : decode cX5_readStrikeLine 37 = .ok (.iconst 3, 1) := by decide +kernel
theorem dX5_readStrikeLine_38 : decode cX5_readStrikeLine 38 = .ok (.invokevirtual 51, 3) := by decide +kernel
theorem dX5_readStrikeLine_41 : decode cX5_readStrikeLine 41 = .ok (.ireturn, 1) := by decide +kernel
theorem dX5_readStrikeLine_42 : decode cX5_readStrikeLine 42 = .ok (.aload_n 0, 1) := by decide +kernel
theorem dX5_readStrikeLine_43 : decode cX5_readStrikeLine 43 = .ok (.getfield 28, 3) := by decide +kernel
theorem dX5_readStrikeLine_46 : decode cX5_readStrikeLine 46 = .ok (.aload_n 0, 1) := by decide +kernel
theorem dX5_readStrikeLine_47 : decode cX5_readStrikeLine 47 = .ok (.getfield 12, 3) := by decide +kernel
theorem dX5_readStrikeLine_50 : decode cX5_readStrikeLine 50 = .ok (.getfield 72, 3) := by decide +kernel
theorem dX5_readStrikeLine_53 : decode cX5_readStrikeLine 53 = .ok (.invokevirtual 199, 3) := by decide +kernel
theorem dX5_readStrikeLine_56 : decode cX5_readStrikeLine 56 = .ok (.aload_n 0, 1) := by decide +kernel
theorem dX5_readStrikeLine_57 : decode cX5_readStrikeLine 57 = .ok (.invokevirtual 102, 3) := by decide +kernel
theorem dX5_readStrikeLine_60 : decode cX5_readStrikeLine 60 = .ok (.ireturn, 1) := by decide +kernel
theorem dX5_readOutLine_0 : decode cX5_readOutLine 0 = .ok (.aload_n 0, 1) := by decide +kernel
theorem dX5_readOutLine_1 : decode cX5_readOutLine 1 = .ok (.iconst 0, 1) := by decide +kernel
theorem dX5_readOutLine_2 : decode cX5_readOutLine 2 = .ok (.aload_n 0, 1) := by decide +kernel
theorem dX5_readOutLine_3 : decode cX5_readOutLine 3 = .ok (.getfield 28, 3) := by decide +kernel
theorem dX5_readOutLine_6 : decode cX5_readOutLine 6 = .ok (.invokevirtual 192, 3) := by decide +kernel
theorem dX5_readOutLine_9 : decode cX5_readOutLine 9 = .ok (.iconst 1, 1) := by decide +kernel
theorem dX5_readOutLine_10 : decode cX5_readOutLine 10 = .ok (.isub, 1) := by decide +kernel
theorem dX5_readOutLine_11 : decode cX5_readOutLine 11 = .ok (.invokevirtual 84, 3) := by decide +kernel
theorem dX5_readOutLine_14 : decode cX5_readOutLine 14 = .ok (.ifCond .ne 5, 3) := by decide +kernel
theorem dX5_readOutLine_17 : decode cX5_readOutLine 17 = .ok (.iconst 0, 1) := by decide +kernel
theorem dX5_readOutLine_18 : decode cX5_readOutLine 18 = .ok (.ireturn, 1) := by decide +kernel
theorem dX5_readOutLine_19 : decode cX5_readOutLine 19 = .ok (.aload_n 0, 1) := by decide +kernel
theorem dX5_readOutLine_20 : decode cX5_readOutLine 20 = .ok (.getfield 28, 3) := by decide +kernel
theorem dX5_readOutLine_23 : decode cX5_readOutLine 23 = .ok (.aload_n 0, 1) := by decide +kernel
theorem dX5_readOutLine_24 : decode cX5_readOutLine 24 = .ok (.getfield 12, 3) := by decide +kernel
theorem dX5_readOutLine_27 : decode cX5_readOutLine 27 = .ok (.getfield 72, 3) := by decide +kernel
theorem dX5_readOutLine_30 : decode cX5_readOutLine 30 = .ok (.invokevirtual 202, 3) := by decide +kernel
theorem dX5_readOutLine_33 : decode cX5_readOutLine 33 = .ok (.ifCond .ne 9, 3) := by decide +kernel
theorem dX5_readOutLine_36 : decode cX5_readOutLine 36 = .ok (.aload_n 0, 1) := by decide +kernel
theorem dX5_readOutLine_37 : decode cX5_readOutLine 37 = .ok (.iconst 3, 1) := by decide +kernel
theorem dX5_readOutLine_38 : decode cX5_readOutLine 38 = .ok (.invokevirtual 51, 3) := by decide +kernel
theorem dX5_readOutLine_41 : decode cX5_readOutLine 41 = .ok (.ireturn, 1) := by decide +kernel
theorem dX5_readOutLine_42 : decode cX5_readOutLine 42 = .ok (.aload_n 0, 1) := by decide +kernel
theorem dX5_readOutLine_43 : decode cX5_readOutLine 43 = .ok (.getfield 28, 3) := by decide +kernel
theorem dX5_readOutLine_46 : decode cX5_readOutLine 46 = .ok (.aload_n 0, 1) := by decide +kernel
theorem dX5_readOutLine_47 : decode cX5_readOutLine 47 = .ok (.getfield 12, 3) := by decide +kernel
theorem dX5_readOutLine_50 : decode cX5_readOutLine 50 = .ok (.getfield 72, 3) := by decide +kernel
theorem dX5_readOutLine_53 : decode cX5_readOutLine 53 = .ok (.invokevirtual 205, 3) := by decide +kernel
theorem dX5_readOutLine_56 : decode cX5_readOutLine 56 = .ok (.pop, 1) := by decide +kernel
theorem dX5_readOutLine_57 : decode cX5_readOutLine 57 = .ok (.aload_n 0, 1) := by decide +kernel
theorem dX5_readOutLine_58 : decode cX5_readOutLine 58 = .ok (.invokevirtual 102, 3) := by decide +kernel
theorem dX5_readOutLine_61 : decode cX5_readOutLine 61 = .ok (.ireturn, 1) := by decide +kernel
theorem dX5_readInsertLine_0 : decode cX5_readInsertLine 0 = .ok (.aload_n 0, 1) := by decide +kernel
theorem dX5_readInsertLine_1 : decode cX5_readInsertLine 1 = .ok (.iconst 0, 1) := by decide +kernel
theorem dX5_readInsertLine_2 : decode cX5_readInsertLine 2 = .ok (.aload_n 0, 1) := by decide +kernel
theorem dX5_readInsertLine_3 : decode cX5_readInsertLine 3 = .ok (.getfield 28, 3) := by decide +kernel
theorem dX5_readInsertLine_6 : decode cX5_readInsertLine 6 = .ok (.invokevirtual 192, 3) := by decide +kernel
theorem dX5_readInsertLine_9 : decode cX5_readInsertLine 9 = .ok (.iconst 1, 1) := by decide +kernel
theorem dX5_readInsertLine_10 : decode cX5_readInsertLine 10 = .ok (.isub, 1) := by decide +kernel
theorem dX5_readInsertLine_11 : decode cX5_readInsertLine 11 = .ok (.invokevirtual 84, 3) := by decide +kernel
theorem dX5_readInsertLine_14 : decode cX5_readInsertLine 14 = .ok (.ifCond .ne 5, 3) := by decide +kernel
theorem dX5_readInsertLine_17 : decode cX5_readInsertLine 17 = .ok (.iconst 0, 1) := by decide +kernel
theorem dX5_readInsertLine_18 : decode cX5_readInsertLine 18 = .ok (.ireturn, 1) := by decide +kernel
theorem dX5_readInsertLine_19 : decode cX5_readInsertLine 19 = .ok (.aload_n 0, 1) := by decide +kernel
theorem dX5_readInsertLine_20 : decode cX5_readInsertLine 20 = .ok (.getfield 12, 3) := by decide +kernel
theorem dX5_readInsertLine_23 : decode cX5_readInsertLine 23 = .ok (.getfield 72, 3) := by decide +kernel
theorem dX5_readInsertLine_26 : decode cX5_readInsertLine 26 = .ok (.istore_n 1, 1) := by decide +kernel
theorem dX5_readInsertLine_27 : decode cX5_readInsertLine 27 = .ok (.aload_n 0, 1) := by decide +kernel
theorem dX5_readInsertLine_28 : decode cX5_readInsertLine 28 = .ok (.getfield 28, 3) := by decide +kernel
theorem dX5_readInsertLine_31 : decode cX5_readInsertLine 31 = .ok (.iload_n 1, 1) := by decide +kernel
theorem dX5_readInsertLine_32 : decode cX5_readInsertLine 32 = .ok (.invokevirtual 208, 3) := by decide +kernel
theorem dX5_readInsertLine_35 : decode cX5_readInsertLine 35 = .ok (.ifCond .ne 9, 3) := by decide +kernel
theorem dX5_readInsertLine_38 : decode cX5_readInsertLine 38 = .ok (.aload_n 0, 1) := by decide +kernel
theorem dX5_readInsertLine_39 : decode cX5_readInsertLine 39 = .ok (.iconst 3, 1) := by decide +kernel
theorem dX5_readInsertLine_40 : decode cX5_readInsertLine 40 = .ok (.invokevirtual 51, 3) := by decide +kernel
theorem dX5_readInsertLine_43 : decode cX5_readInsertLine 43 = .ok (.ireturn, 1) := by decide +kernel
theorem dX5_readInsertLine_44 : decode cX5_readInsertLine 44 = .ok (.aload_n 0, 1) := by decide +kernel
theorem dX5_readInsertLine_45 : decode cX5_readInsertLine 45 = .ok (.getfield 12, 3) := by decide +kernel
theorem dX5_readInsertLine_48 : decode cX5_readInsertLine 48 = .ok (.invokevirtual 55, 3) := by decide +kernel
theorem dX5_readInsertLine_51 : decode cX5_readInsertLine 51 = .ok (.aload_n 0, 1) := by decide +kernel
theorem dX5_readInsertLine_52 : decode cX5_readInsertLine 52 = .ok (.getfield 12, 3) := by decide +kernel
theorem dX5_readInsertLine_55 : decode cX5_readInsertLine 55 = .ok (.getfield 48, 3) := by decide +kernel
theorem dX5_readInsertLine_58 : decode cX5_readInsertLine 58 = .ok (.iconst 1, 1) := by decide +kernel
theorem dX5_readInsertLine_59 : decode cX5_readInsertLine 59 = .ok (.if_icmp .eq 9, 3) := by decide +kernel
theorem dX5_readInsertLine_62 : decode cX5_readInsertLine 62 = .ok (.aload_n 0, 1) := by decide +kernel
theorem dX5_readInsertLine_63 : decode cX5_readInsertLine 63 = .ok (.iconst 1, 1) := by decide +kernel
theorem dX5_readInsertLine_64 : decode cX5_readInsertLine 64 = .ok (.invokevirtual 51, 3) := by decide +kernel
theorem dX5_readInsertLine_67 : decode cX5_readInsertLine 67 = .ok (.ireturn, 1) := by decide +kernel
theorem dX5_readInsertLine_68 : decode cX5_readInsertLine 68 = .ok (.aload_n 0, 1) := by decide +kernel
theorem dX5_readInsertLine_69 : decode cX5_readInsertLine 69 = .ok (.getfield 28, 3) := by decide +kernel
theorem dX5_readInsertLine_72 : decode cX5_readInsertLine 72 = .ok (.iload_n 1, 1) := by decide +kernel
theorem dX5_readInsertLine_73 : decode cX5_readInsertLine 73 = .ok (.aload_n 0, 1) := by decide +kernel
theorem dX5_readInsertLine_74 : decode cX5_readInsertLine 74 = .ok (.getfield 12, 3) := by decide +kernel
theorem dX5_readInsertLine_77 : decode cX5_readInsertLine 77 = .ok (.getfield 64, 3) := by decide +kernel
theorem dX5_readInsertLine_80 : decode cX5_readInsertLine 80 = .ok (.invokevirtual 211, 3) := by decide +kernel
theorem dX5_readInsertLine_83 : decode cX5_readInsertLine 83 = .ok (.aload_n 0, 1) := by decide +kernel
theorem dX5_readInsertLine_84 : decode cX5_readInsertLine 84 = .ok (.invokevirtual 102, 3) := by decide +kernel
theorem dX5_readInsertLine_87 : decode cX5_readInsertLine 87 = .ok (.ireturn, 1) := by decide +kernel
theorem dX5_readSealLine_0 : decode cX5_readSealLine 0 = .ok (.aload_n 0, 1) := by decide +kernel
theorem dX5_readSealLine_1 : decode cX5_readSealLine 1 = .ok (.iconst 0, 1) := by decide +kernel
theorem dX5_readSealLine_2 : decode cX5_readSealLine 2 = .ok (.bipush 9, 2) := by decide +kernel
theorem dX5_readSealLine_4 : decode cX5_readSealLine 4 = .ok (.invokevirtual 84, 3) := by decide +kernel
theorem dX5_readSealLine_7 : decode cX5_readSealLine 7 = .ok (.ifCond .ne 5, 3) := by decide +kernel
theorem dX5_readSealLine_10 : decode cX5_readSealLine 10 = .ok (.iconst 0, 1) := by decide +kernel
theorem dX5_readSealLine_11 : decode cX5_readSealLine 11 = .ok (.ireturn, 1) := by decide +kernel
theorem dX5_readSealLine_12 : decode cX5_readSealLine 12 = .ok (.aload_n 0, 1) := by decide +kernel
theorem dX5_readSealLine_13 : decode cX5_readSealLine 13 = .ok (.getfield 12, 3) := by decide +kernel
theorem dX5_readSealLine_16 : decode cX5_readSealLine 16 = .ok (.getfield 72, 3) := by decide +kernel
theorem dX5_readSealLine_19 : decode cX5_readSealLine 19 = .ok (.istore_n 1, 1) := by decide +kernel
theorem dX5_readSealLine_20 : decode cX5_readSealLine 20 = .ok (.aload_n 0, 1) := by decide +kernel
theorem dX5_readSealLine_21 : decode cX5_readSealLine 21 = .ok (.iconst 0, 1) := by decide +kernel
theorem dX5_readSealLine_22 : decode cX5_readSealLine 22 = .ok (.bipush 99, 2) := by decide +kernel
theorem dX5_readSealLine_24 : decode cX5_readSealLine 24 = .ok (.invokevirtual 84, 3) := by decide +kernel
theorem dX5_readSealLine_27 : decode cX5_readSealLine 27 = .ok (.ifCond .ne 5, 3) := by decide +kernel
theorem dX5_readSealLine_30 : decode cX5_readSealLine 30 = .ok (.iconst 0, 1) := by decide +kernel
theorem dX5_readSealLine_31 : decode cX5_readSealLine 31 = .ok (.ireturn, 1) := by decide +kernel
theorem dX5_readSealLine_32 : decode cX5_readSealLine 32 = .ok (.aload_n 0, 1) := by decide +kernel
theorem dX5_readSealLine_33 : decode cX5_readSealLine 33 = .ok (.getfield 28, 3) := by decide +kernel
theorem dX5_readSealLine_36 : decode cX5_readSealLine 36 = .ok (.iload_n 1, 1) := by decide +kernel
theorem dX5_readSealLine_37 : decode cX5_readSealLine 37 = .ok (.aload_n 0, 1) := by decide +kernel
theorem dX5_readSealLine_38 : decode cX5_readSealLine 38 = .ok (.getfield 12, 3) := by decide +kernel
theorem dX5_readSealLine_41 : decode cX5_readSealLine 41 = .ok (.getfield 72, 3) := by decide +kernel
theorem dX5_readSealLine_44 : decode cX5_readSealLine 44 = .ok (.invokevirtual 215, 3) := by decide +kernel
theorem dX5_readSealLine_47 : decode cX5_readSealLine 47 = .ok (.ifCond .eq 9, 3) := by decide +kernel
theorem dX5_readSealLine_50 : decode cX5_readSealLine 50 = .ok (.aload_n 0, 1) := by decide +kernel
theorem dX5_readSealLine_51 : decode cX5_readSealLine 51 = .ok (.iconst 3, 1) := by decide +kernel
theorem dX5_readSealLine_52 : decode cX5_readSealLine 52 = .ok (.invokevirtual 51, 3) := by decide +kernel
theorem dX5_readSealLine_55 : decode cX5_readSealLine 55 = .ok (.ireturn, 1) := by decide +kernel
theorem dX5_readSealLine_56 : decode cX5_readSealLine 56 = .ok (.aload_n 0, 1) := by decide +kernel
theorem dX5_readSealLine_57 : decode cX5_readSealLine 57 = .ok (.getfield 28, 3) := by decide +kernel
theorem dX5_readSealLine_60 : decode cX5_readSealLine 60 = .ok (.iload_n 1, 1) := by decide +kernel
theorem dX5_readSealLine_61 : decode cX5_readSealLine 61 = .ok (.invokevirtual 219, 3) := by decide +kernel
theorem dX5_readSealLine_64 : decode cX5_readSealLine 64 = .ok (.pop, 1) := by decide +kernel
theorem dX5_readSealLine_65 : decode cX5_readSealLine 65 = .ok (.aload_n 0, 1) := by decide +kernel
theorem dX5_readSealLine_66 : decode cX5_readSealLine 66 = .ok (.invokevirtual 102, 3) := by decide +kernel
theorem dX5_readSealLine_69 : decode cX5_readSealLine 69 = .ok (.ireturn, 1) := by decide +kernel
theorem dX5_readCancelLine_0 : decode cX5_readCancelLine 0 = .ok (.aload_n 0, 1) := by decide +kernel
theorem dX5_readCancelLine_1 : decode cX5_readCancelLine 1 = .ok (.getfield 28, 3) := by decide +kernel
theorem dX5_readCancelLine_4 : decode cX5_readCancelLine 4 = .ok (.invokevirtual 149, 3) := by decide +kernel
theorem dX5_readCancelLine_7 : decode cX5_readCancelLine 7 = .ok (.ifnonnull 9, 3) := by decide +kernel
theorem dX5_readCancelLine_10 : decode cX5_readCancelLine 10 = .ok (.aload_n 0, 1) := by decide +kernel
theorem dX5_readCancelLine_11 : decode cX5_readCancelLine 11 = .ok (.iconst 3, 1) := by decide +kernel
theorem dX5_readCancelLine_12 : decode cX5_readCancelLine 12 = .ok (.invokevirtual 51, 3) := by decide +kernel
theorem dX5_readCancelLine_15 : decode cX5_readCancelLine 15 = .ok (.ireturn, 1) := by decide +kernel
theorem dX5_readCancelLine_16 : decode cX5_readCancelLine 16 = .ok (.aload_n 0, 1) := by decide +kernel
theorem dX5_readCancelLine_17 : decode cX5_readCancelLine 17 = .ok (.getfield 28, 3) := by decide +kernel
theorem dX5_readCancelLine_20 : decode cX5_readCancelLine 20 = .ok (.invokevirtual 222, 3) := by decide +kernel
theorem dX5_readCancelLine_23 : decode cX5_readCancelLine 23 = .ok (.aload_n 0, 1) := by decide +kernel
theorem dX5_readCancelLine_24 : decode cX5_readCancelLine 24 = .ok (.invokevirtual 102, 3) := by decide +kernel
theorem dX5_readCancelLine_27 : decode cX5_readCancelLine 27 = .ok (.ireturn, 1) := by decide +kernel
theorem dX5_readCopyLine_0 : decode cX5_readCopyLine 0 = .ok (.aload_n 0, 1) := by decide +kernel
theorem dX5_readCopyLine_1 : decode cX5_readCopyLine 1 = .ok (.getfield 28, 3) := by decide +kernel
theorem dX5_readCopyLine_4 : decode cX5_readCopyLine 4 = .ok (.getfield 225, 3) := by decide +kernel
theorem dX5_readCopyLine_7 : decode cX5_readCopyLine 7 = .ok (.bipush 8, 2) := by decide +kernel
theorem dX5_readCopyLine_9 : decode cX5_readCopyLine 9 = .ok (.if_icmp .lt 9, 3) := by decide +kernel
theorem dX5_readCopyLine_12 : decode cX5_readCopyLine 12 = .ok (.aload_n 0, 1) := by decide +kernel
theorem dX5_readCopyLine_13 : decode cX5_readCopyLine 13 = .ok (.iconst 4, 1) := by decide +kernel
theorem dX5_readCopyLine_14 : decode cX5_readCopyLine 14 = .ok (.invokevirtual 51, 3) := by decide +kernel
theorem dX5_readCopyLine_17 : decode cX5_readCopyLine 17 = .ok (.ireturn, 1) := by decide +kernel
theorem dX5_readCopyLine_18 : decode cX5_readCopyLine 18 = .ok (.aload_n 0, 1) := by decide +kernel
theorem dX5_readCopyLine_19 : decode cX5_readCopyLine 19 = .ok (.iconst 1, 1) := by decide +kernel
theorem dX5_readCopyLine_20 : decode cX5_readCopyLine 20 = .ok (.aload_n 0, 1) := by decide +kernel
theorem dX5_readCopyLine_21 : decode cX5_readCopyLine 21 = .ok (.getfield 28, 3) := by decide +kernel
theorem dX5_readCopyLine_24 : decode cX5_readCopyLine 24 = .ok (.getfield 153, 3) := by decide +kernel
theorem dX5_readCopyLine_27 : decode cX5_readCopyLine 27 = .ok (.invokevirtual 84, 3) := by decide +kernel
theorem dX5_readCopyLine_30 : decode cX5_readCopyLine 30 = .ok (.ifCond .ne 5, 3) := by decide +kernel
theorem dX5_readCopyLine_33 : decode cX5_readCopyLine 33 = .ok (.iconst 0, 1) := by decide +kernel
theorem dX5_readCopyLine_34 : decode cX5_readCopyLine 34 = .ok (.ireturn, 1) := by decide +kernel
theorem dX5_readCopyLine_35 : decode cX5_readCopyLine 35 = .ok (.aload_n 0, 1) := by decide +kernel
theorem dX5_readCopyLine_36 : decode cX5_readCopyLine 36 = .ok (.getfield 12, 3) := by decide +kernel
theorem dX5_readCopyLine_39 : decode cX5_readCopyLine 39 = .ok (.getfield 72, 3) := by decide +kernel
theorem dX5_readCopyLine_42 : decode cX5_readCopyLine 42 = .ok (.istore_n 1, 1) := by decide +kernel
theorem dX5_readCopyLine_43 : decode cX5_readCopyLine 43 = .ok (.aload_n 0, 1) := by decide +kernel
theorem dX5_readCopyLine_44 : decode cX5_readCopyLine 44 = .ok (.iconst 0, 1) := by decide +kernel
theorem dX5_readCopyLine_45 : decode cX5_readCopyLine 45 = .ok (.iconst 2, 1) := by decide +kernel
theorem dX5_readCopyLine_46 : decode cX5_readCopyLine 46 = .ok (.invokevirtual 84, 3) := by decide +kernel
theorem dX5_readCopyLine_49 : decode cX5_readCopyLine 49 = .ok (.ifCond .ne 5, 3) := by decide +kernel
theorem dX5_readCopyLine_52 : decode cX5_readCopyLine 52 = .ok (.iconst 0, 1) := by decide +kernel
theorem dX5_readCopyLine_53 : decode cX5_readCopyLine 53 = .ok (.ireturn, 1) := by decide +kernel
theorem dX5_readCopyLine_54 : decode cX5_readCopyLine 54 = .ok (.aload_n 0, 1) := by decide +kernel
theorem dX5_readCopyLine_55 : decode cX5_readCopyLine 55 = .ok (.getfield 28, 3) := by decide +kernel
theorem dX5_readCopyLine_58 : decode cX5_readCopyLine 58 = .ok (.iload_n 1, 1) := by decide +kernel
theorem dX5_readCopyLine_59 : decode cX5_readCopyLine 59 = .ok (.aload_n 0, 1) := by decide +kernel
theorem dX5_readCopyLine_60 : decode cX5_readCopyLine 60 = .ok (.getfield 12, 3) := by decide +kernel
theorem dX5_readCopyLine_63 : decode cX5_readCopyLine 63 = .ok (.getfield 72, 3) := by decide +kernel
theorem dX5_readCopyLine_66 : decode cX5_readCopyLine 66 = .ok (.invokevirtual 228, 3) := by decide +kernel
theorem dX5_readCopyLine_69 : decode cX5_readCopyLine 69 = .ok (.ifCond .eq 9, 3) := by decide +kernel
theorem dX5_readCopyLine_72 : decode cX5_readCopyLine 72 = .ok (.aload_n 0, 1) := by decide +kernel
theorem dX5_readCopyLine_73 : decode cX5_readCopyLine 73 = .ok (.iconst 3, 1) := by decide +kernel
theorem dX5_readCopyLine_74 : decode cX5_readCopyLine 74 = .ok (.invokevirtual 51, 3) := by decide +kernel
theorem dX5_readCopyLine_77 : decode cX5_readCopyLine 77 = .ok (.ireturn, 1) := by decide +kernel
theorem dX5_readCopyLine_78 : decode cX5_readCopyLine 78 = .ok (.aload_n 0, 1) := by decide +kernel
theorem dX5_readCopyLine_79 : decode cX5_readCopyLine 79 = .ok (.getfield 28, 3) := by decide +kernel
theorem dX5_readCopyLine_82 : decode cX5_readCopyLine 82 = .ok (.iload_n 1, 1) := by decide +kernel
theorem dX5_readCopyLine_83 : decode cX5_readCopyLine 83 = .ok (.aload_n 0, 1) := by decide +kernel
theorem dX5_readCopyLine_84 : decode cX5_readCopyLine 84 = .ok (.getfield 12, 3) := by decide +kernel
theorem dX5_readCopyLine_87 : decode cX5_readCopyLine 87 = .ok (.getfield 72, 3) := by decide +kernel
theorem dX5_readCopyLine_90 : decode cX5_readCopyLine 90 = .ok (.invokevirtual 231, 3) := by decide +kernel
theorem dX5_readCopyLine_93 : decode cX5_readCopyLine 93 = .ok (.aload_n 0, 1) := by decide +kernel
theorem dX5_readCopyLine_94 : decode cX5_readCopyLine 94 = .ok (.invokevirtual 102, 3) := by decide +kernel
theorem dX5_readCopyLine_97 : decode cX5_readCopyLine 97 = .ok (.ireturn, 1) := by decide +kernel
set_option maxRecDepth 100000 in
set_option maxHeartbeats 4000000 in
theorem cX5_kindAtWordc {l : Launch} {v0 : Option Nat} {σ : HpT} {r : Int32} (h : fX5_kindAtWord v0 σ = some r) : IsK σ v0 5 ∧ Ct l yX5_kindAtWord cX5_kindAtWord 1 (some .int) 6 129 [va_rf v0] σ (.ok (some (.int r))) σ 0 0 := by
  unfold fX5_kindAtWord at h
  replace h := bnP_s h
  obtain ⟨u, hk, h⟩ := h
  replace hk := isK_s hk
  refine ⟨hk, ?_⟩
  refine ct_start mi_X5_kindAtWord.1 rfl (al_le (al_1 (rf_cat _) al_n) (Nat.le_of_ble_eq_true rfl)) (ag_1 (rf_cat _) ag_n) (fun Δ Γ B hE hnm => ?_)
  refine g_aload_n B 0 dX5_kindAtWord_0 rfl rfl ?_
  refine g_ldcS B (j := 3) rfl dX5_kindAtWord_1 ?_
  replace h := bnP_s h
  obtain ⟨x1, h2, h⟩ := h
  refine g_callVs0 (st := []) B (cX5_isAtWordc h2) (Nat.le_of_ble_eq_true rfl) rfl rfl mi_X5_isAtWord lk_RX5_80 ⟨Nat.le_of_ble_eq_true rfl, Nat.le_of_ble_eq_true rfl⟩ rfl rfl (Nat.le_of_ble_eq_true rfl) dX5_kindAtWord_3 (Nat.zero_le _) (Nat.zero_le _) ?_
  refine g_if_eq B 11 dX5_kindAtWord_6 (by decide) (fun hc => ?_) (fun hc => ?_)
  · replace h := ifn (bI0 hc) h
    refine g_aload_n B 0 dX5_kindAtWord_11 rfl rfl ?_
    refine g_ldcS B (j := 4) rfl dX5_kindAtWord_12 ?_
    replace h := bnP_s h
    obtain ⟨x3, h4, h⟩ := h
    refine g_callVs0 (st := []) B (cX5_isAtWordc h4) (Nat.le_of_ble_eq_true rfl) rfl rfl mi_X5_isAtWord lk_RX5_80 ⟨Nat.le_of_ble_eq_true rfl, Nat.le_of_ble_eq_true rfl⟩ rfl rfl (Nat.le_of_ble_eq_true rfl) dX5_kindAtWord_14 (Nat.zero_le _) (Nat.zero_le _) ?_
    refine g_if_eq B 22 dX5_kindAtWord_17 (by decide) (fun hc => ?_) (fun hc => ?_)
    · replace h := ifn (bI0 hc) h
      refine g_aload_n B 0 dX5_kindAtWord_22 rfl rfl ?_
      refine g_ldcS B (j := 5) rfl dX5_kindAtWord_23 ?_
      replace h := bnP_s h
      obtain ⟨x5, h6, h⟩ := h
      refine g_callVs0 (st := []) B (cX5_isAtWordc h6) (Nat.le_of_ble_eq_true rfl) rfl rfl mi_X5_isAtWord lk_RX5_80 ⟨Nat.le_of_ble_eq_true rfl, Nat.le_of_ble_eq_true rfl⟩ rfl rfl (Nat.le_of_ble_eq_true rfl) dX5_kindAtWord_25 (Nat.zero_le _) (Nat.zero_le _) ?_
      refine g_if_eq B 35 dX5_kindAtWord_28 (by decide) (fun hc => ?_) (fun hc => ?_)
      · replace h := ifn (bI0 hc) h
        refine g_iconst (v := (-1)) B dX5_kindAtWord_35 (by decide) ?_
        replace h := Option.some.inj h
        subst h
        exact g_iret B hE (Nat.zero_le _) (Nat.zero_le _) dX5_kindAtWord_36
      · replace h := ifp (bI1 hc) h
        refine g_iconst (v := 2) B dX5_kindAtWord_31 (by decide) ?_
        refine g_goto B 36 dX5_kindAtWord_32 (by decide) ?_
        replace h := Option.some.inj h
        subst h
        exact g_iret B hE (Nat.zero_le _) (Nat.zero_le _) dX5_kindAtWord_36
    · replace h := ifp (bI1 hc) h
      refine g_iconst (v := 1) B dX5_kindAtWord_20 (by decide) ?_
      replace h := Option.some.inj h
      subst h
      exact g_iret B hE (Nat.zero_le _) (Nat.zero_le _) dX5_kindAtWord_21
  · replace h := ifp (bI1 hc) h
    refine g_iconst (v := 0) B dX5_kindAtWord_9 (by decide) ?_
    replace h := Option.some.inj h
    subst h
    exact g_iret B hE (Nat.zero_le _) (Nat.zero_le _) dX5_kindAtWord_10
set_option maxRecDepth 100000 in
set_option maxHeartbeats 4000000 in
theorem cX8_stagec {l : Launch} {v0 : Option Nat} {v1 : Int32} {v2 : Int64} {v4 : Int32} {σ : HpT} {σ' : HpT} (h : fX8_stage v0 v1 v2 v4 σ = some σ') : IsK σ v0 8 ∧ Ct l yX8_stage cX8_stage 5 none 0 0 [va_rf v0, .int v1, .long v2, .int v4] σ (.ok none) σ' 0 0 := by
  unfold fX8_stage at h
  replace h := bnP_s h
  obtain ⟨u, hk, h⟩ := h
  replace hk := isK_s hk
  refine ⟨hk, ?_⟩
  refine ct_start mi_X8_stage.1 rfl (al_le (al_1 (rf_cat _) (al_1 rfl (al_2 rfl (al_1 rfl al_n)))) (Nat.le_of_ble_eq_true rfl)) (ag_1 (rf_cat _) (ag_1 rfl (ag_2 rfl (ag_1 rfl ag_n)))) (fun Δ Γ B hE hnm => ?_)
  refine g_iload_n B 1 dX8_stage_0 rfl rfl ?_
  refine g_aload_n B 0 dX8_stage_1 rfl rfl ?_
  replace h := bnP_s h
  obtain ⟨x1, h2, h⟩ := h
  refine g_getI B fl_RX8_32 (by decide) dX8_stage_2 h2 ?_
  refine g_icmp_lt B 51 dX8_stage_5 (by decide) (fun hc => ?_) (fun hc => ?_)
  · replace h := ifp hc h
    replace h := Option.some.inj h
    subst h
    exact g_vret B hE (Nat.zero_le _) (Nat.zero_le _) dX8_stage_51
  · replace h := ifn hc h
    refine g_iload_n B 1 dX8_stage_8 rfl rfl ?_
    refine g_sipush (v := 240) B dX8_stage_9 (by decide) ?_
    refine g_icmp_ge B 51 dX8_stage_12 (by decide) (fun hc => ?_) (fun hc => ?_)
    · replace h := ifp hc h
      replace h := Option.some.inj h
      subst h
      exact g_vret B hE (Nat.zero_le _) (Nat.zero_le _) dX8_stage_51
    · replace h := ifn hc h
      refine g_aload_n B 0 dX8_stage_15 rfl rfl ?_
      replace h := bnP_s h
      obtain ⟨x3, h4, h⟩ := h
      refine g_getR B fl_RX8_11 (by decide) dX8_stage_16 h4 ?_
      refine g_iload_n B 1 dX8_stage_19 rfl rfl ?_
      refine g_lload_n B 2 dX8_stage_20 rfl rfl ?_
      replace h := bnP_s h
      obtain ⟨s7, h6, h⟩ := h
      refine g_last B dX8_stage_21 h6 ?_
      refine g_aload_n B 0 dX8_stage_22 rfl rfl ?_
      replace h := bnP_s h
      obtain ⟨x8, h9, h⟩ := h
      refine g_getR B fl_RX8_15 (by decide) dX8_stage_23 h9 ?_
      refine g_iload_n B 1 dX8_stage_26 rfl rfl ?_
      refine g_iload B 3 dX8_stage_27 rfl ?_
      replace h := bnP_s h
      obtain ⟨s12, h11, h⟩ := h
      refine g_iast B dX8_stage_29 h11 ?_
      refine g_aload_n B 0 dX8_stage_30 rfl rfl ?_
      replace h := bnP_s h
      obtain ⟨x13, h14, h⟩ := h
      refine g_getR B fl_RX8_19 (by decide) dX8_stage_31 h14 ?_
      refine g_iload_n B 1 dX8_stage_34 rfl rfl ?_
      refine g_iconst (v := 0) B dX8_stage_35 (by decide) ?_
      replace h := bnP_s h
      obtain ⟨s17, h16, h⟩ := h
      refine g_iast B dX8_stage_36 h16 ?_
      refine g_aload_n B 0 dX8_stage_37 rfl rfl ?_
      replace h := bnP_s h
      obtain ⟨x18, h19, h⟩ := h
      refine g_getR B fl_RX8_22 (by decide) dX8_stage_38 h19 ?_
      refine g_iload_n B 1 dX8_stage_41 rfl rfl ?_
      refine g_iconst (v := 0) B dX8_stage_42 (by decide) ?_
      replace h := bnP_s h
      obtain ⟨s22, h21, h⟩ := h
      refine g_zast B dX8_stage_43 h21 ?_
      refine g_aload_n B 0 dX8_stage_44 rfl rfl ?_
      replace h := bnP_s h
      obtain ⟨x23, h24, h⟩ := h
      refine g_getR B fl_RX8_26 (by decide) dX8_stage_45 h24 ?_
      refine g_iload_n B 1 dX8_stage_48 rfl rfl ?_
      refine g_iconst (v := 0) B dX8_stage_49 (by decide) ?_
      replace h := bnP_s h
      obtain ⟨s27, h26, h⟩ := h
      refine g_iast B dX8_stage_50 h26 ?_
      replace h := Option.some.inj h
      subst h
      exact g_vret B hE (Nat.zero_le _) (Nat.zero_le _) dX8_stage_51
set_option maxRecDepth 100000 in
set_option maxHeartbeats 4000000 in
theorem cX8_closeBehindc {l : Launch} {v0 : Option Nat} {v1 : Int32} {σ : HpT} {σ' : HpT} (h : fX8_closeBehind v0 v1 σ = some σ') : IsK σ v0 8 ∧ Ct l yX8_closeBehind cX8_closeBehind 2 none 0 0 [va_rf v0, .int v1] σ (.ok none) σ' 0 0 := by
  unfold fX8_closeBehind at h
  replace h := bnP_s h
  obtain ⟨u, hk, h⟩ := h
  replace hk := isK_s hk
  refine ⟨hk, ?_⟩
  refine ct_start mi_X8_closeBehind.1 rfl (al_le (al_1 (rf_cat _) (al_1 rfl al_n)) (Nat.le_of_ble_eq_true rfl)) (ag_1 (rf_cat _) (ag_1 rfl ag_n)) (fun Δ Γ B hE hnm => ?_)
  refine g_iload_n B 1 dX8_closeBehind_0 rfl rfl ?_
  refine g_aload_n B 0 dX8_closeBehind_1 rfl rfl ?_
  replace h := bnP_s h
  obtain ⟨x1, h2, h⟩ := h
  refine g_getI B fl_RX8_32 (by decide) dX8_closeBehind_2 h2 ?_
  refine g_icmp_lt B 25 dX8_closeBehind_5 (by decide) (fun hc => ?_) (fun hc => ?_)
  · replace h := ifp hc h
    replace h := Option.some.inj h
    subst h
    exact g_vret B hE (Nat.zero_le _) (Nat.zero_le _) dX8_closeBehind_25
  · replace h := ifn hc h
    refine g_iload_n B 1 dX8_closeBehind_8 rfl rfl ?_
    refine g_sipush (v := 240) B dX8_closeBehind_9 (by decide) ?_
    refine g_icmp_ge B 25 dX8_closeBehind_12 (by decide) (fun hc => ?_) (fun hc => ?_)
    · replace h := ifp hc h
      replace h := Option.some.inj h
      subst h
      exact g_vret B hE (Nat.zero_le _) (Nat.zero_le _) dX8_closeBehind_25
    · replace h := ifn hc h
      refine g_aload_n B 0 dX8_closeBehind_15 rfl rfl ?_
      replace h := bnP_s h
      obtain ⟨x3, h4, h⟩ := h
      refine g_getR B fl_RX8_19 (by decide) dX8_closeBehind_16 h4 ?_
      refine g_iload_n B 1 dX8_closeBehind_19 rfl rfl ?_
      refine g_dup2 B dX8_closeBehind_20 rfl (rf_cat _) ?_
      replace h := bnP_s h
      obtain ⟨x5, h6, h⟩ := h
      refine g_iald B dX8_closeBehind_21 h6 ?_
      refine g_iconst (v := 1) B dX8_closeBehind_22 (by decide) ?_
      refine g_iadd B dX8_closeBehind_23 ?_
      replace h := bnP_s h
      obtain ⟨s9, h8, h⟩ := h
      refine g_iast B dX8_closeBehind_24 h8 ?_
      replace h := Option.some.inj h
      subst h
      exact g_vret B hE (Nat.zero_le _) (Nat.zero_le _) dX8_closeBehind_25
set_option maxRecDepth 100000 in
set_option maxHeartbeats 4000000 in
theorem cX5_readBodyc {l : Launch} {v0 : Option Nat} {σ : HpT} {r : Bool} {σ' : HpT} (h : fX5_readBody v0 σ = some (r, σ')) : IsK σ v0 5 ∧ Ct l yX5_readBody cX5_readBody 5 (some .boolean) 3 62 [va_rf v0] σ (.ok (some (.int (bI r)))) σ' 0 0 := by
  unfold fX5_readBody at h
  replace h := bnP_s h
  obtain ⟨u, hk, h⟩ := h
  replace hk := isK_s hk
  refine ⟨hk, ?_⟩
  refine ct_start mi_X5_readBody.1 rfl (al_le (al_1 (rf_cat _) al_n) (Nat.le_of_ble_eq_true rfl)) (ag_1 (rf_cat _) ag_n) (fun Δ Γ B hE hnm => ?_)
  refine g_aload_n B 0 dX5_readBody_0 rfl rfl ?_
  replace h := bnP_s h
  obtain ⟨x1, h2, h⟩ := h
  refine g_getR B fl_RX5_28 (by decide) dX5_readBody_1 h2 ?_
  replace h := bnP_s h
  obtain ⟨x3, h4, h⟩ := h
  refine g_getRg B fl_RX5_172 (by decide) dX5_readBody_4 h4 ?_
  refine g_astore_n B dX5_readBody_7 rfl (Nat.le_of_ble_eq_true rfl) (s1_c (f1_1 rfl (rf_cat _) f1_n)) ?_
  refine g_iconst (v := 0) B dX5_readBody_8 (by decide) ?_
  refine g_istore_n B dX5_readBody_9 rfl (Nat.le_of_ble_eq_true rfl) (s1_c (f1_1 rfl (rf_cat _) (f1_k rfl f1_n))) ?_
  refine g_iconst (v := 0) B dX5_readBody_10 (by decide) ?_
  refine g_istore_n B dX5_readBody_11 rfl (Nat.le_of_ble_eq_true rfl) (s1_c (f1_1 rfl rfl (f1_k rfl (f1_k rfl f1_n)))) ?_
  refine g_aload_n B 3 dX5_readBody_12 rfl rfl ?_
  refine g_iconst (v := 0) B dX5_readBody_13 (by decide) ?_
  replace h := bnP_s h
  obtain ⟨s7, h6, h⟩ := h
  refine g_putI B fl_RX5_159 (by decide) dX5_readBody_14 h6 ?_
  refine g_iconst (v := 0) B dX5_readBody_17 (by decide) ?_
  refine g_istore B dX5_readBody_18 (Nat.le_of_ble_eq_true rfl) (s1_c (f1_1 rfl rfl (f1_k rfl (f1_k rfl (f1_k rfl f1_n))))) ?_
  replace h := bnS_s h
  obtain ⟨r9, s114, h10, h⟩ := h
  have kE11 : ∀ y113, r9 = .inl y113 → GW Δ Γ (0) (0) 213 [(0, va_rf v0)] [] s114 := by
    intro y113 er
    subst er
    dsimp only at h
    refine g_aload_n B 0 dX5_readBody_213 rfl rfl ?_
    refine g_iconst (v := 1) B dX5_readBody_214 (by decide) ?_
    replace h := bnS_s h
    obtain ⟨x115, s117, h116, h⟩ := h
    refine g_callVs0 (st := []) B (cX5_failc h116) (Nat.le_of_ble_eq_true rfl) rfl rfl mi_X5_fail lk_RX5_51 ⟨Nat.le_of_ble_eq_true rfl, Nat.le_of_ble_eq_true rfl⟩ rfl rfl (Nat.le_of_ble_eq_true rfl) dX5_readBody_215 (Nat.zero_le _) (Nat.zero_le _) ?_
    obtain ⟨w1, w2⟩ := inS h
    clear h
    subst w1
    subst w2
    exact g_zret B hE (nar_bI _) (Nat.zero_le _) (Nat.zero_le _) dX5_readBody_218
  have kR12 : ∀ vv, r9 = .inr vv → En Δ Γ (.ok (some (.int (bI vv)))) s114 0 0 (some .boolean) ∧ 0 ≤ 0 ∧ 0 ≤ 0 := by
    intro vv er
    subst er
    dsimp only at h
    obtain ⟨w1, w2⟩ := inS h
    clear h
    subst w1
    subst w2
    exact ⟨hE, Nat.zero_le _, Nat.zero_le _⟩
  clear h
  refine g_sub [4, 3, 2, 1, 0] rfl ?_
  refine lpS_w (I := fun q8 s17 => GW Δ Γ (0) (0) 20 [(0, va_rf v0), (1, va_rf x3), (2, .int q8.1), (3, .int q8.2.1), (4, .int q8.2.2)] [] s17) (r := r9) (σr := s114) ?_ FUEL (0, 0, 0) s7 h10
  intro q8 s17 x15 s9 h hI13 hR14
  unfold fX5_readBody_l1 at h
  obtain ⟨qv18, qv19, qv20⟩ := q8
  show GW Δ Γ (0) (0) 20 [(0, va_rf v0), (1, va_rf x3), (2, .int qv18), (3, .int qv19), (4, .int qv20)] [] s17
  dsimp only at h
  refine g_iload B 4 dX5_readBody_20 rfl ?_
  refine g_aload_n B 0 dX5_readBody_22 rfl rfl ?_
  replace h := bnP_s h
  obtain ⟨x21, h22, h⟩ := h
  refine g_getR B fl_RX5_12 (by decide) dX5_readBody_23 h22 ?_
  replace h := bnP_s h
  obtain ⟨x23, h24, h⟩ := h
  refine g_getI B fl_RX5_45 (by decide) dX5_readBody_26 h24 ?_
  refine g_icmp_gt B 213 dX5_readBody_29 (by decide) (fun hc => ?_) (fun hc => ?_)
  · replace h := ifp hc h
    obtain ⟨w1, w2⟩ := inS h
    clear h
    subst w1
    subst w2
    obtain ⟨e8, e7⟩ := hR14 _ rfl
    subst e8
    subst e7
    exact g_sub [0] rfl (kE11 _ rfl)
  · replace h := ifn hc h
    refine g_aload_n B 0 dX5_readBody_32 rfl rfl ?_
    replace h := bnP_s h
    obtain ⟨x25, h26, h⟩ := h
    refine g_getR B fl_RX5_12 (by decide) dX5_readBody_33 h26 ?_
    replace h := bnP_s h
    obtain ⟨x27, h28, h⟩ := h
    refine g_getI B fl_RX5_48 (by decide) dX5_readBody_36 h28 ?_
    refine g_iconst (v := 1) B dX5_readBody_39 (by decide) ?_
    refine g_icmp_ne B 104 dX5_readBody_40 (by decide) (fun hc => ?_) (fun hc => ?_)
    · replace h := ifn hc h
      refine g_aload_n B 0 dX5_readBody_104 rfl rfl ?_
      replace h := bnP_s h
      obtain ⟨x29, h30, h⟩ := h
      refine g_getR B fl_RX5_12 (by decide) dX5_readBody_105 h30 ?_
      replace h := bnP_s h
      obtain ⟨x31, h32, h⟩ := h
      refine g_getI B fl_RX5_48 (by decide) dX5_readBody_108 h32 ?_
      refine g_iconst (v := 4) B dX5_readBody_111 (by decide) ?_
      refine g_icmp_ne B 135 dX5_readBody_112 (by decide) (fun hc => ?_) (fun hc => ?_)
      · replace h := ifn hc h
        refine g_aload_n B 0 dX5_readBody_135 rfl rfl ?_
        replace h := bnP_s h
        obtain ⟨x33, h34, h⟩ := h
        refine g_getR B fl_RX5_12 (by decide) dX5_readBody_136 h34 ?_
        replace h := bnP_s h
        obtain ⟨x35, h36, h⟩ := h
        refine g_getI B fl_RX5_48 (by decide) dX5_readBody_139 h36 ?_
        refine g_iconst (v := 5) B dX5_readBody_142 (by decide) ?_
        refine g_icmp_ne B 175 dX5_readBody_143 (by decide) (fun hc => ?_) (fun hc => ?_)
        · replace h := ifn hc h
          refine g_iload_n B 2 dX5_readBody_175 rfl rfl ?_
          refine g_if_ne B 186 dX5_readBody_176 (by decide) (fun hc => ?_) (fun hc => ?_)
          · replace h := ifn hc h
            refine g_aload_n B 0 dX5_readBody_186 rfl rfl ?_
            refine g_iconst (v := 1) B dX5_readBody_187 (by decide) ?_
            replace h := bnS_s h
            obtain ⟨x37, s39, h38, h⟩ := h
            refine g_callVs0 (st := []) B (cX5_failc h38) (Nat.le_of_ble_eq_true rfl) rfl rfl mi_X5_fail lk_RX5_51 ⟨Nat.le_of_ble_eq_true rfl, Nat.le_of_ble_eq_true rfl⟩ rfl rfl (Nat.le_of_ble_eq_true rfl) dX5_readBody_188 (Nat.zero_le _) (Nat.zero_le _) ?_
            refine g_if_eq B 198 dX5_readBody_191 (by decide) (fun hc => ?_) (fun hc => ?_)
            · replace h := ifn (bI0 hc) h
              refine g_iconst (v := 0) B dX5_readBody_198 (by decide) ?_
              obtain ⟨w1, w2⟩ := inS h
              clear h
              subst w1
              subst w2
              obtain ⟨e8, e7⟩ := hR14 _ rfl
              subst e7
              obtain ⟨hE, hc9, hs9⟩ := kR12 _ e8.symm
              exact g_zret B hE rfl hc9 hs9 dX5_readBody_199
            · replace h := ifp (bI1 hc) h
              refine g_iconst (v := 1) B dX5_readBody_194 (by decide) ?_
              refine g_goto B 199 dX5_readBody_195 (by decide) ?_
              obtain ⟨w1, w2⟩ := inS h
              clear h
              subst w1
              subst w2
              obtain ⟨e8, e7⟩ := hR14 _ rfl
              subst e7
              obtain ⟨hE, hc9, hs9⟩ := kR12 _ e8.symm
              exact g_zret B hE rfl hc9 hs9 dX5_readBody_199
          · replace h := ifp hc h
            refine g_aload_n B 0 dX5_readBody_179 rfl rfl ?_
            replace h := bnP_s h
            obtain ⟨x40, h41, h⟩ := h
            refine g_getI B fl_RX5_159 (by decide) dX5_readBody_180 h41 ?_
            refine g_if_gt B 194 dX5_readBody_183 (by decide) (fun hc => ?_) (fun hc => ?_)
            · replace h := ifp hc h
              refine g_iconst (v := 1) B dX5_readBody_194 (by decide) ?_
              refine g_goto B 199 dX5_readBody_195 (by decide) ?_
              obtain ⟨w1, w2⟩ := inS h
              clear h
              subst w1
              subst w2
              obtain ⟨e8, e7⟩ := hR14 _ rfl
              subst e7
              obtain ⟨hE, hc9, hs9⟩ := kR12 _ e8.symm
              exact g_zret B hE rfl hc9 hs9 dX5_readBody_199
            · replace h := ifn hc h
              refine g_aload_n B 0 dX5_readBody_186 rfl rfl ?_
              refine g_iconst (v := 1) B dX5_readBody_187 (by decide) ?_
              replace h := bnS_s h
              obtain ⟨x42, s44, h43, h⟩ := h
              refine g_callVs0 (st := []) B (cX5_failc h43) (Nat.le_of_ble_eq_true rfl) rfl rfl mi_X5_fail lk_RX5_51 ⟨Nat.le_of_ble_eq_true rfl, Nat.le_of_ble_eq_true rfl⟩ rfl rfl (Nat.le_of_ble_eq_true rfl) dX5_readBody_188 (Nat.zero_le _) (Nat.zero_le _) ?_
              refine g_if_eq B 198 dX5_readBody_191 (by decide) (fun hc => ?_) (fun hc => ?_)
              · replace h := ifn (bI0 hc) h
                refine g_iconst (v := 0) B dX5_readBody_198 (by decide) ?_
                obtain ⟨w1, w2⟩ := inS h
                clear h
                subst w1
                subst w2
                obtain ⟨e8, e7⟩ := hR14 _ rfl
                subst e7
                obtain ⟨hE, hc9, hs9⟩ := kR12 _ e8.symm
                exact g_zret B hE rfl hc9 hs9 dX5_readBody_199
              · replace h := ifp (bI1 hc) h
                refine g_iconst (v := 1) B dX5_readBody_194 (by decide) ?_
                refine g_goto B 199 dX5_readBody_195 (by decide) ?_
                obtain ⟨w1, w2⟩ := inS h
                clear h
                subst w1
                subst w2
                obtain ⟨e8, e7⟩ := hR14 _ rfl
                subst e7
                obtain ⟨hE, hc9, hs9⟩ := kR12 _ e8.symm
                exact g_zret B hE rfl hc9 hs9 dX5_readBody_199
        · replace h := ifp hc h
          refine g_iload_n B 2 dX5_readBody_146 rfl rfl ?_
          refine g_if_le B 175 dX5_readBody_147 (by decide) (fun hc => ?_) (fun hc => ?_)
          · replace h := ifp hc h
            refine g_iload_n B 2 dX5_readBody_175 rfl rfl ?_
            refine g_if_ne B 186 dX5_readBody_176 (by decide) (fun hc => ?_) (fun hc => ?_)
            · replace h := ifn hc h
              refine g_aload_n B 0 dX5_readBody_186 rfl rfl ?_
              refine g_iconst (v := 1) B dX5_readBody_187 (by decide) ?_
              replace h := bnS_s h
              obtain ⟨x45, s47, h46, h⟩ := h
              refine g_callVs0 (st := []) B (cX5_failc h46) (Nat.le_of_ble_eq_true rfl) rfl rfl mi_X5_fail lk_RX5_51 ⟨Nat.le_of_ble_eq_true rfl, Nat.le_of_ble_eq_true rfl⟩ rfl rfl (Nat.le_of_ble_eq_true rfl) dX5_readBody_188 (Nat.zero_le _) (Nat.zero_le _) ?_
              refine g_if_eq B 198 dX5_readBody_191 (by decide) (fun hc => ?_) (fun hc => ?_)
              · replace h := ifn (bI0 hc) h
                refine g_iconst (v := 0) B dX5_readBody_198 (by decide) ?_
                obtain ⟨w1, w2⟩ := inS h
                clear h
                subst w1
                subst w2
                obtain ⟨e8, e7⟩ := hR14 _ rfl
                subst e7
                obtain ⟨hE, hc9, hs9⟩ := kR12 _ e8.symm
                exact g_zret B hE rfl hc9 hs9 dX5_readBody_199
              · replace h := ifp (bI1 hc) h
                refine g_iconst (v := 1) B dX5_readBody_194 (by decide) ?_
                refine g_goto B 199 dX5_readBody_195 (by decide) ?_
                obtain ⟨w1, w2⟩ := inS h
                clear h
                subst w1
                subst w2
                obtain ⟨e8, e7⟩ := hR14 _ rfl
                subst e7
                obtain ⟨hE, hc9, hs9⟩ := kR12 _ e8.symm
                exact g_zret B hE rfl hc9 hs9 dX5_readBody_199
            · replace h := ifp hc h
              refine g_aload_n B 0 dX5_readBody_179 rfl rfl ?_
              replace h := bnP_s h
              obtain ⟨x48, h49, h⟩ := h
              refine g_getI B fl_RX5_159 (by decide) dX5_readBody_180 h49 ?_
              refine g_if_gt B 194 dX5_readBody_183 (by decide) (fun hc => ?_) (fun hc => ?_)
              · replace h := ifp hc h
                refine g_iconst (v := 1) B dX5_readBody_194 (by decide) ?_
                refine g_goto B 199 dX5_readBody_195 (by decide) ?_
                obtain ⟨w1, w2⟩ := inS h
                clear h
                subst w1
                subst w2
                obtain ⟨e8, e7⟩ := hR14 _ rfl
                subst e7
                obtain ⟨hE, hc9, hs9⟩ := kR12 _ e8.symm
                exact g_zret B hE rfl hc9 hs9 dX5_readBody_199
              · replace h := ifn hc h
                refine g_aload_n B 0 dX5_readBody_186 rfl rfl ?_
                refine g_iconst (v := 1) B dX5_readBody_187 (by decide) ?_
                replace h := bnS_s h
                obtain ⟨x50, s52, h51, h⟩ := h
                refine g_callVs0 (st := []) B (cX5_failc h51) (Nat.le_of_ble_eq_true rfl) rfl rfl mi_X5_fail lk_RX5_51 ⟨Nat.le_of_ble_eq_true rfl, Nat.le_of_ble_eq_true rfl⟩ rfl rfl (Nat.le_of_ble_eq_true rfl) dX5_readBody_188 (Nat.zero_le _) (Nat.zero_le _) ?_
                refine g_if_eq B 198 dX5_readBody_191 (by decide) (fun hc => ?_) (fun hc => ?_)
                · replace h := ifn (bI0 hc) h
                  refine g_iconst (v := 0) B dX5_readBody_198 (by decide) ?_
                  obtain ⟨w1, w2⟩ := inS h
                  clear h
                  subst w1
                  subst w2
                  obtain ⟨e8, e7⟩ := hR14 _ rfl
                  subst e7
                  obtain ⟨hE, hc9, hs9⟩ := kR12 _ e8.symm
                  exact g_zret B hE rfl hc9 hs9 dX5_readBody_199
                · replace h := ifp (bI1 hc) h
                  refine g_iconst (v := 1) B dX5_readBody_194 (by decide) ?_
                  refine g_goto B 199 dX5_readBody_195 (by decide) ?_
                  obtain ⟨w1, w2⟩ := inS h
                  clear h
                  subst w1
                  subst w2
                  obtain ⟨e8, e7⟩ := hR14 _ rfl
                  subst e7
                  obtain ⟨hE, hc9, hs9⟩ := kR12 _ e8.symm
                  exact g_zret B hE rfl hc9 hs9 dX5_readBody_199
          · replace h := ifn hc h
            refine g_iload_n B 3 dX5_readBody_150 rfl rfl ?_
            refine g_if_ne B 175 dX5_readBody_151 (by decide) (fun hc => ?_) (fun hc => ?_)
            · replace h := ifn hc h
              refine g_iload_n B 2 dX5_readBody_175 rfl rfl ?_
              refine g_if_ne B 186 dX5_readBody_176 (by decide) (fun hc => ?_) (fun hc => ?_)
              · replace h := ifn hc h
                refine g_aload_n B 0 dX5_readBody_186 rfl rfl ?_
                refine g_iconst (v := 1) B dX5_readBody_187 (by decide) ?_
                replace h := bnS_s h
                obtain ⟨x53, s55, h54, h⟩ := h
                refine g_callVs0 (st := []) B (cX5_failc h54) (Nat.le_of_ble_eq_true rfl) rfl rfl mi_X5_fail lk_RX5_51 ⟨Nat.le_of_ble_eq_true rfl, Nat.le_of_ble_eq_true rfl⟩ rfl rfl (Nat.le_of_ble_eq_true rfl) dX5_readBody_188 (Nat.zero_le _) (Nat.zero_le _) ?_
                refine g_if_eq B 198 dX5_readBody_191 (by decide) (fun hc => ?_) (fun hc => ?_)
                · replace h := ifn (bI0 hc) h
                  refine g_iconst (v := 0) B dX5_readBody_198 (by decide) ?_
                  obtain ⟨w1, w2⟩ := inS h
                  clear h
                  subst w1
                  subst w2
                  obtain ⟨e8, e7⟩ := hR14 _ rfl
                  subst e7
                  obtain ⟨hE, hc9, hs9⟩ := kR12 _ e8.symm
                  exact g_zret B hE rfl hc9 hs9 dX5_readBody_199
                · replace h := ifp (bI1 hc) h
                  refine g_iconst (v := 1) B dX5_readBody_194 (by decide) ?_
                  refine g_goto B 199 dX5_readBody_195 (by decide) ?_
                  obtain ⟨w1, w2⟩ := inS h
                  clear h
                  subst w1
                  subst w2
                  obtain ⟨e8, e7⟩ := hR14 _ rfl
                  subst e7
                  obtain ⟨hE, hc9, hs9⟩ := kR12 _ e8.symm
                  exact g_zret B hE rfl hc9 hs9 dX5_readBody_199
              · replace h := ifp hc h
                refine g_aload_n B 0 dX5_readBody_179 rfl rfl ?_
                replace h := bnP_s h
                obtain ⟨x56, h57, h⟩ := h
                refine g_getI B fl_RX5_159 (by decide) dX5_readBody_180 h57 ?_
                refine g_if_gt B 194 dX5_readBody_183 (by decide) (fun hc => ?_) (fun hc => ?_)
                · replace h := ifp hc h
                  refine g_iconst (v := 1) B dX5_readBody_194 (by decide) ?_
                  refine g_goto B 199 dX5_readBody_195 (by decide) ?_
                  obtain ⟨w1, w2⟩ := inS h
                  clear h
                  subst w1
                  subst w2
                  obtain ⟨e8, e7⟩ := hR14 _ rfl
                  subst e7
                  obtain ⟨hE, hc9, hs9⟩ := kR12 _ e8.symm
                  exact g_zret B hE rfl hc9 hs9 dX5_readBody_199
                · replace h := ifn hc h
                  refine g_aload_n B 0 dX5_readBody_186 rfl rfl ?_
                  refine g_iconst (v := 1) B dX5_readBody_187 (by decide) ?_
                  replace h := bnS_s h
                  obtain ⟨x58, s60, h59, h⟩ := h
                  refine g_callVs0 (st := []) B (cX5_failc h59) (Nat.le_of_ble_eq_true rfl) rfl rfl mi_X5_fail lk_RX5_51 ⟨Nat.le_of_ble_eq_true rfl, Nat.le_of_ble_eq_true rfl⟩ rfl rfl (Nat.le_of_ble_eq_true rfl) dX5_readBody_188 (Nat.zero_le _) (Nat.zero_le _) ?_
                  refine g_if_eq B 198 dX5_readBody_191 (by decide) (fun hc => ?_) (fun hc => ?_)
                  · replace h := ifn (bI0 hc) h
                    refine g_iconst (v := 0) B dX5_readBody_198 (by decide) ?_
                    obtain ⟨w1, w2⟩ := inS h
                    clear h
                    subst w1
                    subst w2
                    obtain ⟨e8, e7⟩ := hR14 _ rfl
                    subst e7
                    obtain ⟨hE, hc9, hs9⟩ := kR12 _ e8.symm
                    exact g_zret B hE rfl hc9 hs9 dX5_readBody_199
                  · replace h := ifp (bI1 hc) h
                    refine g_iconst (v := 1) B dX5_readBody_194 (by decide) ?_
                    refine g_goto B 199 dX5_readBody_195 (by decide) ?_
                    obtain ⟨w1, w2⟩ := inS h
                    clear h
                    subst w1
                    subst w2
                    obtain ⟨e8, e7⟩ := hR14 _ rfl
                    subst e7
                    obtain ⟨hE, hc9, hs9⟩ := kR12 _ e8.symm
                    exact g_zret B hE rfl hc9 hs9 dX5_readBody_199
            · replace h := ifp hc h
              refine g_aload_n B 1 dX5_readBody_154 rfl rfl ?_
              refine g_aload_n B 1 dX5_readBody_155 rfl rfl ?_
              replace h := bnP_s h
              obtain ⟨x61, h62, h⟩ := h
              refine g_getI B fl_RX5_176 (by decide) dX5_readBody_156 h62 ?_
              refine g_aload_n B 0 dX5_readBody_159 rfl rfl ?_
              replace h := bnP_s h
              obtain ⟨x63, h64, h⟩ := h
              refine g_getI B fl_RX5_159 (by decide) dX5_readBody_160 h64 ?_
              refine g_iadd B dX5_readBody_163 ?_
              refine g_iconst (v := 1) B dX5_readBody_164 (by decide) ?_
              refine g_isub B dX5_readBody_165 ?_
              replace h := bnP_s h
              obtain ⟨s67, h66, h⟩ := h
              refine g_callVv0 (st := []) B (cX8_closeBehindc h66) (Nat.le_of_ble_eq_true rfl) rfl rfl mi_X8_closeBehind lk_RX5_188 ⟨Nat.le_of_ble_eq_true rfl, Nat.le_of_ble_eq_true rfl⟩ rfl rfl (Nat.le_of_ble_eq_true rfl) dX5_readBody_166 (Nat.zero_le _) (Nat.zero_le _) ?_
              refine g_iinc (v := (qv18 + (-1))) B 2 dX5_readBody_169 rfl (by first | rfl | (congr 1; decide)) (Nat.le_of_ble_eq_true rfl) (s1_c (f1_k rfl (f1_1 rfl (rf_cat _) (f1_x (f1_k rfl (f1_k rfl f1_n)))))) ?_
              refine g_goto B 200 dX5_readBody_172 (by decide) ?_
              refine g_aload_n B 1 dX5_readBody_200 rfl rfl ?_
              replace h := bnP_s h
              obtain ⟨x68, h69, h⟩ := h
              refine g_getR B fl_RX5_12 (by decide) dX5_readBody_201 h69 ?_
              replace h := bnP_s h
              obtain ⟨s72, h71, h⟩ := h
              refine g_callVv0 (st := []) B (cX7_stepc h71) (Nat.le_of_ble_eq_true rfl) rfl rfl mi_X7_step lk_RX5_55 ⟨Nat.le_of_ble_eq_true rfl, Nat.le_of_ble_eq_true rfl⟩ rfl rfl (Nat.le_of_ble_eq_true rfl) dX5_readBody_204 (Nat.zero_le _) (Nat.zero_le _) ?_
              refine g_iinc (v := (qv20 + 1)) B 4 dX5_readBody_207 rfl (by first | rfl | (congr 1; decide)) (Nat.le_of_ble_eq_true rfl) (s1_c (f1_k rfl (f1_k rfl (f1_k rfl (f1_1 rfl rfl (f1_x f1_n)))))) ?_
              refine g_goto B 20 dX5_readBody_210 (by decide) ?_
              obtain ⟨w1, w2⟩ := inS h
              clear h
              subst w1
              subst w2
              exact g_sub [2, 3, 1, 4, 0] rfl (hI13 ((qv18 + (-1)), qv19, (qv20 + 1)) rfl)
      · replace h := ifp hc h
        refine g_iload_n B 2 dX5_readBody_115 rfl rfl ?_
        refine g_iconst (v := 4) B dX5_readBody_116 (by decide) ?_
        refine g_icmp_ne B 126 dX5_readBody_117 (by decide) (fun hc => ?_) (fun hc => ?_)
        · replace h := ifn hc h
          refine g_iinc (v := (qv18 + 1)) B 2 dX5_readBody_126 rfl (by first | rfl | (congr 1; decide)) (Nat.le_of_ble_eq_true rfl) (s1_c (f1_k rfl (f1_1 rfl (rf_cat _) (f1_x (f1_k rfl (f1_k rfl f1_n)))))) ?_
          refine g_iinc (v := (qv19 + 1)) B 3 dX5_readBody_129 rfl (by first | rfl | (congr 1; decide)) (Nat.le_of_ble_eq_true rfl) (s1_c (f1_1 rfl rfl (f1_k rfl (f1_k rfl (f1_x (f1_k rfl f1_n)))))) ?_
          refine g_goto B 200 dX5_readBody_132 (by decide) ?_
          refine g_aload_n B 2 dX5_readBody_200 rfl rfl ?_
          replace h := bnP_s h
          obtain ⟨x73, h74, h⟩ := h
          refine g_getR B fl_RX5_12 (by decide) dX5_readBody_201 h74 ?_
          replace h := bnP_s h
          obtain ⟨s77, h76, h⟩ := h
          refine g_callVv0 (st := []) B (cX7_stepc h76) (Nat.le_of_ble_eq_true rfl) rfl rfl mi_X7_step lk_RX5_55 ⟨Nat.le_of_ble_eq_true rfl, Nat.le_of_ble_eq_true rfl⟩ rfl rfl (Nat.le_of_ble_eq_true rfl) dX5_readBody_204 (Nat.zero_le _) (Nat.zero_le _) ?_
          refine g_iinc (v := (qv20 + 1)) B 4 dX5_readBody_207 rfl (by first | rfl | (congr 1; decide)) (Nat.le_of_ble_eq_true rfl) (s1_c (f1_1 rfl rfl (f1_k rfl (f1_k rfl (f1_k rfl (f1_x f1_n)))))) ?_
          refine g_goto B 20 dX5_readBody_210 (by decide) ?_
          obtain ⟨w1, w2⟩ := inS h
          clear h
          subst w1
          subst w2
          exact g_sub [3, 4, 2, 1, 0] rfl (hI13 ((qv18 + 1), (qv19 + 1), (qv20 + 1)) rfl)
        · replace h := ifp hc h
          refine g_aload_n B 0 dX5_readBody_120 rfl rfl ?_
          refine g_iconst (v := 4) B dX5_readBody_121 (by decide) ?_
          replace h := bnS_s h
          obtain ⟨x78, s80, h79, h⟩ := h
          refine g_callVs0 (st := []) B (cX5_failc h79) (Nat.le_of_ble_eq_true rfl) rfl rfl mi_X5_fail lk_RX5_51 ⟨Nat.le_of_ble_eq_true rfl, Nat.le_of_ble_eq_true rfl⟩ rfl rfl (Nat.le_of_ble_eq_true rfl) dX5_readBody_122 (Nat.zero_le _) (Nat.zero_le _) ?_
          obtain ⟨w1, w2⟩ := inS h
          clear h
          subst w1
          subst w2
          obtain ⟨e8, e7⟩ := hR14 _ rfl
          subst e7
          obtain ⟨hE, hc9, hs9⟩ := kR12 _ e8.symm
          exact g_zret B hE (nar_bI _) hc9 hs9 dX5_readBody_125
    · replace h := ifp hc h
      refine g_aload_n B 1 dX5_readBody_43 rfl rfl ?_
      replace h := bnP_s h
      obtain ⟨x81, h82, h⟩ := h
      refine g_getI B fl_RX5_176 (by decide) dX5_readBody_44 h82 ?_
      refine g_aload_n B 0 dX5_readBody_47 rfl rfl ?_
      replace h := bnP_s h
      obtain ⟨x83, h84, h⟩ := h
      refine g_getI B fl_RX5_159 (by decide) dX5_readBody_48 h84 ?_
      refine g_iadd B dX5_readBody_51 ?_
      refine g_aload_n B 0 dX5_readBody_52 rfl rfl ?_
      replace h := bnP_s h
      obtain ⟨x85, h86, h⟩ := h
      refine g_getR B fl_RX5_28 (by decide) dX5_readBody_53 h86 ?_
      replace h := bnP_s h
      obtain ⟨x87, h88, h⟩ := h
      refine g_callVs0 (st := [.int (x81 + x83)]) B (cX1_mostWordsc h88) (Nat.le_of_ble_eq_true rfl) rfl rfl mi_X1_mostWords lk_RX5_181 ⟨Nat.le_of_ble_eq_true rfl, Nat.le_of_ble_eq_true rfl⟩ rfl rfl (Nat.le_of_ble_eq_true rfl) dX5_readBody_56 (Nat.zero_le _) (Nat.zero_le _) ?_
      refine g_icmp_lt B 68 dX5_readBody_59 (by decide) (fun hc => ?_) (fun hc => ?_)
      · replace h := ifp hc h
        refine g_aload_n B 1 dX5_readBody_68 rfl rfl ?_
        refine g_aload_n B 1 dX5_readBody_69 rfl rfl ?_
        replace h := bnP_s h
        obtain ⟨x89, h90, h⟩ := h
        refine g_getI B fl_RX5_176 (by decide) dX5_readBody_70 h90 ?_
        refine g_aload_n B 0 dX5_readBody_73 rfl rfl ?_
        replace h := bnP_s h
        obtain ⟨x91, h92, h⟩ := h
        refine g_getI B fl_RX5_159 (by decide) dX5_readBody_74 h92 ?_
        refine g_iadd B dX5_readBody_77 ?_
        refine g_aload_n B 0 dX5_readBody_78 rfl rfl ?_
        replace h := bnP_s h
        obtain ⟨x93, h94, h⟩ := h
        refine g_getR B fl_RX5_12 (by decide) dX5_readBody_79 h94 ?_
        replace h := bnP_s h
        obtain ⟨x95, h96, h⟩ := h
        refine g_getJ B fl_RX5_64 (by decide) dX5_readBody_82 h96 ?_
        refine g_iload_n B 3 dX5_readBody_85 rfl rfl ?_
        replace h := bnP_s h
        obtain ⟨s99, h98, h⟩ := h
        refine g_callVv0 (st := []) B (cX8_stagec h98) (Nat.le_of_ble_eq_true rfl) rfl rfl mi_X8_stage lk_RX5_184 ⟨Nat.le_of_ble_eq_true rfl, Nat.le_of_ble_eq_true rfl⟩ rfl rfl (Nat.le_of_ble_eq_true rfl) dX5_readBody_86 (Nat.zero_le _) (Nat.zero_le _) ?_
        refine g_aload_n B 0 dX5_readBody_89 rfl rfl ?_
        refine g_dup B dX5_readBody_90 (rf_cat _) ?_
        replace h := bnP_s h
        obtain ⟨x100, h101, h⟩ := h
        refine g_getI B fl_RX5_159 (by decide) dX5_readBody_91 h101 ?_
        refine g_iconst (v := 1) B dX5_readBody_94 (by decide) ?_
        refine g_iadd B dX5_readBody_95 ?_
        replace h := bnP_s h
        obtain ⟨s104, h103, h⟩ := h
        refine g_putI B fl_RX5_159 (by decide) dX5_readBody_96 h103 ?_
        refine g_iconst (v := 0) B dX5_readBody_99 (by decide) ?_
        refine g_istore_n B dX5_readBody_100 rfl (Nat.le_of_ble_eq_true rfl) (s1_c (f1_k rfl (f1_k rfl (f1_1 rfl rfl (f1_x (f1_k rfl f1_n)))))) ?_
        refine g_goto B 200 dX5_readBody_101 (by decide) ?_
        refine g_aload_n B 1 dX5_readBody_200 rfl rfl ?_
        replace h := bnP_s h
        obtain ⟨x105, h106, h⟩ := h
        refine g_getR B fl_RX5_12 (by decide) dX5_readBody_201 h106 ?_
        replace h := bnP_s h
        obtain ⟨s109, h108, h⟩ := h
        refine g_callVv0 (st := []) B (cX7_stepc h108) (Nat.le_of_ble_eq_true rfl) rfl rfl mi_X7_step lk_RX5_55 ⟨Nat.le_of_ble_eq_true rfl, Nat.le_of_ble_eq_true rfl⟩ rfl rfl (Nat.le_of_ble_eq_true rfl) dX5_readBody_204 (Nat.zero_le _) (Nat.zero_le _) ?_
        refine g_iinc (v := (qv20 + 1)) B 4 dX5_readBody_207 rfl (by first | rfl | (congr 1; decide)) (Nat.le_of_ble_eq_true rfl) (s1_c (f1_1 rfl rfl (f1_k rfl (f1_k rfl (f1_k rfl (f1_x f1_n)))))) ?_
        refine g_goto B 20 dX5_readBody_210 (by decide) ?_
        obtain ⟨w1, w2⟩ := inS h
        clear h
        subst w1
        subst w2
        exact g_sub [2, 3, 4, 1, 0] rfl (hI13 (qv18, 0, (qv20 + 1)) rfl)
      · replace h := ifn hc h
        refine g_aload_n B 0 dX5_readBody_62 rfl rfl ?_
        refine g_iconst (v := 4) B dX5_readBody_63 (by decide) ?_
        replace h := bnS_s h
        obtain ⟨x110, s112, h111, h⟩ := h
        refine g_callVs0 (st := []) B (cX5_failc h111) (Nat.le_of_ble_eq_true rfl) rfl rfl mi_X5_fail lk_RX5_51 ⟨Nat.le_of_ble_eq_true rfl, Nat.le_of_ble_eq_true rfl⟩ rfl rfl (Nat.le_of_ble_eq_true rfl) dX5_readBody_64 (Nat.zero_le _) (Nat.zero_le _) ?_
        obtain ⟨w1, w2⟩ := inS h
        clear h
        subst w1
        subst w2
        obtain ⟨e8, e7⟩ := hR14 _ rfl
        subst e7
        obtain ⟨hE, hc9, hs9⟩ := kR12 _ e8.symm
        exact g_zret B hE (nar_bI _) hc9 hs9 dX5_readBody_67
set_option maxRecDepth 100000 in
set_option maxHeartbeats 4000000 in
theorem cX5_readActLinec {l : Launch} {v0 : Option Nat} {σ : HpT} {r : Bool} {σ' : HpT} (h : fX5_readActLine v0 σ = some (r, σ')) : IsK σ v0 5 ∧ Ct l yX5_readActLine cX5_readActLine 2 (some .boolean) 7 149 [va_rf v0] σ (.ok (some (.int (bI r)))) σ' 0 0 := by
  unfold fX5_readActLine at h
  replace h := bnP_s h
  obtain ⟨u, hk, h⟩ := h
  replace hk := isK_s hk
  refine ⟨hk, ?_⟩
  refine ct_start mi_X5_readActLine.1 rfl (al_le (al_1 (rf_cat _) al_n) (Nat.le_of_ble_eq_true rfl)) (ag_1 (rf_cat _) ag_n) (fun Δ Γ B hE hnm => ?_)
  refine g_aload_n B 0 dX5_readActLine_0 rfl rfl ?_
  replace h := bnP_s h
  obtain ⟨x1, h2, h⟩ := h
  refine g_getR B fl_RX5_28 (by decide) dX5_readActLine_1 h2 ?_
  replace h := bnP_s h
  obtain ⟨x3, h4, h⟩ := h
  refine g_callVs0 (st := []) B (cX1_openActc h4) (Nat.le_of_ble_eq_true rfl) rfl rfl mi_X1_openAct lk_RX5_149 ⟨Nat.le_of_ble_eq_true rfl, Nat.le_of_ble_eq_true rfl⟩ rfl rfl (Nat.le_of_ble_eq_true rfl) dX5_readActLine_4 (Nat.zero_le _) (Nat.zero_le _) ?_
  refine g_ifnull B 16 dX5_readActLine_7 (by decide) (fun hc => ?_) (fun hc => ?_)
  · replace h := ifp hc h
    refine g_aload_n B 0 dX5_readActLine_16 rfl rfl ?_
    replace h := bnP_s h
    obtain ⟨x5, h6, h⟩ := h
    refine g_getR B fl_RX5_28 (by decide) dX5_readActLine_17 h6 ?_
    replace h := bnP_s h
    obtain ⟨x7, h8, h⟩ := h
    refine g_getI B fl_RX5_153 (by decide) dX5_readActLine_20 h8 ?_
    refine g_bipush (v := 10) B dX5_readActLine_23 (by decide) ?_
    refine g_icmp_lt B 34 dX5_readActLine_25 (by decide) (fun hc => ?_) (fun hc => ?_)
    · replace h := ifp hc h
      refine g_aload_n B 0 dX5_readActLine_34 rfl rfl ?_
      replace h := bnP_s h
      obtain ⟨x9, h10, h⟩ := h
      refine g_getR B fl_RX5_12 (by decide) dX5_readActLine_35 h10 ?_
      replace h := bnP_s h
      obtain ⟨s13, h12, h⟩ := h
      refine g_callVv0 (st := []) B (cX7_stepc h12) (Nat.le_of_ble_eq_true rfl) rfl rfl mi_X7_step lk_RX5_55 ⟨Nat.le_of_ble_eq_true rfl, Nat.le_of_ble_eq_true rfl⟩ rfl rfl (Nat.le_of_ble_eq_true rfl) dX5_readActLine_38 (Nat.zero_le _) (Nat.zero_le _) ?_
      refine g_aload_n B 0 dX5_readActLine_41 rfl rfl ?_
      replace h := bnP_s h
      obtain ⟨x14, h15, h⟩ := h
      refine g_callVs0 (st := []) B (cX5_kindAtWordc h15) (Nat.le_of_ble_eq_true rfl) rfl rfl mi_X5_kindAtWord lk_RX5_156 ⟨Nat.le_of_ble_eq_true rfl, Nat.le_of_ble_eq_true rfl⟩ rfl rfl (Nat.le_of_ble_eq_true rfl) dX5_readActLine_42 (Nat.zero_le _) (Nat.zero_le _) ?_
      refine g_istore_n B dX5_readActLine_45 rfl (Nat.le_of_ble_eq_true rfl) (s1_c (f1_1 rfl (rf_cat _) f1_n)) ?_
      refine g_iload_n B 0 dX5_readActLine_46 rfl rfl ?_
      refine g_iconst (v := (-1)) B dX5_readActLine_47 (by decide) ?_
      refine g_icmp_ne B 57 dX5_readActLine_48 (by decide) (fun hc => ?_) (fun hc => ?_)
      · replace h := ifn hc h
        refine g_aload_n B 1 dX5_readActLine_57 rfl rfl ?_
        replace h := bnP_s h
        obtain ⟨x16, h17, h⟩ := h
        refine g_getR B fl_RX5_12 (by decide) dX5_readActLine_58 h17 ?_
        replace h := bnP_s h
        obtain ⟨s20, h19, h⟩ := h
        refine g_callVv0 (st := []) B (cX7_stepc h19) (Nat.le_of_ble_eq_true rfl) rfl rfl mi_X7_step lk_RX5_55 ⟨Nat.le_of_ble_eq_true rfl, Nat.le_of_ble_eq_true rfl⟩ rfl rfl (Nat.le_of_ble_eq_true rfl) dX5_readActLine_61 (Nat.zero_le _) (Nat.zero_le _) ?_
        refine g_aload_n B 1 dX5_readActLine_64 rfl rfl ?_
        replace h := bnS_s h
        obtain ⟨x21, s23, h22, h⟩ := h
        refine g_callVs0 (st := []) B (cX5_readBodyc h22) (Nat.le_of_ble_eq_true rfl) rfl rfl mi_X5_readBody lk_RX5_61 ⟨Nat.le_of_ble_eq_true rfl, Nat.le_of_ble_eq_true rfl⟩ rfl rfl (Nat.le_of_ble_eq_true rfl) dX5_readActLine_65 (Nat.zero_le _) (Nat.zero_le _) ?_
        refine g_if_ne B 73 dX5_readActLine_68 (by decide) (fun hc => ?_) (fun hc => ?_)
        · replace h := ifp (bI1 hc) h
          refine g_aload_n B 1 dX5_readActLine_73 rfl rfl ?_
          replace h := bnP_s h
          obtain ⟨x24, h25, h⟩ := h
          refine g_getR B fl_RX5_28 (by decide) dX5_readActLine_74 h25 ?_
          refine g_iload_n B 0 dX5_readActLine_77 rfl rfl ?_
          refine g_aload_n B 1 dX5_readActLine_78 rfl rfl ?_
          replace h := bnP_s h
          obtain ⟨x26, h27, h⟩ := h
          refine g_getI B fl_RX5_159 (by decide) dX5_readActLine_79 h27 ?_
          replace h := bnP_s h
          obtain ⟨s30, h29, h⟩ := h
          refine g_callVv0 (st := []) B (cX1_beginActc h29) (Nat.le_of_ble_eq_true rfl) rfl rfl mi_X1_beginAct lk_RX5_162 ⟨Nat.le_of_ble_eq_true rfl, Nat.le_of_ble_eq_true rfl⟩ rfl rfl (Nat.le_of_ble_eq_true rfl) dX5_readActLine_82 (Nat.zero_le _) (Nat.zero_le _) ?_
          refine g_iconst (v := 1) B dX5_readActLine_85 (by decide) ?_
          obtain ⟨w1, w2⟩ := inS h
          clear h
          subst w1
          subst w2
          exact g_zret B hE rfl (Nat.zero_le _) (Nat.zero_le _) dX5_readActLine_86
        · replace h := ifn (bI0 hc) h
          refine g_iconst (v := 0) B dX5_readActLine_71 (by decide) ?_
          obtain ⟨w1, w2⟩ := inS h
          clear h
          subst w1
          subst w2
          exact g_zret B hE rfl (Nat.zero_le _) (Nat.zero_le _) dX5_readActLine_72
      · replace h := ifp hc h
        refine g_aload_n B 1 dX5_readActLine_51 rfl rfl ?_
        refine g_iconst (v := 1) B dX5_readActLine_52 (by decide) ?_
        replace h := bnS_s h
        obtain ⟨x31, s33, h32, h⟩ := h
        refine g_callVs0 (st := []) B (cX5_failc h32) (Nat.le_of_ble_eq_true rfl) rfl rfl mi_X5_fail lk_RX5_51 ⟨Nat.le_of_ble_eq_true rfl, Nat.le_of_ble_eq_true rfl⟩ rfl rfl (Nat.le_of_ble_eq_true rfl) dX5_readActLine_53 (Nat.zero_le _) (Nat.zero_le _) ?_
        obtain ⟨w1, w2⟩ := inS h
        clear h
        subst w1
        subst w2
        exact g_zret B hE (nar_bI _) (Nat.zero_le _) (Nat.zero_le _) dX5_readActLine_56
    · replace h := ifn hc h
      refine g_aload_n B 0 dX5_readActLine_28 rfl rfl ?_
      refine g_iconst (v := 4) B dX5_readActLine_29 (by decide) ?_
      replace h := bnS_s h
      obtain ⟨x34, s36, h35, h⟩ := h
      refine g_callVs0 (st := []) B (cX5_failc h35) (Nat.le_of_ble_eq_true rfl) rfl rfl mi_X5_fail lk_RX5_51 ⟨Nat.le_of_ble_eq_true rfl, Nat.le_of_ble_eq_true rfl⟩ rfl rfl (Nat.le_of_ble_eq_true rfl) dX5_readActLine_30 (Nat.zero_le _) (Nat.zero_le _) ?_
      obtain ⟨w1, w2⟩ := inS h
      clear h
      subst w1
      subst w2
      exact g_zret B hE (nar_bI _) (Nat.zero_le _) (Nat.zero_le _) dX5_readActLine_33
  · replace h := ifn hc h
    refine g_aload_n B 0 dX5_readActLine_10 rfl rfl ?_
    refine g_iconst (v := 3) B dX5_readActLine_11 (by decide) ?_
    replace h := bnS_s h
    obtain ⟨x37, s39, h38, h⟩ := h
    refine g_callVs0 (st := []) B (cX5_failc h38) (Nat.le_of_ble_eq_true rfl) rfl rfl mi_X5_fail lk_RX5_51 ⟨Nat.le_of_ble_eq_true rfl, Nat.le_of_ble_eq_true rfl⟩ rfl rfl (Nat.le_of_ble_eq_true rfl) dX5_readActLine_12 (Nat.zero_le _) (Nat.zero_le _) ?_
    obtain ⟨w1, w2⟩ := inS h
    clear h
    subst w1
    subst w2
    exact g_zret B hE (nar_bI _) (Nat.zero_le _) (Nat.zero_le _) dX5_readActLine_15
set_option maxRecDepth 100000 in
set_option maxHeartbeats 4000000 in
theorem cX5_readStrikeLinec {l : Launch} {v0 : Option Nat} {σ : HpT} {r : Bool} {σ' : HpT} (h : fX5_readStrikeLine v0 σ = some (r, σ')) : IsK σ v0 5 ∧ Ct l yX5_readStrikeLine cX5_readStrikeLine 1 (some .boolean) 4 84 [va_rf v0] σ (.ok (some (.int (bI r)))) σ' 0 0 := by
  unfold fX5_readStrikeLine at h
  replace h := bnP_s h
  obtain ⟨u, hk, h⟩ := h
  replace hk := isK_s hk
  refine ⟨hk, ?_⟩
  refine ct_start mi_X5_readStrikeLine.1 rfl (al_le (al_1 (rf_cat _) al_n) (Nat.le_of_ble_eq_true rfl)) (ag_1 (rf_cat _) ag_n) (fun Δ Γ B hE hnm => ?_)
  refine g_aload_n B 0 dX5_readStrikeLine_0 rfl rfl ?_
  refine g_iconst (v := 0) B dX5_readStrikeLine_1 (by decide) ?_
  refine g_aload_n B 0 dX5_readStrikeLine_2 rfl rfl ?_
  replace h := bnP_s h
  obtain ⟨x1, h2, h⟩ := h
  refine g_getR B fl_RX5_28 (by decide) dX5_readStrikeLine_3 h2 ?_
  replace h := bnP_s h
  obtain ⟨x3, h4, h⟩ := h
  refine g_callVs0 (st := [.int 0, va_rf v0]) B (cX1_openSizec h4) (Nat.le_of_ble_eq_true rfl) rfl rfl mi_X1_openSize lk_RX5_192 ⟨Nat.le_of_ble_eq_true rfl, Nat.le_of_ble_eq_true rfl⟩ rfl rfl (Nat.le_of_ble_eq_true rfl) dX5_readStrikeLine_6 (Nat.zero_le _) (Nat.zero_le _) ?_
  refine g_iconst (v := 1) B dX5_readStrikeLine_9 (by decide) ?_
  refine g_isub B dX5_readStrikeLine_10 ?_
  replace h := bnS_s h
  obtain ⟨x5, s7, h6, h⟩ := h
  refine g_callVs0 (st := []) B (cX5_checkNextNumberc h6) (Nat.le_of_ble_eq_true rfl) rfl rfl mi_X5_checkNextNumber lk_RX5_84 ⟨Nat.le_of_ble_eq_true rfl, Nat.le_of_ble_eq_true rfl⟩ rfl rfl (Nat.le_of_ble_eq_true rfl) dX5_readStrikeLine_11 (Nat.zero_le _) (Nat.zero_le _) ?_
  refine g_if_ne B 19 dX5_readStrikeLine_14 (by decide) (fun hc => ?_) (fun hc => ?_)
  · replace h := ifp (bI1 hc) h
    refine g_aload_n B 0 dX5_readStrikeLine_19 rfl rfl ?_
    replace h := bnP_s h
    obtain ⟨x8, h9, h⟩ := h
    refine g_getR B fl_RX5_28 (by decide) dX5_readStrikeLine_20 h9 ?_
    refine g_aload_n B 0 dX5_readStrikeLine_23 rfl rfl ?_
    replace h := bnP_s h
    obtain ⟨x10, h11, h⟩ := h
    refine g_getR B fl_RX5_12 (by decide) dX5_readStrikeLine_24 h11 ?_
    replace h := bnP_s h
    obtain ⟨x12, h13, h⟩ := h
    refine g_getI B fl_RX5_72 (by decide) dX5_readStrikeLine_27 h13 ?_
    replace h := bnP_s h
    obtain ⟨x14, h15, h⟩ := h
    refine g_callVs0 (st := []) B (cX1_strikeReasonc h15) (Nat.le_of_ble_eq_true rfl) rfl rfl mi_X1_strikeReason lk_RX5_195 ⟨Nat.le_of_ble_eq_true rfl, Nat.le_of_ble_eq_true rfl⟩ rfl rfl (Nat.le_of_ble_eq_true rfl) dX5_readStrikeLine_30 (Nat.zero_le _) (Nat.zero_le _) ?_
    refine g_if_eq B 42 dX5_readStrikeLine_33 (by decide) (fun hc => ?_) (fun hc => ?_)
    · replace h := ifp hc h
      refine g_aload_n B 0 dX5_readStrikeLine_42 rfl rfl ?_
      replace h := bnP_s h
      obtain ⟨x16, h17, h⟩ := h
      refine g_getR B fl_RX5_28 (by decide) dX5_readStrikeLine_43 h17 ?_
      refine g_aload_n B 0 dX5_readStrikeLine_46 rfl rfl ?_
      replace h := bnP_s h
      obtain ⟨x18, h19, h⟩ := h
      refine g_getR B fl_RX5_12 (by decide) dX5_readStrikeLine_47 h19 ?_
      replace h := bnP_s h
      obtain ⟨x20, h21, h⟩ := h
      refine g_getI B fl_RX5_72 (by decide) dX5_readStrikeLine_50 h21 ?_
      replace h := bnP_s h
      obtain ⟨s24, h23, h⟩ := h
      refine g_callVv0 (st := []) B (cX1_strikeWordc h23) (Nat.le_of_ble_eq_true rfl) rfl rfl mi_X1_strikeWord lk_RX5_199 ⟨Nat.le_of_ble_eq_true rfl, Nat.le_of_ble_eq_true rfl⟩ rfl rfl (Nat.le_of_ble_eq_true rfl) dX5_readStrikeLine_53 (Nat.zero_le _) (Nat.zero_le _) ?_
      refine g_aload_n B 0 dX5_readStrikeLine_56 rfl rfl ?_
      replace h := bnS_s h
      obtain ⟨x25, s27, h26, h⟩ := h
      refine g_callVs0 (st := []) B (cX5_finishLinec h26) (Nat.le_of_ble_eq_true rfl) rfl rfl mi_X5_finishLine lk_RX5_102 ⟨Nat.le_of_ble_eq_true rfl, Nat.le_of_ble_eq_true rfl⟩ rfl rfl (Nat.le_of_ble_eq_true rfl) dX5_readStrikeLine_57 (Nat.zero_le _) (Nat.zero_le _) ?_
      obtain ⟨w1, w2⟩ := inS h
      clear h
      subst w1
      subst w2
      exact g_zret B hE (nar_bI _) (Nat.zero_le _) (Nat.zero_le _) dX5_readStrikeLine_60
    · replace h := ifn hc h
      refine g_aload_n B 0 dX5_readStrikeLine_36 rfl rfl ?_
      refine g_iconst (v := 3) B dX5_readStrikeLine_37 (by decide) ?_
      replace h := bnS_s h
      obtain ⟨x28, s30, h29, h⟩ := h
      refine g_callVs0 (st := []) B (cX5_failc h29) (Nat.le_of_ble_eq_true rfl) rfl rfl mi_X5_fail lk_RX5_51 ⟨Nat.le_of_ble_eq_true rfl, Nat.le_of_ble_eq_true rfl⟩ rfl rfl (Nat.le_of_ble_eq_true rfl) dX5_readStrikeLine_38 (Nat.zero_le _) (Nat.zero_le _) ?_
      obtain ⟨w1, w2⟩ := inS h
      clear h
      subst w1
      subst w2
      exact g_zret B hE (nar_bI _) (Nat.zero_le _) (Nat.zero_le _) dX5_readStrikeLine_41
  · replace h := ifn (bI0 hc) h
    refine g_iconst (v := 0) B dX5_readStrikeLine_17 (by decide) ?_
    obtain ⟨w1, w2⟩ := inS h
    clear h
    subst w1
    subst w2
    exact g_zret B hE rfl (Nat.zero_le _) (Nat.zero_le _) dX5_readStrikeLine_18
set_option maxRecDepth 100000 in
set_option maxHeartbeats 4000000 in
theorem cX5_readOutLinec {l : Launch} {v0 : Option Nat} {σ : HpT} {r : Bool} {σ' : HpT} (h : fX5_readOutLine v0 σ = some (r, σ')) : IsK σ v0 5 ∧ Ct l yX5_readOutLine cX5_readOutLine 1 (some .boolean) 4 95 [va_rf v0] σ (.ok (some (.int (bI r)))) σ' 0 0 := by
  unfold fX5_readOutLine at h
  replace h := bnP_s h
  obtain ⟨u, hk, h⟩ := h
  replace hk := isK_s hk
  refine ⟨hk, ?_⟩
  refine ct_start mi_X5_readOutLine.1 rfl (al_le (al_1 (rf_cat _) al_n) (Nat.le_of_ble_eq_true rfl)) (ag_1 (rf_cat _) ag_n) (fun Δ Γ B hE hnm => ?_)
  refine g_aload_n B 0 dX5_readOutLine_0 rfl rfl ?_
  refine g_iconst (v := 0) B dX5_readOutLine_1 (by decide) ?_
  refine g_aload_n B 0 dX5_readOutLine_2 rfl rfl ?_
  replace h := bnP_s h
  obtain ⟨x1, h2, h⟩ := h
  refine g_getR B fl_RX5_28 (by decide) dX5_readOutLine_3 h2 ?_
  replace h := bnP_s h
  obtain ⟨x3, h4, h⟩ := h
  refine g_callVs0 (st := [.int 0, va_rf v0]) B (cX1_openSizec h4) (Nat.le_of_ble_eq_true rfl) rfl rfl mi_X1_openSize lk_RX5_192 ⟨Nat.le_of_ble_eq_true rfl, Nat.le_of_ble_eq_true rfl⟩ rfl rfl (Nat.le_of_ble_eq_true rfl) dX5_readOutLine_6 (Nat.zero_le _) (Nat.zero_le _) ?_
  refine g_iconst (v := 1) B dX5_readOutLine_9 (by decide) ?_
  refine g_isub B dX5_readOutLine_10 ?_
  replace h := bnS_s h
  obtain ⟨x5, s7, h6, h⟩ := h
  refine g_callVs0 (st := []) B (cX5_checkNextNumberc h6) (Nat.le_of_ble_eq_true rfl) rfl rfl mi_X5_checkNextNumber lk_RX5_84 ⟨Nat.le_of_ble_eq_true rfl, Nat.le_of_ble_eq_true rfl⟩ rfl rfl (Nat.le_of_ble_eq_true rfl) dX5_readOutLine_11 (Nat.zero_le _) (Nat.zero_le _) ?_
  refine g_if_ne B 19 dX5_readOutLine_14 (by decide) (fun hc => ?_) (fun hc => ?_)
  · replace h := ifp (bI1 hc) h
    refine g_aload_n B 0 dX5_readOutLine_19 rfl rfl ?_
    replace h := bnP_s h
    obtain ⟨x8, h9, h⟩ := h
    refine g_getR B fl_RX5_28 (by decide) dX5_readOutLine_20 h9 ?_
    refine g_aload_n B 0 dX5_readOutLine_23 rfl rfl ?_
    replace h := bnP_s h
    obtain ⟨x10, h11, h⟩ := h
    refine g_getR B fl_RX5_12 (by decide) dX5_readOutLine_24 h11 ?_
    replace h := bnP_s h
    obtain ⟨x12, h13, h⟩ := h
    refine g_getI B fl_RX5_72 (by decide) dX5_readOutLine_27 h13 ?_
    replace h := bnS_s h
    obtain ⟨x14, s16, h15, h⟩ := h
    refine g_callVs0 (st := []) B (cX1_seekClauseAroundc h15) (Nat.le_of_ble_eq_true rfl) rfl rfl mi_X1_seekClauseAround lk_RX5_202 ⟨Nat.le_of_ble_eq_true rfl, Nat.le_of_ble_eq_true rfl⟩ rfl rfl (Nat.le_of_ble_eq_true rfl) dX5_readOutLine_30 (Nat.zero_le _) (Nat.zero_le _) ?_
    refine g_if_ne B 42 dX5_readOutLine_33 (by decide) (fun hc => ?_) (fun hc => ?_)
    · replace h := ifp (bI1 hc) h
      refine g_aload_n B 0 dX5_readOutLine_42 rfl rfl ?_
      replace h := bnP_s h
      obtain ⟨x17, h18, h⟩ := h
      refine g_getR B fl_RX5_28 (by decide) dX5_readOutLine_43 h18 ?_
      refine g_aload_n B 0 dX5_readOutLine_46 rfl rfl ?_
      replace h := bnP_s h
      obtain ⟨x19, h20, h⟩ := h
      refine g_getR B fl_RX5_12 (by decide) dX5_readOutLine_47 h20 ?_
      replace h := bnP_s h
      obtain ⟨x21, h22, h⟩ := h
      refine g_getI B fl_RX5_72 (by decide) dX5_readOutLine_50 h22 ?_
      replace h := bnS_s h
      obtain ⟨x23, s25, h24, h⟩ := h
      refine g_callVs0 (st := []) B (cX1_strikeAroundc h24) (Nat.le_of_ble_eq_true rfl) rfl rfl mi_X1_strikeAround lk_RX5_205 ⟨Nat.le_of_ble_eq_true rfl, Nat.le_of_ble_eq_true rfl⟩ rfl rfl (Nat.le_of_ble_eq_true rfl) dX5_readOutLine_53 (Nat.zero_le _) (Nat.zero_le _) ?_
      refine g_pop B dX5_readOutLine_56 rfl ?_
      refine g_aload_n B 0 dX5_readOutLine_57 rfl rfl ?_
      replace h := bnS_s h
      obtain ⟨x26, s28, h27, h⟩ := h
      refine g_callVs0 (st := []) B (cX5_finishLinec h27) (Nat.le_of_ble_eq_true rfl) rfl rfl mi_X5_finishLine lk_RX5_102 ⟨Nat.le_of_ble_eq_true rfl, Nat.le_of_ble_eq_true rfl⟩ rfl rfl (Nat.le_of_ble_eq_true rfl) dX5_readOutLine_58 (Nat.zero_le _) (Nat.zero_le _) ?_
      obtain ⟨w1, w2⟩ := inS h
      clear h
      subst w1
      subst w2
      exact g_zret B hE (nar_bI _) (Nat.zero_le _) (Nat.zero_le _) dX5_readOutLine_61
    · replace h := ifn (bI0 hc) h
      refine g_aload_n B 0 dX5_readOutLine_36 rfl rfl ?_
      refine g_iconst (v := 3) B dX5_readOutLine_37 (by decide) ?_
      replace h := bnS_s h
      obtain ⟨x29, s31, h30, h⟩ := h
      refine g_callVs0 (st := []) B (cX5_failc h30) (Nat.le_of_ble_eq_true rfl) rfl rfl mi_X5_fail lk_RX5_51 ⟨Nat.le_of_ble_eq_true rfl, Nat.le_of_ble_eq_true rfl⟩ rfl rfl (Nat.le_of_ble_eq_true rfl) dX5_readOutLine_38 (Nat.zero_le _) (Nat.zero_le _) ?_
      obtain ⟨w1, w2⟩ := inS h
      clear h
      subst w1
      subst w2
      exact g_zret B hE (nar_bI _) (Nat.zero_le _) (Nat.zero_le _) dX5_readOutLine_41
  · replace h := ifn (bI0 hc) h
    refine g_iconst (v := 0) B dX5_readOutLine_17 (by decide) ?_
    obtain ⟨w1, w2⟩ := inS h
    clear h
    subst w1
    subst w2
    exact g_zret B hE rfl (Nat.zero_le _) (Nat.zero_le _) dX5_readOutLine_18
set_option maxRecDepth 100000 in
set_option maxHeartbeats 4000000 in
theorem cX5_readInsertLinec {l : Launch} {v0 : Option Nat} {σ : HpT} {r : Bool} {σ' : HpT} (h : fX5_readInsertLine v0 σ = some (r, σ')) : IsK σ v0 5 ∧ Ct l yX5_readInsertLine cX5_readInsertLine 2 (some .boolean) 4 84 [va_rf v0] σ (.ok (some (.int (bI r)))) σ' 0 0 := by
  unfold fX5_readInsertLine at h
  replace h := bnP_s h
  obtain ⟨u, hk, h⟩ := h
  replace hk := isK_s hk
  refine ⟨hk, ?_⟩
  refine ct_start mi_X5_readInsertLine.1 rfl (al_le (al_1 (rf_cat _) al_n) (Nat.le_of_ble_eq_true rfl)) (ag_1 (rf_cat _) ag_n) (fun Δ Γ B hE hnm => ?_)
  refine g_aload_n B 0 dX5_readInsertLine_0 rfl rfl ?_
  refine g_iconst (v := 0) B dX5_readInsertLine_1 (by decide) ?_
  refine g_aload_n B 0 dX5_readInsertLine_2 rfl rfl ?_
  replace h := bnP_s h
  obtain ⟨x1, h2, h⟩ := h
  refine g_getR B fl_RX5_28 (by decide) dX5_readInsertLine_3 h2 ?_
  replace h := bnP_s h
  obtain ⟨x3, h4, h⟩ := h
  refine g_callVs0 (st := [.int 0, va_rf v0]) B (cX1_openSizec h4) (Nat.le_of_ble_eq_true rfl) rfl rfl mi_X1_openSize lk_RX5_192 ⟨Nat.le_of_ble_eq_true rfl, Nat.le_of_ble_eq_true rfl⟩ rfl rfl (Nat.le_of_ble_eq_true rfl) dX5_readInsertLine_6 (Nat.zero_le _) (Nat.zero_le _) ?_
  refine g_iconst (v := 1) B dX5_readInsertLine_9 (by decide) ?_
  refine g_isub B dX5_readInsertLine_10 ?_
  replace h := bnS_s h
  obtain ⟨x5, s7, h6, h⟩ := h
  refine g_callVs0 (st := []) B (cX5_checkNextNumberc h6) (Nat.le_of_ble_eq_true rfl) rfl rfl mi_X5_checkNextNumber lk_RX5_84 ⟨Nat.le_of_ble_eq_true rfl, Nat.le_of_ble_eq_true rfl⟩ rfl rfl (Nat.le_of_ble_eq_true rfl) dX5_readInsertLine_11 (Nat.zero_le _) (Nat.zero_le _) ?_
  refine g_if_ne B 19 dX5_readInsertLine_14 (by decide) (fun hc => ?_) (fun hc => ?_)
  · replace h := ifp (bI1 hc) h
    refine g_aload_n B 0 dX5_readInsertLine_19 rfl rfl ?_
    replace h := bnP_s h
    obtain ⟨x8, h9, h⟩ := h
    refine g_getR B fl_RX5_12 (by decide) dX5_readInsertLine_20 h9 ?_
    replace h := bnP_s h
    obtain ⟨x10, h11, h⟩ := h
    refine g_getI B fl_RX5_72 (by decide) dX5_readInsertLine_23 h11 ?_
    refine g_istore_n B dX5_readInsertLine_26 rfl (Nat.le_of_ble_eq_true rfl) (s1_c (f1_1 rfl (rf_cat _) f1_n)) ?_
    refine g_aload_n B 1 dX5_readInsertLine_27 rfl rfl ?_
    replace h := bnP_s h
    obtain ⟨x12, h13, h⟩ := h
    refine g_getR B fl_RX5_28 (by decide) dX5_readInsertLine_28 h13 ?_
    refine g_iload_n B 0 dX5_readInsertLine_31 rfl rfl ?_
    replace h := bnP_s h
    obtain ⟨x14, h15, h⟩ := h
    refine g_callVs0 (st := []) B (cX1_canInsertc h15) (Nat.le_of_ble_eq_true rfl) rfl rfl mi_X1_canInsert lk_RX5_208 ⟨Nat.le_of_ble_eq_true rfl, Nat.le_of_ble_eq_true rfl⟩ rfl rfl (Nat.le_of_ble_eq_true rfl) dX5_readInsertLine_32 (Nat.zero_le _) (Nat.zero_le _) ?_
    refine g_if_ne B 44 dX5_readInsertLine_35 (by decide) (fun hc => ?_) (fun hc => ?_)
    · replace h := ifp (bI1 hc) h
      refine g_aload_n B 1 dX5_readInsertLine_44 rfl rfl ?_
      replace h := bnP_s h
      obtain ⟨x16, h17, h⟩ := h
      refine g_getR B fl_RX5_12 (by decide) dX5_readInsertLine_45 h17 ?_
      replace h := bnP_s h
      obtain ⟨s20, h19, h⟩ := h
      refine g_callVv0 (st := []) B (cX7_stepc h19) (Nat.le_of_ble_eq_true rfl) rfl rfl mi_X7_step lk_RX5_55 ⟨Nat.le_of_ble_eq_true rfl, Nat.le_of_ble_eq_true rfl⟩ rfl rfl (Nat.le_of_ble_eq_true rfl) dX5_readInsertLine_48 (Nat.zero_le _) (Nat.zero_le _) ?_
      refine g_aload_n B 1 dX5_readInsertLine_51 rfl rfl ?_
      replace h := bnP_s h
      obtain ⟨x21, h22, h⟩ := h
      refine g_getR B fl_RX5_12 (by decide) dX5_readInsertLine_52 h22 ?_
      replace h := bnP_s h
      obtain ⟨x23, h24, h⟩ := h
      refine g_getI B fl_RX5_48 (by decide) dX5_readInsertLine_55 h24 ?_
      refine g_iconst (v := 1) B dX5_readInsertLine_58 (by decide) ?_
      refine g_icmp_eq B 68 dX5_readInsertLine_59 (by decide) (fun hc => ?_) (fun hc => ?_)
      · replace h := ifp hc h
        refine g_aload_n B 1 dX5_readInsertLine_68 rfl rfl ?_
        replace h := bnP_s h
        obtain ⟨x25, h26, h⟩ := h
        refine g_getR B fl_RX5_28 (by decide) dX5_readInsertLine_69 h26 ?_
        refine g_iload_n B 0 dX5_readInsertLine_72 rfl rfl ?_
        refine g_aload_n B 1 dX5_readInsertLine_73 rfl rfl ?_
        replace h := bnP_s h
        obtain ⟨x27, h28, h⟩ := h
        refine g_getR B fl_RX5_12 (by decide) dX5_readInsertLine_74 h28 ?_
        replace h := bnP_s h
        obtain ⟨x29, h30, h⟩ := h
        refine g_getJ B fl_RX5_64 (by decide) dX5_readInsertLine_77 h30 ?_
        replace h := bnP_s h
        obtain ⟨s33, h32, h⟩ := h
        refine g_callVv0 (st := []) B (cX1_insertWordc h32) (Nat.le_of_ble_eq_true rfl) rfl rfl mi_X1_insertWord lk_RX5_211 ⟨Nat.le_of_ble_eq_true rfl, Nat.le_of_ble_eq_true rfl⟩ rfl rfl (Nat.le_of_ble_eq_true rfl) dX5_readInsertLine_80 (Nat.zero_le _) (Nat.zero_le _) ?_
        refine g_aload_n B 1 dX5_readInsertLine_83 rfl rfl ?_
        replace h := bnS_s h
        obtain ⟨x34, s36, h35, h⟩ := h
        refine g_callVs0 (st := []) B (cX5_finishLinec h35) (Nat.le_of_ble_eq_true rfl) rfl rfl mi_X5_finishLine lk_RX5_102 ⟨Nat.le_of_ble_eq_true rfl, Nat.le_of_ble_eq_true rfl⟩ rfl rfl (Nat.le_of_ble_eq_true rfl) dX5_readInsertLine_84 (Nat.zero_le _) (Nat.zero_le _) ?_
        obtain ⟨w1, w2⟩ := inS h
        clear h
        subst w1
        subst w2
        exact g_zret B hE (nar_bI _) (Nat.zero_le _) (Nat.zero_le _) dX5_readInsertLine_87
      · replace h := ifn hc h
        refine g_aload_n B 1 dX5_readInsertLine_62 rfl rfl ?_
        refine g_iconst (v := 1) B dX5_readInsertLine_63 (by decide) ?_
        replace h := bnS_s h
        obtain ⟨x37, s39, h38, h⟩ := h
        refine g_callVs0 (st := []) B (cX5_failc h38) (Nat.le_of_ble_eq_true rfl) rfl rfl mi_X5_fail lk_RX5_51 ⟨Nat.le_of_ble_eq_true rfl, Nat.le_of_ble_eq_true rfl⟩ rfl rfl (Nat.le_of_ble_eq_true rfl) dX5_readInsertLine_64 (Nat.zero_le _) (Nat.zero_le _) ?_
        obtain ⟨w1, w2⟩ := inS h
        clear h
        subst w1
        subst w2
        exact g_zret B hE (nar_bI _) (Nat.zero_le _) (Nat.zero_le _) dX5_readInsertLine_67
    · replace h := ifn (bI0 hc) h
      refine g_aload_n B 1 dX5_readInsertLine_38 rfl rfl ?_
      refine g_iconst (v := 3) B dX5_readInsertLine_39 (by decide) ?_
      replace h := bnS_s h
      obtain ⟨x40, s42, h41, h⟩ := h
      refine g_callVs0 (st := []) B (cX5_failc h41) (Nat.le_of_ble_eq_true rfl) rfl rfl mi_X5_fail lk_RX5_51 ⟨Nat.le_of_ble_eq_true rfl, Nat.le_of_ble_eq_true rfl⟩ rfl rfl (Nat.le_of_ble_eq_true rfl) dX5_readInsertLine_40 (Nat.zero_le _) (Nat.zero_le _) ?_
      obtain ⟨w1, w2⟩ := inS h
      clear h
      subst w1
      subst w2
      exact g_zret B hE (nar_bI _) (Nat.zero_le _) (Nat.zero_le _) dX5_readInsertLine_43
  · replace h := ifn (bI0 hc) h
    refine g_iconst (v := 0) B dX5_readInsertLine_17 (by decide) ?_
    obtain ⟨w1, w2⟩ := inS h
    clear h
    subst w1
    subst w2
    exact g_zret B hE rfl (Nat.zero_le _) (Nat.zero_le _) dX5_readInsertLine_18
set_option maxRecDepth 100000 in
set_option maxHeartbeats 4000000 in
theorem cX5_readSealLinec {l : Launch} {v0 : Option Nat} {σ : HpT} {r : Bool} {σ' : HpT} (h : fX5_readSealLine v0 σ = some (r, σ')) : IsK σ v0 5 ∧ Ct l yX5_readSealLine cX5_readSealLine 2 (some .boolean) 4 92 [va_rf v0] σ (.ok (some (.int (bI r)))) σ' 0 0 := by
  unfold fX5_readSealLine at h
  replace h := bnP_s h
  obtain ⟨u, hk, h⟩ := h
  replace hk := isK_s hk
  refine ⟨hk, ?_⟩
  refine ct_start mi_X5_readSealLine.1 rfl (al_le (al_1 (rf_cat _) al_n) (Nat.le_of_ble_eq_true rfl)) (ag_1 (rf_cat _) ag_n) (fun Δ Γ B hE hnm => ?_)
  refine g_aload_n B 0 dX5_readSealLine_0 rfl rfl ?_
  refine g_iconst (v := 0) B dX5_readSealLine_1 (by decide) ?_
  refine g_bipush (v := 9) B dX5_readSealLine_2 (by decide) ?_
  replace h := bnS_s h
  obtain ⟨x1, s3, h2, h⟩ := h
  refine g_callVs0 (st := []) B (cX5_checkNextNumberc h2) (Nat.le_of_ble_eq_true rfl) rfl rfl mi_X5_checkNextNumber lk_RX5_84 ⟨Nat.le_of_ble_eq_true rfl, Nat.le_of_ble_eq_true rfl⟩ rfl rfl (Nat.le_of_ble_eq_true rfl) dX5_readSealLine_4 (Nat.zero_le _) (Nat.zero_le _) ?_
  refine g_if_ne B 12 dX5_readSealLine_7 (by decide) (fun hc => ?_) (fun hc => ?_)
  · replace h := ifp (bI1 hc) h
    refine g_aload_n B 0 dX5_readSealLine_12 rfl rfl ?_
    replace h := bnP_s h
    obtain ⟨x4, h5, h⟩ := h
    refine g_getR B fl_RX5_12 (by decide) dX5_readSealLine_13 h5 ?_
    replace h := bnP_s h
    obtain ⟨x6, h7, h⟩ := h
    refine g_getI B fl_RX5_72 (by decide) dX5_readSealLine_16 h7 ?_
    refine g_istore_n B dX5_readSealLine_19 rfl (Nat.le_of_ble_eq_true rfl) (s1_c (f1_1 rfl (rf_cat _) f1_n)) ?_
    refine g_aload_n B 1 dX5_readSealLine_20 rfl rfl ?_
    refine g_iconst (v := 0) B dX5_readSealLine_21 (by decide) ?_
    refine g_bipush (v := 99) B dX5_readSealLine_22 (by decide) ?_
    replace h := bnS_s h
    obtain ⟨x8, s10, h9, h⟩ := h
    refine g_callVs0 (st := []) B (cX5_checkNextNumberc h9) (Nat.le_of_ble_eq_true rfl) rfl rfl mi_X5_checkNextNumber lk_RX5_84 ⟨Nat.le_of_ble_eq_true rfl, Nat.le_of_ble_eq_true rfl⟩ rfl rfl (Nat.le_of_ble_eq_true rfl) dX5_readSealLine_24 (Nat.zero_le _) (Nat.zero_le _) ?_
    refine g_if_ne B 32 dX5_readSealLine_27 (by decide) (fun hc => ?_) (fun hc => ?_)
    · replace h := ifp (bI1 hc) h
      refine g_aload_n B 1 dX5_readSealLine_32 rfl rfl ?_
      replace h := bnP_s h
      obtain ⟨x11, h12, h⟩ := h
      refine g_getR B fl_RX5_28 (by decide) dX5_readSealLine_33 h12 ?_
      refine g_iload_n B 0 dX5_readSealLine_36 rfl rfl ?_
      refine g_aload_n B 1 dX5_readSealLine_37 rfl rfl ?_
      replace h := bnP_s h
      obtain ⟨x13, h14, h⟩ := h
      refine g_getR B fl_RX5_12 (by decide) dX5_readSealLine_38 h14 ?_
      replace h := bnP_s h
      obtain ⟨x15, h16, h⟩ := h
      refine g_getI B fl_RX5_72 (by decide) dX5_readSealLine_41 h16 ?_
      replace h := bnP_s h
      obtain ⟨x17, h18, h⟩ := h
      refine g_callVs0 (st := []) B (cX1_sealReasonc h18) (Nat.le_of_ble_eq_true rfl) rfl rfl mi_X1_sealReason lk_RX5_215 ⟨Nat.le_of_ble_eq_true rfl, Nat.le_of_ble_eq_true rfl⟩ rfl rfl (Nat.le_of_ble_eq_true rfl) dX5_readSealLine_44 (Nat.zero_le _) (Nat.zero_le _) ?_
      refine g_if_eq B 56 dX5_readSealLine_47 (by decide) (fun hc => ?_) (fun hc => ?_)
      · replace h := ifp hc h
        refine g_aload_n B 1 dX5_readSealLine_56 rfl rfl ?_
        replace h := bnP_s h
        obtain ⟨x19, h20, h⟩ := h
        refine g_getR B fl_RX5_28 (by decide) dX5_readSealLine_57 h20 ?_
        refine g_iload_n B 0 dX5_readSealLine_60 rfl rfl ?_
        replace h := bnS_s h
        obtain ⟨x21, s23, h22, h⟩ := h
        refine g_callVs0 (st := []) B (cX1_sealOpenc h22) (Nat.le_of_ble_eq_true rfl) rfl rfl mi_X1_sealOpen lk_RX5_219 ⟨Nat.le_of_ble_eq_true rfl, Nat.le_of_ble_eq_true rfl⟩ rfl rfl (Nat.le_of_ble_eq_true rfl) dX5_readSealLine_61 (Nat.zero_le _) (Nat.zero_le _) ?_
        refine g_pop B dX5_readSealLine_64 rfl ?_
        refine g_aload_n B 1 dX5_readSealLine_65 rfl rfl ?_
        replace h := bnS_s h
        obtain ⟨x24, s26, h25, h⟩ := h
        refine g_callVs0 (st := []) B (cX5_finishLinec h25) (Nat.le_of_ble_eq_true rfl) rfl rfl mi_X5_finishLine lk_RX5_102 ⟨Nat.le_of_ble_eq_true rfl, Nat.le_of_ble_eq_true rfl⟩ rfl rfl (Nat.le_of_ble_eq_true rfl) dX5_readSealLine_66 (Nat.zero_le _) (Nat.zero_le _) ?_
        obtain ⟨w1, w2⟩ := inS h
        clear h
        subst w1
        subst w2
        exact g_zret B hE (nar_bI _) (Nat.zero_le _) (Nat.zero_le _) dX5_readSealLine_69
      · replace h := ifn hc h
        refine g_aload_n B 1 dX5_readSealLine_50 rfl rfl ?_
        refine g_iconst (v := 3) B dX5_readSealLine_51 (by decide) ?_
        replace h := bnS_s h
        obtain ⟨x27, s29, h28, h⟩ := h
        refine g_callVs0 (st := []) B (cX5_failc h28) (Nat.le_of_ble_eq_true rfl) rfl rfl mi_X5_fail lk_RX5_51 ⟨Nat.le_of_ble_eq_true rfl, Nat.le_of_ble_eq_true rfl⟩ rfl rfl (Nat.le_of_ble_eq_true rfl) dX5_readSealLine_52 (Nat.zero_le _) (Nat.zero_le _) ?_
        obtain ⟨w1, w2⟩ := inS h
        clear h
        subst w1
        subst w2
        exact g_zret B hE (nar_bI _) (Nat.zero_le _) (Nat.zero_le _) dX5_readSealLine_55
    · replace h := ifn (bI0 hc) h
      refine g_iconst (v := 0) B dX5_readSealLine_30 (by decide) ?_
      obtain ⟨w1, w2⟩ := inS h
      clear h
      subst w1
      subst w2
      exact g_zret B hE rfl (Nat.zero_le _) (Nat.zero_le _) dX5_readSealLine_31
  · replace h := ifn (bI0 hc) h
    refine g_iconst (v := 0) B dX5_readSealLine_10 (by decide) ?_
    obtain ⟨w1, w2⟩ := inS h
    clear h
    subst w1
    subst w2
    exact g_zret B hE rfl (Nat.zero_le _) (Nat.zero_le _) dX5_readSealLine_11
set_option maxRecDepth 100000 in
set_option maxHeartbeats 4000000 in
theorem cX5_readCancelLinec {l : Launch} {v0 : Option Nat} {σ : HpT} {r : Bool} {σ' : HpT} (h : fX5_readCancelLine v0 σ = some (r, σ')) : IsK σ v0 5 ∧ Ct l yX5_readCancelLine cX5_readCancelLine 1 (some .boolean) 4 82 [va_rf v0] σ (.ok (some (.int (bI r)))) σ' 0 0 := by
  unfold fX5_readCancelLine at h
  replace h := bnP_s h
  obtain ⟨u, hk, h⟩ := h
  replace hk := isK_s hk
  refine ⟨hk, ?_⟩
  refine ct_start mi_X5_readCancelLine.1 rfl (al_le (al_1 (rf_cat _) al_n) (Nat.le_of_ble_eq_true rfl)) (ag_1 (rf_cat _) ag_n) (fun Δ Γ B hE hnm => ?_)
  refine g_aload_n B 0 dX5_readCancelLine_0 rfl rfl ?_
  replace h := bnP_s h
  obtain ⟨x1, h2, h⟩ := h
  refine g_getR B fl_RX5_28 (by decide) dX5_readCancelLine_1 h2 ?_
  replace h := bnP_s h
  obtain ⟨x3, h4, h⟩ := h
  refine g_callVs0 (st := []) B (cX1_openActc h4) (Nat.le_of_ble_eq_true rfl) rfl rfl mi_X1_openAct lk_RX5_149 ⟨Nat.le_of_ble_eq_true rfl, Nat.le_of_ble_eq_true rfl⟩ rfl rfl (Nat.le_of_ble_eq_true rfl) dX5_readCancelLine_4 (Nat.zero_le _) (Nat.zero_le _) ?_
  refine g_ifnonnull B 16 dX5_readCancelLine_7 (by decide) (fun hc => ?_) (fun hc => ?_)
  · replace h := ifn hc h
    refine g_aload_n B 0 dX5_readCancelLine_16 rfl rfl ?_
    replace h := bnP_s h
    obtain ⟨x5, h6, h⟩ := h
    refine g_getR B fl_RX5_28 (by decide) dX5_readCancelLine_17 h6 ?_
    replace h := bnP_s h
    obtain ⟨s9, h8, h⟩ := h
    refine g_callVv0 (st := []) B (cX1_cancelOpenc h8) (Nat.le_of_ble_eq_true rfl) rfl rfl mi_X1_cancelOpen lk_RX5_222 ⟨Nat.le_of_ble_eq_true rfl, Nat.le_of_ble_eq_true rfl⟩ rfl rfl (Nat.le_of_ble_eq_true rfl) dX5_readCancelLine_20 (Nat.zero_le _) (Nat.zero_le _) ?_
    refine g_aload_n B 0 dX5_readCancelLine_23 rfl rfl ?_
    replace h := bnS_s h
    obtain ⟨x10, s12, h11, h⟩ := h
    refine g_callVs0 (st := []) B (cX5_finishLinec h11) (Nat.le_of_ble_eq_true rfl) rfl rfl mi_X5_finishLine lk_RX5_102 ⟨Nat.le_of_ble_eq_true rfl, Nat.le_of_ble_eq_true rfl⟩ rfl rfl (Nat.le_of_ble_eq_true rfl) dX5_readCancelLine_24 (Nat.zero_le _) (Nat.zero_le _) ?_
    obtain ⟨w1, w2⟩ := inS h
    clear h
    subst w1
    subst w2
    exact g_zret B hE (nar_bI _) (Nat.zero_le _) (Nat.zero_le _) dX5_readCancelLine_27
  · replace h := ifp hc h
    refine g_aload_n B 0 dX5_readCancelLine_10 rfl rfl ?_
    refine g_iconst (v := 3) B dX5_readCancelLine_11 (by decide) ?_
    replace h := bnS_s h
    obtain ⟨x13, s15, h14, h⟩ := h
    refine g_callVs0 (st := []) B (cX5_failc h14) (Nat.le_of_ble_eq_true rfl) rfl rfl mi_X5_fail lk_RX5_51 ⟨Nat.le_of_ble_eq_true rfl, Nat.le_of_ble_eq_true rfl⟩ rfl rfl (Nat.le_of_ble_eq_true rfl) dX5_readCancelLine_12 (Nat.zero_le _) (Nat.zero_le _) ?_
    obtain ⟨w1, w2⟩ := inS h
    clear h
    subst w1
    subst w2
    exact g_zret B hE (nar_bI _) (Nat.zero_le _) (Nat.zero_le _) dX5_readCancelLine_15
set_option maxRecDepth 100000 in
set_option maxHeartbeats 4000000 in
theorem cX5_readCopyLinec {l : Launch} {v0 : Option Nat} {σ : HpT} {r : Bool} {σ' : HpT} (h : fX5_readCopyLine v0 σ = some (r, σ')) : IsK σ v0 5 ∧ Ct l yX5_readCopyLine cX5_readCopyLine 2 (some .boolean) 4 89 [va_rf v0] σ (.ok (some (.int (bI r)))) σ' 0 0 := by
  unfold fX5_readCopyLine at h
  replace h := bnP_s h
  obtain ⟨u, hk, h⟩ := h
  replace hk := isK_s hk
  refine ⟨hk, ?_⟩
  refine ct_start mi_X5_readCopyLine.1 rfl (al_le (al_1 (rf_cat _) al_n) (Nat.le_of_ble_eq_true rfl)) (ag_1 (rf_cat _) ag_n) (fun Δ Γ B hE hnm => ?_)
  refine g_aload_n B 0 dX5_readCopyLine_0 rfl rfl ?_
  replace h := bnP_s h
  obtain ⟨x1, h2, h⟩ := h
  refine g_getR B fl_RX5_28 (by decide) dX5_readCopyLine_1 h2 ?_
  replace h := bnP_s h
  obtain ⟨x3, h4, h⟩ := h
  refine g_getI B fl_RX5_225 (by decide) dX5_readCopyLine_4 h4 ?_
  refine g_bipush (v := 8) B dX5_readCopyLine_7 (by decide) ?_
  refine g_icmp_lt B 18 dX5_readCopyLine_9 (by decide) (fun hc => ?_) (fun hc => ?_)
  · replace h := ifp hc h
    refine g_aload_n B 0 dX5_readCopyLine_18 rfl rfl ?_
    refine g_iconst (v := 1) B dX5_readCopyLine_19 (by decide) ?_
    refine g_aload_n B 0 dX5_readCopyLine_20 rfl rfl ?_
    replace h := bnP_s h
    obtain ⟨x5, h6, h⟩ := h
    refine g_getR B fl_RX5_28 (by decide) dX5_readCopyLine_21 h6 ?_
    replace h := bnP_s h
    obtain ⟨x7, h8, h⟩ := h
    refine g_getI B fl_RX5_153 (by decide) dX5_readCopyLine_24 h8 ?_
    replace h := bnS_s h
    obtain ⟨x9, s11, h10, h⟩ := h
    refine g_callVs0 (st := []) B (cX5_checkNextNumberc h10) (Nat.le_of_ble_eq_true rfl) rfl rfl mi_X5_checkNextNumber lk_RX5_84 ⟨Nat.le_of_ble_eq_true rfl, Nat.le_of_ble_eq_true rfl⟩ rfl rfl (Nat.le_of_ble_eq_true rfl) dX5_readCopyLine_27 (Nat.zero_le _) (Nat.zero_le _) ?_
    refine g_if_ne B 35 dX5_readCopyLine_30 (by decide) (fun hc => ?_) (fun hc => ?_)
    · replace h := ifp (bI1 hc) h
      refine g_aload_n B 0 dX5_readCopyLine_35 rfl rfl ?_
      replace h := bnP_s h
      obtain ⟨x12, h13, h⟩ := h
      refine g_getR B fl_RX5_12 (by decide) dX5_readCopyLine_36 h13 ?_
      replace h := bnP_s h
      obtain ⟨x14, h15, h⟩ := h
      refine g_getI B fl_RX5_72 (by decide) dX5_readCopyLine_39 h15 ?_
      refine g_istore_n B dX5_readCopyLine_42 rfl (Nat.le_of_ble_eq_true rfl) (s1_c (f1_1 rfl (rf_cat _) f1_n)) ?_
      refine g_aload_n B 1 dX5_readCopyLine_43 rfl rfl ?_
      refine g_iconst (v := 0) B dX5_readCopyLine_44 (by decide) ?_
      refine g_iconst (v := 2) B dX5_readCopyLine_45 (by decide) ?_
      replace h := bnS_s h
      obtain ⟨x16, s18, h17, h⟩ := h
      refine g_callVs0 (st := []) B (cX5_checkNextNumberc h17) (Nat.le_of_ble_eq_true rfl) rfl rfl mi_X5_checkNextNumber lk_RX5_84 ⟨Nat.le_of_ble_eq_true rfl, Nat.le_of_ble_eq_true rfl⟩ rfl rfl (Nat.le_of_ble_eq_true rfl) dX5_readCopyLine_46 (Nat.zero_le _) (Nat.zero_le _) ?_
      refine g_if_ne B 54 dX5_readCopyLine_49 (by decide) (fun hc => ?_) (fun hc => ?_)
      · replace h := ifp (bI1 hc) h
        refine g_aload_n B 1 dX5_readCopyLine_54 rfl rfl ?_
        replace h := bnP_s h
        obtain ⟨x19, h20, h⟩ := h
        refine g_getR B fl_RX5_28 (by decide) dX5_readCopyLine_55 h20 ?_
        refine g_iload_n B 0 dX5_readCopyLine_58 rfl rfl ?_
        refine g_aload_n B 1 dX5_readCopyLine_59 rfl rfl ?_
        replace h := bnP_s h
        obtain ⟨x21, h22, h⟩ := h
        refine g_getR B fl_RX5_12 (by decide) dX5_readCopyLine_60 h22 ?_
        replace h := bnP_s h
        obtain ⟨x23, h24, h⟩ := h
        refine g_getI B fl_RX5_72 (by decide) dX5_readCopyLine_63 h24 ?_
        replace h := bnS_s h
        obtain ⟨x25, s27, h26, h⟩ := h
        refine g_callVs0 (st := []) B (cX1_copyReasonc h26) (Nat.le_of_ble_eq_true rfl) rfl rfl mi_X1_copyReason lk_RX5_228 ⟨Nat.le_of_ble_eq_true rfl, Nat.le_of_ble_eq_true rfl⟩ rfl rfl (Nat.le_of_ble_eq_true rfl) dX5_readCopyLine_66 (Nat.zero_le _) (Nat.zero_le _) ?_
        refine g_if_eq B 78 dX5_readCopyLine_69 (by decide) (fun hc => ?_) (fun hc => ?_)
        · replace h := ifp hc h
          refine g_aload_n B 1 dX5_readCopyLine_78 rfl rfl ?_
          replace h := bnP_s h
          obtain ⟨x28, h29, h⟩ := h
          refine g_getR B fl_RX5_28 (by decide) dX5_readCopyLine_79 h29 ?_
          refine g_iload_n B 0 dX5_readCopyLine_82 rfl rfl ?_
          refine g_aload_n B 1 dX5_readCopyLine_83 rfl rfl ?_
          replace h := bnP_s h
          obtain ⟨x30, h31, h⟩ := h
          refine g_getR B fl_RX5_12 (by decide) dX5_readCopyLine_84 h31 ?_
          replace h := bnP_s h
          obtain ⟨x32, h33, h⟩ := h
          refine g_getI B fl_RX5_72 (by decide) dX5_readCopyLine_87 h33 ?_
          replace h := bnP_s h
          obtain ⟨s36, h35, h⟩ := h
          refine g_callVv0 (st := []) B (cX1_makeCopyc h35) (Nat.le_of_ble_eq_true rfl) rfl rfl mi_X1_makeCopy lk_RX5_231 ⟨Nat.le_of_ble_eq_true rfl, Nat.le_of_ble_eq_true rfl⟩ rfl rfl (Nat.le_of_ble_eq_true rfl) dX5_readCopyLine_90 (Nat.zero_le _) (Nat.zero_le _) ?_
          refine g_aload_n B 1 dX5_readCopyLine_93 rfl rfl ?_
          replace h := bnS_s h
          obtain ⟨x37, s39, h38, h⟩ := h
          refine g_callVs0 (st := []) B (cX5_finishLinec h38) (Nat.le_of_ble_eq_true rfl) rfl rfl mi_X5_finishLine lk_RX5_102 ⟨Nat.le_of_ble_eq_true rfl, Nat.le_of_ble_eq_true rfl⟩ rfl rfl (Nat.le_of_ble_eq_true rfl) dX5_readCopyLine_94 (Nat.zero_le _) (Nat.zero_le _) ?_
          obtain ⟨w1, w2⟩ := inS h
          clear h
          subst w1
          subst w2
          exact g_zret B hE (nar_bI _) (Nat.zero_le _) (Nat.zero_le _) dX5_readCopyLine_97
        · replace h := ifn hc h
          refine g_aload_n B 1 dX5_readCopyLine_72 rfl rfl ?_
          refine g_iconst (v := 3) B dX5_readCopyLine_73 (by decide) ?_
          replace h := bnS_s h
          obtain ⟨x40, s42, h41, h⟩ := h
          refine g_callVs0 (st := []) B (cX5_failc h41) (Nat.le_of_ble_eq_true rfl) rfl rfl mi_X5_fail lk_RX5_51 ⟨Nat.le_of_ble_eq_true rfl, Nat.le_of_ble_eq_true rfl⟩ rfl rfl (Nat.le_of_ble_eq_true rfl) dX5_readCopyLine_74 (Nat.zero_le _) (Nat.zero_le _) ?_
          obtain ⟨w1, w2⟩ := inS h
          clear h
          subst w1
          subst w2
          exact g_zret B hE (nar_bI _) (Nat.zero_le _) (Nat.zero_le _) dX5_readCopyLine_77
      · replace h := ifn (bI0 hc) h
        refine g_iconst (v := 0) B dX5_readCopyLine_52 (by decide) ?_
        obtain ⟨w1, w2⟩ := inS h
        clear h
        subst w1
        subst w2
        exact g_zret B hE rfl (Nat.zero_le _) (Nat.zero_le _) dX5_readCopyLine_53
    · replace h := ifn (bI0 hc) h
      refine g_iconst (v := 0) B dX5_readCopyLine_33 (by decide) ?_
      obtain ⟨w1, w2⟩ := inS h
      clear h
      subst w1
      subst w2
      exact g_zret B hE rfl (Nat.zero_le _) (Nat.zero_le _) dX5_readCopyLine_34
  · replace h := ifn hc h
    refine g_aload_n B 0 dX5_readCopyLine_12 rfl rfl ?_
    refine g_iconst (v := 4) B dX5_readCopyLine_13 (by decide) ?_
    replace h := bnS_s h
    obtain ⟨x43, s45, h44, h⟩ := h
    refine g_callVs0 (st := []) B (cX5_failc h44) (Nat.le_of_ble_eq_true rfl) rfl rfl mi_X5_fail lk_RX5_51 ⟨Nat.le_of_ble_eq_true rfl, Nat.le_of_ble_eq_true rfl⟩ rfl rfl (Nat.le_of_ble_eq_true rfl) dX5_readCopyLine_14 (Nat.zero_le _) (Nat.zero_le _) ?_
    obtain ⟨w1, w2⟩ := inS h
    clear h
    subst w1
    subst w2
    exact g_zret B hE (nar_bI _) (Nat.zero_le _) (Nat.zero_le _) dX5_readCopyLine_17
