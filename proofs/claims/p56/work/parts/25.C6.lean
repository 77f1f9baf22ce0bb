theorem mi_X9_addCopy : MI yX9_addCopy cX9_addCopy 3 (some .int) 2 := ⟨by decide +kernel, (mw (i := 1204) (by decide +kernel) rfl), (mw (i := 37) (by decide +kernel) rfl), by decide +kernel, by decide +kernel⟩
theorem mi_X9_cancel : MI yX9_cancel cX9_cancel 1 (some .int) 0 := ⟨by decide +kernel, (mw (i := 1197) (by decide +kernel) rfl), (mw (i := 37) (by decide +kernel) rfl), by decide +kernel, by decide +kernel⟩
theorem mi_X9_interline : MI yX9_interline cX9_interline 5 (some .int) 2 := ⟨by decide +kernel, (mw (i := 1179) (by decide +kernel) rfl), (mw (i := 37) (by decide +kernel) rfl), by decide +kernel, by decide +kernel⟩
theorem mi_X9_lose : MI yX9_lose cX9_lose 3 (some .int) 1 := ⟨by decide +kernel, (mw (i := 1210) (by decide +kernel) rfl), (mw (i := 37) (by decide +kernel) rfl), by decide +kernel, by decide +kernel⟩
theorem mi_X9_recover : MI yX9_recover cX9_recover 2 (some .int) 1 := ⟨by decide +kernel, (mw (i := 1221) (by decide +kernel) rfl), (mw (i := 37) (by decide +kernel) rfl), by decide +kernel, by decide +kernel⟩
theorem mi_X9_requireLeafAt : MI yX9_requireLeafAt cX9_requireLeafAt 3 none 2 := ⟨by decide +kernel, (mw (i := 1215) (by decide +kernel) rfl), (mw (i := 37) (by decide +kernel) rfl), by decide +kernel, by decide +kernel⟩
theorem mi_X9_requireSlot : MI yX9_requireSlot cX9_requireSlot 1 none 1 := ⟨by decide +kernel, (mw (i := 1237) (by decide +kernel) rfl), (mw (i := 37) (by decide +kernel) rfl), by decide +kernel, by decide +kernel⟩
theorem mi_X9_restore : MI yX9_restore cX9_restore 2 (some .int) 1 := ⟨by decide +kernel, (mw (i := 1242) (by decide +kernel) rfl), (mw (i := 37) (by decide +kernel) rfl), by decide +kernel, by decide +kernel⟩
theorem mi_X9_save : MI yX9_save cX9_save 2 (some .int) 1 := ⟨by decide +kernel, (mw (i := 1234) (by decide +kernel) rfl), (mw (i := 37) (by decide +kernel) rfl), by decide +kernel, by decide +kernel⟩
theorem mi_X9_seal : MI yX9_seal cX9_seal 3 (some .int) 2 := ⟨by decide +kernel, (mw (i := 1191) (by decide +kernel) rfl), (mw (i := 37) (by decide +kernel) rfl), by decide +kernel, by decide +kernel⟩
theorem mi_X9_shake : MI yX9_shake cX9_shake 1 (some .int) 0 := ⟨by decide +kernel, (mw (i := 1226) (by decide +kernel) rfl), (mw (i := 37) (by decide +kernel) rfl), by decide +kernel, by decide +kernel⟩
theorem mi_X9_undoable : MI yX9_undoable cX9_undoable 1 (some .int) 0 := ⟨by decide +kernel, (mw (i := 1230) (by decide +kernel) rfl), (mw (i := 37) (by decide +kernel) rfl), by decide +kernel, by decide +kernel⟩
theorem lk_RX9_353 : LV RX9 353 yX9_inputWord := ⟨(mw (i := 1180) (by decide +kernel) rfl), (mw (i := 1182) (by decide +kernel) rfl), (mw (i := 30) (by decide +kernel) rfl)⟩
theorem lk_RX9_403 : LV RX9 403 yX4_isLost := ⟨(mw (i := 1211) (by decide +kernel) rfl), (mw (i := 695) (by decide +kernel) rfl), (mw (i := 696) (by decide +kernel) rfl)⟩
theorem lk_RX9_419 : LV RX9 419 yX1_openAct := ⟨(mw (i := 1198) (by decide +kernel) rfl), (mw (i := 662) (by decide +kernel) rfl), (mw (i := 663) (by decide +kernel) rfl)⟩
theorem lk_RX9_449 : LV RX9 449 yX1_canInsert := ⟨(mw (i := 1185) (by decide +kernel) rfl), (mw (i := 796) (by decide +kernel) rfl), (mw (i := 797) (by decide +kernel) rfl)⟩
theorem lk_RX9_454 : LV RX9 454 yX1_insertWord := ⟨(mw (i := 1187) (by decide +kernel) rfl), (mw (i := 800) (by decide +kernel) rfl), (mw (i := 801) (by decide +kernel) rfl)⟩
theorem lk_RX9_459 : LV RX9 459 yX1_sealOpen := ⟨(mw (i := 1193) (by decide +kernel) rfl), (mw (i := 826) (by decide +kernel) rfl), (mw (i := 827) (by decide +kernel) rfl)⟩
theorem lk_RX9_464 : LV RX9 464 yX1_cancelOpen := ⟨(mw (i := 1200) (by decide +kernel) rfl), (mw (i := 839) (by decide +kernel) rfl), (mw (i := 840) (by decide +kernel) rfl)⟩
theorem lk_RX9_469 : LV RX9 469 yX1_makeCopy := ⟨(mw (i := 1206) (by decide +kernel) rfl), (mw (i := 873) (by decide +kernel) rfl), (mw (i := 874) (by decide +kernel) rfl)⟩
theorem lk_RX9_475 : LV RX9 475 yX9_requireLeafAt := ⟨(mw (i := 1212) (by decide +kernel) rfl), (mw (i := 1214) (by decide +kernel) rfl), (mw (i := 31) (by decide +kernel) rfl)⟩
theorem lk_RX9_479 : LV RX9 479 yX4_drop := ⟨(mw (i := 1217) (by decide +kernel) rfl), (mw (i := 898) (by decide +kernel) rfl), (mw (i := 899) (by decide +kernel) rfl)⟩
theorem lk_RX9_482 : LV RX9 482 yX4_bringBack := ⟨(mw (i := 1222) (by decide +kernel) rfl), (mw (i := 902) (by decide +kernel) rfl), (mw (i := 903) (by decide +kernel) rfl)⟩
theorem lk_RX9_506 : LSt RX9 506 yX9_requireSlot := ⟨(mw (i := 1235) (by decide +kernel) rfl), (mw (i := 1236) (by decide +kernel) rfl)⟩
theorem dX9_interline_0 : decode cX9_interline 0 = .ok (.aload_n 0, 1) := by decide +kernel
theorem dX9_interline_1 : decode cX9_interline 1 = .ok (.invokevirtual 95, 3) := by decide +kernel
theorem dX9_interline_4 : decode cX9_interline 4 = .ok (.aload_n 0, 1) := by decide +kernel
theorem dX9_interline_5 : decode cX9_interline 5 = .ok (.iload_n 2, 1) := by decide +kernel
theorem dX9_interline_6 : decode cX9_interline 6 = .ok (.invokevirtual 66, 3) := by decide +kernel
theorem dX9_interline_9 : decode cX9_interline 9 = .ok (.aload_n 0, 1) := by decide +kernel
theorem dX9_interline_10 : decode cX9_interline 10 = .ok (.iload_n 2, 1) := by decide +kernel
theorem dX9_interline_11 : decode cX9_interline 11 = .ok (.invokevirtual 353, 3) := by decide +kernel
theorem dX9_interline_14 : decode cX9_interline 14 = .ok (.lstore_n 3, 1) := by decide +kernel
theorem dX9_interline_15 : decode cX9_interline 15 = .ok (.lload_n 3, 1) := by decide +kernel
theorem dX9_interline_16 : decode cX9_interline 16 = .ok (.lconst 0, 1) := by decide +kernel
theorem dX9_interline_17 : decode cX9_interline 17 = .ok (.lcmp, 1) := by decide +kernel
theorem dX9_interline_18 : decode cX9_interline 18 = .ok (.ifCond .eq 14, 3) := by decide +kernel
theorem dX9_interline_21 : decode cX9_interline 21 = .ok (.aload_n 0, 1) := by decide +kernel
theorem dX9_interline_22 : decode cX9_interline 22 = .ok (.getfield 20, 3) := by decide +kernel
theorem dX9_interline_25 : decode cX9_interline 25 = .ok (.iload_n 1, 1) := by decide +kernel
theorem dX9_interline_26 : decode cX9_interline 26 = .ok (.invokevirtual 449, 3) := by decide +kernel
theorem dX9_interline_29 : decode cX9_interline 29 = .ok (.ifCond .ne 14, 3) := by decide +kernel
theorem dX9_interline_32 : decode cX9_interline 32 = .ok (.new 78, 3) := by decide +kernel
theorem dX9_interline_35 : decode cX9_interline 35 = .ok (.dup, 1) := by decide +kernel
theorem dX9_interline_36 : decode cX9_interline 36 = .ok (.ldc_w 452, 3) := by decide +kernel
theorem dX9_interline_39 : decode cX9_interline 39 = .ok (.invokespecial 82, 3) := by decide +kernel
theorem dX9_interline_42 : decode cX9_interline 42 = .ok (.athrow, 1) := by decide +kernel
theorem dX9_interline_43 : decode cX9_interline 43 = .ok (.aload_n 0, 1) := by decide +kernel
theorem dX9_interline_44 : decode cX9_interline 44 = .ok (.invokevirtual 430, 3) := by decide +kernel
theorem dX9_interline_47 : decode cX9_interline 47 = .ok (.aload_n 0, 1) := by decide +kernel
theorem dX9_interline_48 : decode cX9_interline 48 = .ok (.iconst 0, 1) := by decide +kernel
theorem dX9_interline_49 : decode cX9_interline 49 = .ok (.putfield 59, 3) := by decide +kernel
theorem dX9_interline_52 : decode cX9_interline 52 = .ok (.aload_n 0, 1) := by decide +kernel
theorem dX9_interline_53 : decode cX9_interline 53 = .ok (.getfield 20, 3) := by decide +kernel
theorem dX9_interline_56 : decode cX9_interline 56 = .ok (.iload_n 1, 1) := by decide +kernel
theorem dX9_interline_57 : decode cX9_interline 57 = .ok (.lload_n 3, 1) := by decide +kernel
theorem dX9_interline_58 : decode cX9_interline 58 = .ok (.invokevirtual 454, 3) := by decide +kernel
theorem dX9_interline_61 : decode cX9_interline 61 = .ok (.aload_n 0, 1) := by decide +kernel
theorem dX9_interline_62 : decode cX9_interline 62 = .ok (.getfield 20, 3) := by decide +kernel
theorem dX9_interline_65 : decode cX9_interline 65 = .ok (.invokevirtual 345, 3) := by decide +kernel
theorem dX9_interline_68 : decode cX9_interline 68 = .ok (.ireturn, 1) := by decide +kernel
theorem dX9_seal_0 : decode cX9_seal 0 = .ok (.aload_n 0, 1) := by decide +kernel
theorem dX9_seal_1 : decode cX9_seal 1 = .ok (.invokevirtual 95, 3) := by decide +kernel
theorem dX9_seal_4 : decode cX9_seal 4 = .ok (.iload_n 1, 1) := by decide +kernel
theorem dX9_seal_5 : decode cX9_seal 5 = .ok (.bipush 9, 2) := by decide +kernel
theorem dX9_seal_7 : decode cX9_seal 7 = .ok (.invokestatic 98, 3) := by decide +kernel
theorem dX9_seal_10 : decode cX9_seal 10 = .ok (.iload_n 2, 1) := by decide +kernel
theorem dX9_seal_11 : decode cX9_seal 11 = .ok (.bipush 99, 2) := by decide +kernel
theorem dX9_seal_13 : decode cX9_seal 13 = .ok (.invokestatic 98, 3) := by decide +kernel
theorem dX9_seal_16 : decode cX9_seal 16 = .ok (.aload_n 0, 1) := by decide +kernel
theorem dX9_seal_17 : decode cX9_seal 17 = .ok (.getfield 20, 3) := by decide +kernel
theorem dX9_seal_20 : decode cX9_seal 20 = .ok (.iload_n 1, 1) := by decide +kernel
theorem dX9_seal_21 : decode cX9_seal 21 = .ok (.iload_n 2, 1) := by decide +kernel
theorem dX9_seal_22 : decode cX9_seal 22 = .ok (.invokevirtual 310, 3) := by decide +kernel
theorem dX9_seal_25 : decode cX9_seal 25 = .ok (.ifCond .eq 14, 3) := by decide +kernel
theorem dX9_seal_28 : decode cX9_seal 28 = .ok (.new 78, 3) := by decide +kernel
theorem dX9_seal_31 : decode cX9_seal 31 = .ok (.dup, 1) := by decide +kernel
theorem dX9_seal_32 : decode cX9_seal 32 = .ok (.ldc_w 457, 3) := by decide +kernel
theorem dX9_seal_35 : decode cX9_seal 35 = .ok (.invokespecial 82, 3) := by decide +kernel
theorem dX9_seal_38 : decode cX9_seal 38 = .ok (.athrow, 1) := by decide +kernel
theorem dX9_seal_39 : decode cX9_seal 39 = .ok (.aload_n 0, 1) := by decide +kernel
theorem dX9_seal_40 : decode cX9_seal 40 = .ok (.invokevirtual 430, 3) := by decide +kernel
theorem dX9_seal_43 : decode cX9_seal 43 = .ok (.aload_n 0, 1) := by decide +kernel
theorem dX9_seal_44 : decode cX9_seal 44 = .ok (.getfield 20, 3) := by decide +kernel
theorem dX9_seal_47 : decode cX9_seal 47 = .ok (.iload_n 1, 1) := by decide +kernel
theorem dX9_seal_48 : decode cX9_seal 48 = .ok (.invokevirtual 459, 3) := by decide +kernel
theorem dX9_seal_51 : decode cX9_seal 51 = .ok (.ireturn, 1) := by decide +kernel
theorem dX9_cancel_0 : decode cX9_cancel 0 = .ok (.aload_n 0, 1) := by decide +kernel
theorem dX9_cancel_1 : decode cX9_cancel 1 = .ok (.invokevirtual 95, 3) := by decide +kernel
theorem dX9_cancel_4 : decode cX9_cancel 4 = .ok (.aload_n 0, 1) := by decide +kernel
theorem dX9_cancel_5 : decode cX9_cancel 5 = .ok (.getfield 20, 3) := by decide +kernel
theorem dX9_cancel_8 : decode cX9_cancel 8 = .ok (.invokevirtual 419, 3) := by decide +kernel
theorem dX9_cancel_11 : decode cX9_cancel 11 = .ok (.ifnonnull 14, 3) := by decide +kernel
theorem dX9_cancel_14 : decode cX9_cancel 14 = .ok (.new 78, 3) := by decide +kernel
theorem dX9_cancel_17 : decode cX9_cancel 17 = .ok (.dup, 1) := by decide +kernel
theorem dX9_cancel_18 : decode cX9_cancel 18 = .ok (.ldc_w 462, 3) := by decide +kernel
theorem dX9_cancel_21 : decode cX9_cancel 21 = .ok (.invokespecial 82, 3) := by decide +kernel
theorem dX9_cancel_24 : decode cX9_cancel 24 = .ok (.athrow, 1) := by decide +kernel
theorem dX9_cancel_25 : decode cX9_cancel 25 = .ok (.aload_n 0, 1) := by decide +kernel
theorem dX9_cancel_26 : decode cX9_cancel 26 = .ok (.invokevirtual 430, 3) := by decide +kernel
theorem dX9_cancel_29 : decode cX9_cancel 29 = .ok (.aload_n 0, 1) := by decide +kernel
theorem dX9_cancel_30 : decode cX9_cancel 30 = .ok (.getfield 20, 3) := by decide +kernel
theorem dX9_cancel_33 : decode cX9_cancel 33 = .ok (.invokevirtual 464, 3) := by decide +kernel
theorem dX9_cancel_36 : decode cX9_cancel 36 = .ok (.aload_n 0, 1) := by decide +kernel
theorem dX9_cancel_37 : decode cX9_cancel 37 = .ok (.getfield 20, 3) := by decide +kernel
theorem dX9_cancel_40 : decode cX9_cancel 40 = .ok (.getfield 92, 3) := by decide +kernel
theorem dX9_cancel_43 : decode cX9_cancel 43 = .ok (.ireturn, 1) := by decide +kernel
theorem dX9_addCopy_0 : decode cX9_addCopy 0 = .ok (.aload_n 0, 1) := by decide +kernel
theorem dX9_addCopy_1 : decode cX9_addCopy 1 = .ok (.invokevirtual 95, 3) := by decide +kernel
theorem dX9_addCopy_4 : decode cX9_addCopy 4 = .ok (.aload_n 0, 1) := by decide +kernel
theorem dX9_addCopy_5 : decode cX9_addCopy 5 = .ok (.iload_n 1, 1) := by decide +kernel
theorem dX9_addCopy_6 : decode cX9_addCopy 6 = .ok (.invokevirtual 153, 3) := by decide +kernel
theorem dX9_addCopy_9 : decode cX9_addCopy 9 = .ok (.pop, 1) := by decide +kernel
theorem dX9_addCopy_10 : decode cX9_addCopy 10 = .ok (.iload_n 2, 1) := by decide +kernel
theorem dX9_addCopy_11 : decode cX9_addCopy 11 = .ok (.iconst 2, 1) := by decide +kernel
theorem dX9_addCopy_12 : decode cX9_addCopy 12 = .ok (.invokestatic 98, 3) := by decide +kernel
theorem dX9_addCopy_15 : decode cX9_addCopy 15 = .ok (.aload_n 0, 1) := by decide +kernel
theorem dX9_addCopy_16 : decode cX9_addCopy 16 = .ok (.getfield 20, 3) := by decide +kernel
theorem dX9_addCopy_19 : decode cX9_addCopy 19 = .ok (.iload_n 1, 1) := by decide +kernel
theorem dX9_addCopy_20 : decode cX9_addCopy 20 = .ok (.iload_n 2, 1) := by decide +kernel
theorem dX9_addCopy_21 : decode cX9_addCopy 21 = .ok (.invokevirtual 313, 3) := by decide +kernel
theorem dX9_addCopy_24 : decode cX9_addCopy 24 = .ok (.ifCond .eq 14, 3) := by decide +kernel
theorem dX9_addCopy_27 : decode cX9_addCopy 27 = .ok (.new 78, 3) := by decide +kernel
theorem dX9_addCopy_30 : decode cX9_addCopy 30 = .ok (.dup, 1) := by decide +kernel
theorem dX9_addCopy_31 : decode cX9_addCopy 31 = .ok (.ldc_w 467, 3) := by decide +kernel
theorem dX9_addCopy_34 : decode cX9_addCopy 34 = .ok (.invokespecial 82, 3) := by decide +kernel
theorem dX9_addCopy_37 : decode cX9_addCopy 37 = .ok (.athrow, 1) := by decide +kernel
theorem dX9_addCopy_38 : decode cX9_addCopy 38 = .ok (.aload_n 0, 1) := by decide +kernel
theorem dX9_addCopy_39 : decode cX9_addCopy 39 = .ok (.invokevirtual 430, 3) := by decide +kernel
theorem dX9_addCopy_42 : decode cX9_addCopy 42 = .ok (.aload_n 0, 1) := by decide +kernel
theorem dX9_addCopy_43 : decode cX9_addCopy 43 = .ok (.getfield 20, 3) := by decide +kernel
theorem dX9_addCopy_46 : decode cX9_addCopy 46 = .ok (.iload_n 1, 1) := by decide +kernel
theorem dX9_addCopy_47 : decode cX9_addCopy 47 = .ok (.iload_n 2, 1) := by decide +kernel
theorem dX9_addCopy_48 : decode cX9_addCopy 48 = .ok (.invokevirtual 469, 3) := by decide +kernel
theorem dX9_addCopy_51 : decode cX9_addCopy 51 = .ok (.aload_n 0, 1) := by decide +kernel
theorem dX9_addCopy_52 : decode cX9_addCopy 52 = .ok (.getfield 20, 3) := by decide +kernel
theorem dX9_addCopy_55 : decode cX9_addCopy 55 = .ok (.getfield 128, 3) := by decide +kernel
theorem dX9_addCopy_58 : decode cX9_addCopy 58 = .ok (.iconst 1, 1) := by decide +kernel
theorem dX9_addCopy_59 : decode cX9_addCopy 59 = .ok (.isub, 1) := by decide +kernel
theorem dX9_addCopy_60 : decode cX9_addCopy 60 = .ok (.ireturn, 1) := by decide +kernel
theorem dX9_requireLeafAt_0 : decode cX9_requireLeafAt 0 = .ok (.aload_n 0, 1) := by decide +kernel
theorem dX9_requireLeafAt_1 : decode cX9_requireLeafAt 1 = .ok (.iload_n 1, 1) := by decide +kernel
theorem dX9_requireLeafAt_2 : decode cX9_requireLeafAt 2 = .ok (.invokevirtual 254, 3) := by decide +kernel
theorem dX9_requireLeafAt_5 : decode cX9_requireLeafAt 5 = .ok (.iload_n 2, 1) := by decide +kernel
theorem dX9_requireLeafAt_6 : decode cX9_requireLeafAt 6 = .ok (.ifCond .ne 14, 3) := by decide +kernel
theorem dX9_requireLeafAt_9 : decode cX9_requireLeafAt 9 = .ok (.new 78, 3) := by decide +kernel
theorem dX9_requireLeafAt_12 : decode cX9_requireLeafAt 12 = .ok (.dup, 1) := by decide +kernel
theorem dX9_requireLeafAt_13 : decode cX9_requireLeafAt 13 = .ok (.ldc_w 539, 3) := by decide +kernel
theorem dX9_requireLeafAt_16 : decode cX9_requireLeafAt 16 = .ok (.invokespecial 82, 3) := by decide +kernel
theorem dX9_requireLeafAt_19 : decode cX9_requireLeafAt 19 = .ok (.athrow, 1) := by decide +kernel
theorem dX9_requireLeafAt_20 : decode cX9_requireLeafAt 20 = .ok (.return_, 1) := by decide +kernel
theorem dX9_lose_0 : decode cX9_lose 0 = .ok (.aload_n 0, 1) := by decide +kernel
theorem dX9_lose_1 : decode cX9_lose 1 = .ok (.invokevirtual 95, 3) := by decide +kernel
theorem dX9_lose_4 : decode cX9_lose 4 = .ok (.aload_n 0, 1) := by decide +kernel
theorem dX9_lose_5 : decode cX9_lose 5 = .ok (.iload_n 1, 1) := by decide +kernel
theorem dX9_lose_6 : decode cX9_lose 6 = .ok (.aload_n 0, 1) := by decide +kernel
theorem dX9_lose_7 : decode cX9_lose 7 = .ok (.getfield 20, 3) := by decide +kernel
theorem dX9_lose_10 : decode cX9_lose 10 = .ok (.getfield 108, 3) := by decide +kernel
theorem dX9_lose_13 : decode cX9_lose 13 = .ok (.iload_n 1, 1) := by decide +kernel
theorem dX9_lose_14 : decode cX9_lose 14 = .ok (.invokevirtual 403, 3) := by decide +kernel
theorem dX9_lose_17 : decode cX9_lose 17 = .ok (.ifCond .ne 7, 3) := by decide +kernel
theorem dX9_lose_20 : decode cX9_lose 20 = .ok (.iconst 1, 1) := by decide +kernel
theorem dX9_lose_21 : decode cX9_lose 21 = .ok (.goto 4, 3) := by decide +kernel
theorem dX9_lose_24 : decode cX9_lose 24 = .ok (.iconst 0, 1) := by decide +kernel
theorem dX9_lose_25 : decode cX9_lose 25 = .ok (.invokevirtual 475, 3) := by decide +kernel
theorem dX9_lose_28 : decode cX9_lose 28 = .ok (.aload_n 0, 1) := by decide +kernel
theorem dX9_lose_29 : decode cX9_lose 29 = .ok (.invokevirtual 430, 3) := by decide +kernel
theorem dX9_lose_32 : decode cX9_lose 32 = .ok (.aload_n 0, 1) := by decide +kernel
theorem dX9_lose_33 : decode cX9_lose 33 = .ok (.getfield 20, 3) := by decide +kernel
theorem dX9_lose_36 : decode cX9_lose 36 = .ok (.iload_n 1, 1) := by decide +kernel
theorem dX9_lose_37 : decode cX9_lose 37 = .ok (.invokevirtual 319, 3) := by decide +kernel
theorem dX9_lose_40 : decode cX9_lose 40 = .ok (.istore_n 2, 1) := by decide +kernel
theorem dX9_lose_41 : decode cX9_lose 41 = .ok (.aload_n 0, 1) := by decide +kernel
theorem dX9_lose_42 : decode cX9_lose 42 = .ok (.getfield 20, 3) := by decide +kernel
theorem dX9_lose_45 : decode cX9_lose 45 = .ok (.getfield 108, 3) := by decide +kernel
theorem dX9_lose_48 : decode cX9_lose 48 = .ok (.iload_n 1, 1) := by decide +kernel
theorem dX9_lose_49 : decode cX9_lose 49 = .ok (.invokevirtual 479, 3) := by decide +kernel
theorem dX9_lose_52 : decode cX9_lose 52 = .ok (.iload_n 2, 1) := by decide +kernel
theorem dX9_lose_53 : decode cX9_lose 53 = .ok (.ireturn, 1) := by decide +kernel
theorem dX9_recover_0 : decode cX9_recover 0 = .ok (.aload_n 0, 1) := by decide +kernel
theorem dX9_recover_1 : decode cX9_recover 1 = .ok (.invokevirtual 95, 3) := by decide +kernel
theorem dX9_recover_4 : decode cX9_recover 4 = .ok (.aload_n 0, 1) := by decide +kernel
theorem dX9_recover_5 : decode cX9_recover 5 = .ok (.iload_n 1, 1) := by decide +kernel
theorem dX9_recover_6 : decode cX9_recover 6 = .ok (.aload_n 0, 1) := by decide +kernel
theorem dX9_recover_7 : decode cX9_recover 7 = .ok (.getfield 20, 3) := by decide +kernel
theorem dX9_recover_10 : decode cX9_recover 10 = .ok (.getfield 108, 3) := by decide +kernel
theorem dX9_recover_13 : decode cX9_recover 13 = .ok (.iload_n 1, 1) := by decide +kernel
theorem dX9_recover_14 : decode cX9_recover 14 = .ok (.invokevirtual 403, 3) := by decide +kernel
theorem dX9_recover_17 : decode cX9_recover 17 = .ok (.invokevirtual 475, 3) := by decide +kernel
theorem dX9_recover_20 : decode cX9_recover 20 = .ok (.aload_n 0, 1) := by decide +kernel
theorem dX9_recover_21 : decode cX9_recover 21 = .ok (.invokevirtual 430, 3) := by decide +kernel
theorem dX9_recover_24 : decode cX9_recover 24 = .ok (.aload_n 0, 1) := by decide +kernel
theorem dX9_recover_25 : decode cX9_recover 25 = .ok (.getfield 20, 3) := by decide +kernel
theorem dX9_recover_28 : decode cX9_recover 28 = .ok (.getfield 108, 3) := by decide +kernel
theorem dX9_recover_31 : decode cX9_recover 31 = .ok (.iload_n 1, 1) := by decide +kernel
theorem dX9_recover_32 : decode cX9_recover 32 = .ok (.invokevirtual 482, 3) := by decide +kernel
theorem dX9_recover_35 : decode cX9_recover 35 = .ok (.aload_n 0, 1) := by decide +kernel
theorem dX9_recover_36 : decode cX9_recover 36 = .ok (.getfield 20, 3) := by decide +kernel
theorem dX9_recover_39 : decode cX9_recover 39 = .ok (.iload_n 1, 1) := by decide +kernel
theorem dX9_recover_40 : decode cX9_recover 40 = .ok (.invokevirtual 319, 3) := by decide +kernel
theorem dX9_recover_43 : decode cX9_recover 43 = .ok (.ireturn, 1) := by decide +kernel
theorem dX9_shake_0 : decode cX9_shake 0 = .ok (.aload_n 0, 1) := by decide +kernel
theorem dX9_shake_1 : decode cX9_shake 1 = .ok (.invokevirtual 95, 3) := by decide +kernel
theorem dX9_shake_4 : decode cX9_shake 4 = .ok (.aload_n 0, 1) := by decide +kernel
theorem dX9_shake_5 : decode cX9_shake 5 = .ok (.invokevirtual 430, 3) := by decide +kernel
theorem dX9_shake_8 : decode cX9_shake 8 = .ok (.aload_n 0, 1) := by decide +kernel
theorem dX9_shake_9 : decode cX9_shake 9 = .ok (.getfield 20, 3) := by decide +kernel
theorem dX9_shake_12 : decode cX9_shake 12 = .ok (.getfield 108, 3) := by decide +kernel
theorem dX9_shake_15 : decode cX9_shake 15 = .ok (.invokevirtual 326, 3) := by decide +kernel
theorem dX9_shake_18 : decode cX9_shake 18 = .ok (.ireturn, 1) := by decide +kernel
theorem dX9_undoable_0 : decode cX9_undoable 0 = .ok (.aload_n 0, 1) := by decide +kernel
theorem dX9_undoable_1 : decode cX9_undoable 1 = .ok (.getfield 491, 3) := by decide +kernel
theorem dX9_undoable_4 : decode cX9_undoable 4 = .ok (.ireturn, 1) := by decide +kernel
theorem dX9_requireSlot_0 : decode cX9_requireSlot 0 = .ok (.iload_n 0, 1) := by decide +kernel
theorem dX9_requireSlot_1 : decode cX9_requireSlot 1 = .ok (.ifCond .lt 8, 3) := by decide +kernel
theorem dX9_requireSlot_4 : decode cX9_requireSlot 4 = .ok (.iload_n 0, 1) := by decide +kernel
theorem dX9_requireSlot_5 : decode cX9_requireSlot 5 = .ok (.iconst 2, 1) := by decide +kernel
theorem dX9_requireSlot_6 : decode cX9_requireSlot 6 = .ok (.if_icmp .lt 14, 3) := by decide +kernel
theorem dX9_requireSlot_9 : decode cX9_requireSlot 9 = .ok (.new 238, 3) := by decide +kernel
theorem dX9_requireSlot_12 : decode cX9_requireSlot 12 = .ok (.dup, 1) := by decide +kernel
theorem dX9_requireSlot_13 : decode cX9_requireSlot 13 = .ok (.ldc_w 541, 3) := by decide +kernel
theorem dX9_requireSlot_16 : decode cX9_requireSlot 16 = .ok (.invokespecial 242, 3) := by decide +kernel
theorem dX9_requireSlot_19 : decode cX9_requireSlot 19 = .ok (.athrow, 1) := by decide +kernel
theorem dX9_requireSlot_20 : decode cX9_requireSlot 20 = .ok (.return_, 1) := by decide +kernel
theorem dX9_save_0 : decode cX9_save 0 = .ok (.aload_n 0, 1) := by decide +kernel
theorem dX9_save_1 : decode cX9_save 1 = .ok (.invokevirtual 95, 3) := by decide +kernel
theorem dX9_save_4 : decode cX9_save 4 = .ok (.iload_n 1, 1) := by decide +kernel
theorem dX9_save_5 : decode cX9_save 5 = .ok (.invokestatic 506, 3) := by decide +kernel
theorem dX9_save_8 : decode cX9_save 8 = .ok (.aload_n 0, 1) := by decide +kernel
theorem dX9_save_9 : decode cX9_save 9 = .ok (.getfield 38, 3) := by decide +kernel
theorem dX9_save_12 : decode cX9_save 12 = .ok (.iload_n 1, 1) := by decide +kernel
theorem dX9_save_13 : decode cX9_save 13 = .ok (.invokestatic 502, 3) := by decide +kernel
theorem dX9_save_16 : decode cX9_save 16 = .ok (.aload_n 0, 1) := by decide +kernel
theorem dX9_save_17 : decode cX9_save 17 = .ok (.getfield 20, 3) := by decide +kernel
theorem dX9_save_20 : decode cX9_save 20 = .ok (.invokevirtual 509, 3) := by decide +kernel
theorem dX9_save_23 : decode cX9_save 23 = .ok (.aload_n 0, 1) := by decide +kernel
theorem dX9_save_24 : decode cX9_save 24 = .ok (.getfield 41, 3) := by decide +kernel
theorem dX9_save_27 : decode cX9_save 27 = .ok (.iload_n 1, 1) := by decide +kernel
theorem dX9_save_28 : decode cX9_save 28 = .ok (.iconst 1, 1) := by decide +kernel
theorem dX9_save_29 : decode cX9_save 29 = .ok (.bastore, 1) := by decide +kernel
theorem dX9_save_30 : decode cX9_save 30 = .ok (.aload_n 0, 1) := by decide +kernel
theorem dX9_save_31 : decode cX9_save 31 = .ok (.getfield 20, 3) := by decide +kernel
theorem dX9_save_34 : decode cX9_save 34 = .ok (.getfield 92, 3) := by decide +kernel
theorem dX9_save_37 : decode cX9_save 37 = .ok (.ireturn, 1) := by decide +kernel
theorem dX9_restore_0 : decode cX9_restore 0 = .ok (.iload_n 1, 1) := by decide +kernel
theorem dX9_restore_1 : decode cX9_restore 1 = .ok (.invokestatic 506, 3) := by decide +kernel
theorem dX9_restore_4 : decode cX9_restore 4 = .ok (.aload_n 0, 1) := by decide +kernel
theorem dX9_restore_5 : decode cX9_restore 5 = .ok (.getfield 41, 3) := by decide +kernel
theorem dX9_restore_8 : decode cX9_restore 8 = .ok (.iload_n 1, 1) := by decide +kernel
theorem dX9_restore_9 : decode cX9_restore 9 = .ok (.baload, 1) := by decide +kernel
theorem dX9_restore_10 : decode cX9_restore 10 = .ok (.ifCond .ne 14, 3) := by decide +kernel
theorem dX9_restore_13 : decode cX9_restore 13 = .ok (.new 494, 3) := by decide +kernel
theorem dX9_restore_16 : decode cX9_restore 16 = .ok (.dup, 1) := by decide +kernel
theorem dX9_restore_17 : decode cX9_restore 17 = .ok (.ldc_w 512, 3) := by decide +kernel
theorem dX9_restore_20 : decode cX9_restore 20 = .ok (.invokespecial 498, 3) := by decide +kernel
theorem dX9_restore_23 : decode cX9_restore 23 = .ok (.athrow, 1) := by decide +kernel
theorem dX9_restore_24 : decode cX9_restore 24 = .ok (.aload_n 0, 1) := by decide +kernel
theorem dX9_restore_25 : decode cX9_restore 25 = .ok (.getfield 20, 3) := by decide +kernel
theorem dX9_restore_28 : decode cX9_restore 28 = .ok (.aload_n 0, 1) := by decide +kernel
theorem dX9_restore_29 : decode cX9_restore 29 = .ok (.getfield 38, 3) := by decide +kernel
theorem dX9_restore_32 : decode cX9_restore 32 = .ok (.iload_n 1, 1) := by decide +kernel
theorem dX9_restore_33 : decode cX9_restore 33 = .ok (.invokestatic 502, 3) := by decide +kernel
theorem dX9_restore_36 : decode cX9_restore 36 = .ok (.invokevirtual 509, 3) := by decide +kernel
theorem dX9_restore_39 : decode cX9_restore 39 = .ok (.aload_n 0, 1) := by decide +kernel
theorem dX9_restore_40 : decode cX9_restore 40 = .ok (.invokevirtual 89, 3) := by decide +kernel
theorem dX9_restore_43 : decode cX9_restore 43 = .ok (.aload_n 0, 1) := by decide +kernel
theorem dX9_restore_44 : decode cX9_restore 44 = .ok (.getfield 20, 3) := by decide +kernel
theorem dX9_restore_47 : decode cX9_restore 47 = .ok (.getfield 92, 3) := by decide +kernel
theorem dX9_restore_50 : decode cX9_restore 50 = .ok (.ireturn, 1) := by decide +kernel
set_option maxRecDepth 100000 in
set_option maxHeartbeats 4000000 in
theorem cX9_interlinec {l : Launch} {v0 : Option Nat} {v1 : Int32} {v2 : Int32} {σ : HpT} {o : Except Nat (Int32)} {σ' : HpT} {a b : Nat} (h : fX9_interline v0 v1 v2 σ = some (o, σ', a, b)) : IsK σ v0 9 ∧ Ct l yX9_interline cX9_interline 5 (some .int) 7 124 [va_rf v0, .int v1, .int v2] σ (oI o) σ' a b := by
  unfold fX9_interline at h
  replace h := bnP_s h
  obtain ⟨u, hk, h⟩ := h
  replace hk := isK_s hk
  refine ⟨hk, ?_⟩
  refine ct_start mi_X9_interline.1 rfl (al_le (al_1 (rf_cat _) (al_1 rfl (al_1 rfl al_n))) (Nat.le_of_ble_eq_true rfl)) (ag_1 (rf_cat _) (ag_1 rfl (ag_1 rfl ag_n))) (fun Δ Γ B hE hnm => ?_)
  have hka : 0 + a = a := Nat.zero_add a
  have hkb : 0 + b = b := Nat.zero_add b
  have hla : a ≤ a := Nat.le_refl a
  have hlb : b ≤ b := Nat.le_refl b
  refine g_aload_n B 0 dX9_interline_0 rfl rfl ?_
  replace h := bnXA_s h
  rcases h with ⟨e9, h2, e8, e7, e6, e5⟩ | ⟨x1, h2, h⟩
  · subst e8; subst e7; subst e6; subst e5
    exact g_callVx (st := []) B (cX9_requireBookc (o := .error e9) h2) (Nat.le_of_ble_eq_true rfl) rfl rfl mi_X9_requireBook lk_RX9_95 ⟨Nat.le_of_ble_eq_true rfl, Nat.le_of_ble_eq_true rfl⟩ rfl rfl (Nat.le_of_ble_eq_true rfl) dX9_interline_1 (Nat.le_trans (Nat.le_of_eq hka) hla) (Nat.le_trans (Nat.le_of_eq hkb) hlb) hE
  · skip
    refine g_callVv0 (st := []) B (cX9_requireBookc (o := .ok x1) h2) (Nat.le_of_ble_eq_true rfl) rfl rfl mi_X9_requireBook lk_RX9_95 ⟨Nat.le_of_ble_eq_true rfl, Nat.le_of_ble_eq_true rfl⟩ rfl rfl (Nat.le_of_ble_eq_true rfl) dX9_interline_1 (Nat.le_trans (bm hka) hla) (Nat.le_trans (bm hkb) hlb) ?_
    refine g_aload_n B 0 dX9_interline_4 rfl rfl ?_
    refine g_iload_n B 2 dX9_interline_5 rfl rfl ?_
    replace h := bnXA_s h
    rcases h with ⟨e9, h4, e8, e7, e6, e5⟩ | ⟨x3, h4, h⟩
    · subst e8; subst e7; subst e6; subst e5
      exact g_callVx (st := []) B (cX9_requireBytesc (o := .error e9) h4) (Nat.le_of_ble_eq_true rfl) rfl rfl mi_X9_requireBytes lk_RX9_66 ⟨Nat.le_of_ble_eq_true rfl, Nat.le_of_ble_eq_true rfl⟩ rfl rfl (Nat.le_of_ble_eq_true rfl) dX9_interline_6 (Nat.le_trans (Nat.le_of_eq hka) hla) (Nat.le_trans (Nat.le_of_eq hkb) hlb) hE
    · skip
      refine g_callVv0 (st := []) B (cX9_requireBytesc (o := .ok x3) h4) (Nat.le_of_ble_eq_true rfl) rfl rfl mi_X9_requireBytes lk_RX9_66 ⟨Nat.le_of_ble_eq_true rfl, Nat.le_of_ble_eq_true rfl⟩ rfl rfl (Nat.le_of_ble_eq_true rfl) dX9_interline_6 (Nat.le_trans (bm hka) hla) (Nat.le_trans (bm hkb) hlb) ?_
      refine g_aload_n B 0 dX9_interline_9 rfl rfl ?_
      refine g_iload_n B 2 dX9_interline_10 rfl rfl ?_
      replace h := bnP_s h
      obtain ⟨x5, h6, h⟩ := h
      refine g_callVs0 (st := []) B (cX9_inputWordc h6) (Nat.le_of_ble_eq_true rfl) rfl rfl mi_X9_inputWord lk_RX9_353 ⟨Nat.le_of_ble_eq_true rfl, Nat.le_of_ble_eq_true rfl⟩ rfl rfl (Nat.le_of_ble_eq_true rfl) dX9_interline_11 (Nat.le_trans (bm hka) hla) (Nat.le_trans (bm hkb) hlb) ?_
      refine g_lstore_n B dX9_interline_14 rfl (Nat.le_of_ble_eq_true rfl) (s2_c (f2_k rfl (f2_k rfl (f2_1 rfl rfl f2_n)))) ?_
      refine g_lload_n B 0 dX9_interline_15 rfl rfl ?_
      refine g_lconst (v := 0) B dX9_interline_16 (by decide) ?_
      refine g_lcmp B dX9_interline_17 ?_
      refine g_if_eq B 32 dX9_interline_18 (by decide) (fun hc => ?_) (fun hc => ?_)
      · replace h := ifp hc h
        obtain ⟨w1, w2, w3, w4⟩ := inA h
        clear h
        subst w1
        subst w2
        subst w3
        subst w4
        exact g_throwW B tw_RX9_78_82 (j := 27) rfl hE (by decide) (Nat.le_of_ble_eq_true rfl) dX9_interline_32 dX9_interline_35 dX9_interline_36 dX9_interline_39 dX9_interline_42 (Nat.le_trans (Nat.le_of_eq hka) hla) (Nat.le_trans (Nat.le_of_eq hkb) hlb)
      · replace h := ifn hc h
        refine g_aload_n B 1 dX9_interline_21 rfl rfl ?_
        replace h := bnP_s h
        obtain ⟨x7, h8, h⟩ := h
        refine g_getR B fl_RX9_20 (by decide) dX9_interline_22 h8 ?_
        refine g_iload_n B 2 dX9_interline_25 rfl rfl ?_
        replace h := bnP_s h
        obtain ⟨x9, h10, h⟩ := h
        refine g_callVs0 (st := []) B (cX1_canInsertc h10) (Nat.le_of_ble_eq_true rfl) rfl rfl mi_X1_canInsert lk_RX9_449 ⟨Nat.le_of_ble_eq_true rfl, Nat.le_of_ble_eq_true rfl⟩ rfl rfl (Nat.le_of_ble_eq_true rfl) dX9_interline_26 (Nat.le_trans (bm hka) hla) (Nat.le_trans (bm hkb) hlb) ?_
        refine g_if_ne B 43 dX9_interline_29 (by decide) (fun hc => ?_) (fun hc => ?_)
        · replace h := ifp (bI1 hc) h
          refine g_aload_n B 1 dX9_interline_43 rfl rfl ?_
          replace h := bnA_s h
          rcases h with ⟨e9, h12, e8⟩ | ⟨x11, s13, a14, b15, a16, b17, h12, h, ea, eb⟩
          · subst e8
            exact g_callVx (st := []) B (cX9_rememberc (o := .error e9) h12) (Nat.le_of_ble_eq_true rfl) rfl rfl mi_X9_remember lk_RX9_430 ⟨Nat.le_of_ble_eq_true rfl, Nat.le_of_ble_eq_true rfl⟩ rfl rfl (Nat.le_of_ble_eq_true rfl) dX9_interline_44 (Nat.le_trans (Nat.le_of_eq hka) hla) (Nat.le_trans (Nat.le_of_eq hkb) hlb) hE
          · subst ea; subst eb
            have hka := bk hka
            have hkb := bk hkb
            refine g_callVvA (st := []) B (cX9_rememberc (o := .ok x11) h12) (Nat.le_of_ble_eq_true rfl) rfl rfl mi_X9_remember lk_RX9_430 ⟨Nat.le_of_ble_eq_true rfl, Nat.le_of_ble_eq_true rfl⟩ rfl rfl (Nat.le_of_ble_eq_true rfl) dX9_interline_44 (Nat.le_trans (bm hka) hla) (Nat.le_trans (bm hkb) hlb) ?_
            refine g_aload_n B 1 dX9_interline_47 rfl rfl ?_
            refine g_iconst (v := 0) B dX9_interline_48 (by decide) ?_
            replace h := bnP_s h
            obtain ⟨s20, h19, h⟩ := h
            refine g_putI B fl_RX9_59 (by decide) dX9_interline_49 h19 ?_
            refine g_aload_n B 1 dX9_interline_52 rfl rfl ?_
            replace h := bnP_s h
            obtain ⟨x21, h22, h⟩ := h
            refine g_getR B fl_RX9_20 (by decide) dX9_interline_53 h22 ?_
            refine g_iload_n B 2 dX9_interline_56 rfl rfl ?_
            refine g_lload_n B 0 dX9_interline_57 rfl rfl ?_
            replace h := bnP_s h
            obtain ⟨s25, h24, h⟩ := h
            refine g_callVv0 (st := []) B (cX1_insertWordc h24) (Nat.le_of_ble_eq_true rfl) rfl rfl mi_X1_insertWord lk_RX9_454 ⟨Nat.le_of_ble_eq_true rfl, Nat.le_of_ble_eq_true rfl⟩ rfl rfl (Nat.le_of_ble_eq_true rfl) dX9_interline_58 (Nat.le_trans (bm hka) hla) (Nat.le_trans (bm hkb) hlb) ?_
            refine g_aload_n B 1 dX9_interline_61 rfl rfl ?_
            replace h := bnP_s h
            obtain ⟨x26, h27, h⟩ := h
            refine g_getR B fl_RX9_20 (by decide) dX9_interline_62 h27 ?_
            replace h := bnP_s h
            obtain ⟨x28, h29, h⟩ := h
            refine g_callVs0 (st := []) B (cX1_openStandingc h29) (Nat.le_of_ble_eq_true rfl) rfl rfl mi_X1_openStanding lk_RX9_345 ⟨Nat.le_of_ble_eq_true rfl, Nat.le_of_ble_eq_true rfl⟩ rfl rfl (Nat.le_of_ble_eq_true rfl) dX9_interline_65 (Nat.le_trans (bm hka) hla) (Nat.le_trans (bm hkb) hlb) ?_
            obtain ⟨w1, w2, w3, w4⟩ := inA h
            clear h
            subst w1
            subst w2
            subst w3
            subst w4
            exact g_iret B hE (Nat.le_trans (Nat.le_of_eq hka) hla) (Nat.le_trans (Nat.le_of_eq hkb) hlb) dX9_interline_68
        · replace h := ifn (bI0 hc) h
          obtain ⟨w1, w2, w3, w4⟩ := inA h
          clear h
          subst w1
          subst w2
          subst w3
          subst w4
          exact g_throwW B tw_RX9_78_82 (j := 27) rfl hE (by decide) (Nat.le_of_ble_eq_true rfl) dX9_interline_32 dX9_interline_35 dX9_interline_36 dX9_interline_39 dX9_interline_42 (Nat.le_trans (Nat.le_of_eq hka) hla) (Nat.le_trans (Nat.le_of_eq hkb) hlb)
set_option maxRecDepth 100000 in
set_option maxHeartbeats 4000000 in
theorem cX9_sealc {l : Launch} {v0 : Option Nat} {v1 : Int32} {v2 : Int32} {σ : HpT} {o : Except Nat (Int32)} {σ' : HpT} {a b : Nat} (h : fX9_seal v0 v1 v2 σ = some (o, σ', a, b)) : IsK σ v0 9 ∧ Ct l yX9_seal cX9_seal 3 (some .int) 7 124 [va_rf v0, .int v1, .int v2] σ (oI o) σ' a b := by
  unfold fX9_seal at h
  replace h := bnP_s h
  obtain ⟨u, hk, h⟩ := h
  replace hk := isK_s hk
  refine ⟨hk, ?_⟩
  refine ct_start mi_X9_seal.1 rfl (al_le (al_1 (rf_cat _) (al_1 rfl (al_1 rfl al_n))) (Nat.le_of_ble_eq_true rfl)) (ag_1 (rf_cat _) (ag_1 rfl (ag_1 rfl ag_n))) (fun Δ Γ B hE hnm => ?_)
  have hka : 0 + a = a := Nat.zero_add a
  have hkb : 0 + b = b := Nat.zero_add b
  have hla : a ≤ a := Nat.le_refl a
  have hlb : b ≤ b := Nat.le_refl b
  refine g_aload_n B 0 dX9_seal_0 rfl rfl ?_
  replace h := bnXA_s h
  rcases h with ⟨e9, h2, e8, e7, e6, e5⟩ | ⟨x1, h2, h⟩
  · subst e8; subst e7; subst e6; subst e5
    exact g_callVx (st := []) B (cX9_requireBookc (o := .error e9) h2) (Nat.le_of_ble_eq_true rfl) rfl rfl mi_X9_requireBook lk_RX9_95 ⟨Nat.le_of_ble_eq_true rfl, Nat.le_of_ble_eq_true rfl⟩ rfl rfl (Nat.le_of_ble_eq_true rfl) dX9_seal_1 (Nat.le_trans (Nat.le_of_eq hka) hla) (Nat.le_trans (Nat.le_of_eq hkb) hlb) hE
  · skip
    refine g_callVv0 (st := []) B (cX9_requireBookc (o := .ok x1) h2) (Nat.le_of_ble_eq_true rfl) rfl rfl mi_X9_requireBook lk_RX9_95 ⟨Nat.le_of_ble_eq_true rfl, Nat.le_of_ble_eq_true rfl⟩ rfl rfl (Nat.le_of_ble_eq_true rfl) dX9_seal_1 (Nat.le_trans (bm hka) hla) (Nat.le_trans (bm hkb) hlb) ?_
    refine g_iload_n B 1 dX9_seal_4 rfl rfl ?_
    refine g_bipush (v := 9) B dX9_seal_5 (by decide) ?_
    replace h := bnXA_s h
    rcases h with ⟨e9, h4, e8, e7, e6, e5⟩ | ⟨x3, h4, h⟩
    · subst e8; subst e7; subst e6; subst e5
      exact g_callSx (st := []) B (cX9_requireUpToc (o := .error e9) h4) mi_X9_requireUpTo lk_RX9_98 ⟨Nat.le_of_ble_eq_true rfl, Nat.le_of_ble_eq_true rfl⟩ rfl rfl (Nat.le_of_ble_eq_true rfl) dX9_seal_7 (Nat.le_trans (Nat.le_of_eq hka) hla) (Nat.le_trans (Nat.le_of_eq hkb) hlb) hE
    · skip
      refine g_callSv0 (st := []) B (cX9_requireUpToc (o := .ok x3) h4) mi_X9_requireUpTo lk_RX9_98 ⟨Nat.le_of_ble_eq_true rfl, Nat.le_of_ble_eq_true rfl⟩ rfl rfl (Nat.le_of_ble_eq_true rfl) dX9_seal_7 (Nat.le_trans (bm hka) hla) (Nat.le_trans (bm hkb) hlb) ?_
      refine g_iload_n B 2 dX9_seal_10 rfl rfl ?_
      refine g_bipush (v := 99) B dX9_seal_11 (by decide) ?_
      replace h := bnXA_s h
      rcases h with ⟨e9, h6, e8, e7, e6, e5⟩ | ⟨x5, h6, h⟩
      · subst e8; subst e7; subst e6; subst e5
        exact g_callSx (st := []) B (cX9_requireUpToc (o := .error e9) h6) mi_X9_requireUpTo lk_RX9_98 ⟨Nat.le_of_ble_eq_true rfl, Nat.le_of_ble_eq_true rfl⟩ rfl rfl (Nat.le_of_ble_eq_true rfl) dX9_seal_13 (Nat.le_trans (Nat.le_of_eq hka) hla) (Nat.le_trans (Nat.le_of_eq hkb) hlb) hE
      · skip
        refine g_callSv0 (st := []) B (cX9_requireUpToc (o := .ok x5) h6) mi_X9_requireUpTo lk_RX9_98 ⟨Nat.le_of_ble_eq_true rfl, Nat.le_of_ble_eq_true rfl⟩ rfl rfl (Nat.le_of_ble_eq_true rfl) dX9_seal_13 (Nat.le_trans (bm hka) hla) (Nat.le_trans (bm hkb) hlb) ?_
        refine g_aload_n B 0 dX9_seal_16 rfl rfl ?_
        replace h := bnP_s h
        obtain ⟨x7, h8, h⟩ := h
        refine g_getR B fl_RX9_20 (by decide) dX9_seal_17 h8 ?_
        refine g_iload_n B 1 dX9_seal_20 rfl rfl ?_
        refine g_iload_n B 2 dX9_seal_21 rfl rfl ?_
        replace h := bnP_s h
        obtain ⟨x9, h10, h⟩ := h
        refine g_callVs0 (st := []) B (cX1_sealReasonc h10) (Nat.le_of_ble_eq_true rfl) rfl rfl mi_X1_sealReason lk_RX9_310 ⟨Nat.le_of_ble_eq_true rfl, Nat.le_of_ble_eq_true rfl⟩ rfl rfl (Nat.le_of_ble_eq_true rfl) dX9_seal_22 (Nat.le_trans (bm hka) hla) (Nat.le_trans (bm hkb) hlb) ?_
        refine g_if_eq B 39 dX9_seal_25 (by decide) (fun hc => ?_) (fun hc => ?_)
        · replace h := ifp hc h
          refine g_aload_n B 0 dX9_seal_39 rfl rfl ?_
          replace h := bnA_s h
          rcases h with ⟨e9, h12, e8⟩ | ⟨x11, s13, a14, b15, a16, b17, h12, h, ea, eb⟩
          · subst e8
            exact g_callVx (st := []) B (cX9_rememberc (o := .error e9) h12) (Nat.le_of_ble_eq_true rfl) rfl rfl mi_X9_remember lk_RX9_430 ⟨Nat.le_of_ble_eq_true rfl, Nat.le_of_ble_eq_true rfl⟩ rfl rfl (Nat.le_of_ble_eq_true rfl) dX9_seal_40 (Nat.le_trans (Nat.le_of_eq hka) hla) (Nat.le_trans (Nat.le_of_eq hkb) hlb) hE
          · subst ea; subst eb
            have hka := bk hka
            have hkb := bk hkb
            refine g_callVvA (st := []) B (cX9_rememberc (o := .ok x11) h12) (Nat.le_of_ble_eq_true rfl) rfl rfl mi_X9_remember lk_RX9_430 ⟨Nat.le_of_ble_eq_true rfl, Nat.le_of_ble_eq_true rfl⟩ rfl rfl (Nat.le_of_ble_eq_true rfl) dX9_seal_40 (Nat.le_trans (bm hka) hla) (Nat.le_trans (bm hkb) hlb) ?_
            refine g_aload_n B 0 dX9_seal_43 rfl rfl ?_
            replace h := bnP_s h
            obtain ⟨x18, h19, h⟩ := h
            refine g_getR B fl_RX9_20 (by decide) dX9_seal_44 h19 ?_
            refine g_iload_n B 1 dX9_seal_47 rfl rfl ?_
            replace h := bnS_s h
            obtain ⟨x20, s22, h21, h⟩ := h
            refine g_callVs0 (st := []) B (cX1_sealOpenc h21) (Nat.le_of_ble_eq_true rfl) rfl rfl mi_X1_sealOpen lk_RX9_459 ⟨Nat.le_of_ble_eq_true rfl, Nat.le_of_ble_eq_true rfl⟩ rfl rfl (Nat.le_of_ble_eq_true rfl) dX9_seal_48 (Nat.le_trans (bm hka) hla) (Nat.le_trans (bm hkb) hlb) ?_
            obtain ⟨w1, w2, w3, w4⟩ := inA h
            clear h
            subst w1
            subst w2
            subst w3
            subst w4
            exact g_iret B hE (Nat.le_trans (Nat.le_of_eq hka) hla) (Nat.le_trans (Nat.le_of_eq hkb) hlb) dX9_seal_51
        · replace h := ifn hc h
          obtain ⟨w1, w2, w3, w4⟩ := inA h
          clear h
          subst w1
          subst w2
          subst w3
          subst w4
          exact g_throwW B tw_RX9_78_82 (j := 28) rfl hE (by decide) (Nat.le_of_ble_eq_true rfl) dX9_seal_28 dX9_seal_31 dX9_seal_32 dX9_seal_35 dX9_seal_38 (Nat.le_trans (Nat.le_of_eq hka) hla) (Nat.le_trans (Nat.le_of_eq hkb) hlb)
set_option maxRecDepth 100000 in
set_option maxHeartbeats 4000000 in
theorem cX9_cancelc {l : Launch} {v0 : Option Nat} {σ : HpT} {o : Except Nat (Int32)} {σ' : HpT} {a b : Nat} (h : fX9_cancel v0 σ = some (o, σ', a, b)) : IsK σ v0 9 ∧ Ct l yX9_cancel cX9_cancel 1 (some .int) 7 124 [va_rf v0] σ (oI o) σ' a b := by
  unfold fX9_cancel at h
  replace h := bnP_s h
  obtain ⟨u, hk, h⟩ := h
  replace hk := isK_s hk
  refine ⟨hk, ?_⟩
  refine ct_start mi_X9_cancel.1 rfl (al_le (al_1 (rf_cat _) al_n) (Nat.le_of_ble_eq_true rfl)) (ag_1 (rf_cat _) ag_n) (fun Δ Γ B hE hnm => ?_)
  have hka : 0 + a = a := Nat.zero_add a
  have hkb : 0 + b = b := Nat.zero_add b
  have hla : a ≤ a := Nat.le_refl a
  have hlb : b ≤ b := Nat.le_refl b
  refine g_aload_n B 0 dX9_cancel_0 rfl rfl ?_
  replace h := bnXA_s h
  rcases h with ⟨e9, h2, e8, e7, e6, e5⟩ | ⟨x1, h2, h⟩
  · subst e8; subst e7; subst e6; subst e5
    exact g_callVx (st := []) B (cX9_requireBookc (o := .error e9) h2) (Nat.le_of_ble_eq_true rfl) rfl rfl mi_X9_requireBook lk_RX9_95 ⟨Nat.le_of_ble_eq_true rfl, Nat.le_of_ble_eq_true rfl⟩ rfl rfl (Nat.le_of_ble_eq_true rfl) dX9_cancel_1 (Nat.le_trans (Nat.le_of_eq hka) hla) (Nat.le_trans (Nat.le_of_eq hkb) hlb) hE
  · skip
    refine g_callVv0 (st := []) B (cX9_requireBookc (o := .ok x1) h2) (Nat.le_of_ble_eq_true rfl) rfl rfl mi_X9_requireBook lk_RX9_95 ⟨Nat.le_of_ble_eq_true rfl, Nat.le_of_ble_eq_true rfl⟩ rfl rfl (Nat.le_of_ble_eq_true rfl) dX9_cancel_1 (Nat.le_trans (bm hka) hla) (Nat.le_trans (bm hkb) hlb) ?_
    refine g_aload_n B 0 dX9_cancel_4 rfl rfl ?_
    replace h := bnP_s h
    obtain ⟨x3, h4, h⟩ := h
    refine g_getR B fl_RX9_20 (by decide) dX9_cancel_5 h4 ?_
    replace h := bnP_s h
    obtain ⟨x5, h6, h⟩ := h
    refine g_callVs0 (st := []) B (cX1_openActc h6) (Nat.le_of_ble_eq_true rfl) rfl rfl mi_X1_openAct lk_RX9_419 ⟨Nat.le_of_ble_eq_true rfl, Nat.le_of_ble_eq_true rfl⟩ rfl rfl (Nat.le_of_ble_eq_true rfl) dX9_cancel_8 (Nat.le_trans (bm hka) hla) (Nat.le_trans (bm hkb) hlb) ?_
    refine g_ifnonnull B 25 dX9_cancel_11 (by decide) (fun hc => ?_) (fun hc => ?_)
    · replace h := ifn hc h
      refine g_aload_n B 0 dX9_cancel_25 rfl rfl ?_
      replace h := bnA_s h
      rcases h with ⟨e9, h8, e8⟩ | ⟨x7, s9, a10, b11, a12, b13, h8, h, ea, eb⟩
      · subst e8
        exact g_callVx (st := []) B (cX9_rememberc (o := .error e9) h8) (Nat.le_of_ble_eq_true rfl) rfl rfl mi_X9_remember lk_RX9_430 ⟨Nat.le_of_ble_eq_true rfl, Nat.le_of_ble_eq_true rfl⟩ rfl rfl (Nat.le_of_ble_eq_true rfl) dX9_cancel_26 (Nat.le_trans (Nat.le_of_eq hka) hla) (Nat.le_trans (Nat.le_of_eq hkb) hlb) hE
      · subst ea; subst eb
        have hka := bk hka
        have hkb := bk hkb
        refine g_callVvA (st := []) B (cX9_rememberc (o := .ok x7) h8) (Nat.le_of_ble_eq_true rfl) rfl rfl mi_X9_remember lk_RX9_430 ⟨Nat.le_of_ble_eq_true rfl, Nat.le_of_ble_eq_true rfl⟩ rfl rfl (Nat.le_of_ble_eq_true rfl) dX9_cancel_26 (Nat.le_trans (bm hka) hla) (Nat.le_trans (bm hkb) hlb) ?_
        refine g_aload_n B 0 dX9_cancel_29 rfl rfl ?_
        replace h := bnP_s h
        obtain ⟨x14, h15, h⟩ := h
        refine g_getR B fl_RX9_20 (by decide) dX9_cancel_30 h15 ?_
        replace h := bnP_s h
        obtain ⟨s18, h17, h⟩ := h
        refine g_callVv0 (st := []) B (cX1_cancelOpenc h17) (Nat.le_of_ble_eq_true rfl) rfl rfl mi_X1_cancelOpen lk_RX9_464 ⟨Nat.le_of_ble_eq_true rfl, Nat.le_of_ble_eq_true rfl⟩ rfl rfl (Nat.le_of_ble_eq_true rfl) dX9_cancel_33 (Nat.le_trans (bm hka) hla) (Nat.le_trans (bm hkb) hlb) ?_
        refine g_aload_n B 0 dX9_cancel_36 rfl rfl ?_
        replace h := bnP_s h
        obtain ⟨x19, h20, h⟩ := h
        refine g_getR B fl_RX9_20 (by decide) dX9_cancel_37 h20 ?_
        replace h := bnP_s h
        obtain ⟨x21, h22, h⟩ := h
        refine g_getI B fl_RX9_92 (by decide) dX9_cancel_40 h22 ?_
        obtain ⟨w1, w2, w3, w4⟩ := inA h
        clear h
        subst w1
        subst w2
        subst w3
        subst w4
        exact g_iret B hE (Nat.le_trans (Nat.le_of_eq hka) hla) (Nat.le_trans (Nat.le_of_eq hkb) hlb) dX9_cancel_43
    · replace h := ifp hc h
      obtain ⟨w1, w2, w3, w4⟩ := inA h
      clear h
      subst w1
      subst w2
      subst w3
      subst w4
      exact g_throwW B tw_RX9_78_82 (j := 29) rfl hE (by decide) (Nat.le_of_ble_eq_true rfl) dX9_cancel_14 dX9_cancel_17 dX9_cancel_18 dX9_cancel_21 dX9_cancel_24 (Nat.le_trans (Nat.le_of_eq hka) hla) (Nat.le_trans (Nat.le_of_eq hkb) hlb)
set_option maxRecDepth 100000 in
set_option maxHeartbeats 4000000 in
theorem cX9_addCopyc {l : Launch} {v0 : Option Nat} {v1 : Int32} {v2 : Int32} {σ : HpT} {o : Except Nat (Int32)} {σ' : HpT} {a b : Nat} (h : fX9_addCopy v0 v1 v2 σ = some (o, σ', a, b)) : IsK σ v0 9 ∧ Ct l yX9_addCopy cX9_addCopy 3 (some .int) 7 124 [va_rf v0, .int v1, .int v2] σ (oI o) σ' a b := by
  unfold fX9_addCopy at h
  replace h := bnP_s h
  obtain ⟨u, hk, h⟩ := h
  replace hk := isK_s hk
  refine ⟨hk, ?_⟩
  refine ct_start mi_X9_addCopy.1 rfl (al_le (al_1 (rf_cat _) (al_1 rfl (al_1 rfl al_n))) (Nat.le_of_ble_eq_true rfl)) (ag_1 (rf_cat _) (ag_1 rfl (ag_1 rfl ag_n))) (fun Δ Γ B hE hnm => ?_)
  have hka : 0 + a = a := Nat.zero_add a
  have hkb : 0 + b = b := Nat.zero_add b
  have hla : a ≤ a := Nat.le_refl a
  have hlb : b ≤ b := Nat.le_refl b
  refine g_aload_n B 0 dX9_addCopy_0 rfl rfl ?_
  replace h := bnXA_s h
  rcases h with ⟨e9, h2, e8, e7, e6, e5⟩ | ⟨x1, h2, h⟩
  · subst e8; subst e7; subst e6; subst e5
    exact g_callVx (st := []) B (cX9_requireBookc (o := .error e9) h2) (Nat.le_of_ble_eq_true rfl) rfl rfl mi_X9_requireBook lk_RX9_95 ⟨Nat.le_of_ble_eq_true rfl, Nat.le_of_ble_eq_true rfl⟩ rfl rfl (Nat.le_of_ble_eq_true rfl) dX9_addCopy_1 (Nat.le_trans (Nat.le_of_eq hka) hla) (Nat.le_trans (Nat.le_of_eq hkb) hlb) hE
  · skip
    refine g_callVv0 (st := []) B (cX9_requireBookc (o := .ok x1) h2) (Nat.le_of_ble_eq_true rfl) rfl rfl mi_X9_requireBook lk_RX9_95 ⟨Nat.le_of_ble_eq_true rfl, Nat.le_of_ble_eq_true rfl⟩ rfl rfl (Nat.le_of_ble_eq_true rfl) dX9_addCopy_1 (Nat.le_trans (bm hka) hla) (Nat.le_trans (bm hkb) hlb) ?_
    refine g_aload_n B 0 dX9_addCopy_4 rfl rfl ?_
    refine g_iload_n B 1 dX9_addCopy_5 rfl rfl ?_
    replace h := bnXA_s h
    rcases h with ⟨e9, h4, e8, e7, e6, e5⟩ | ⟨x3, h4, h⟩
    · subst e8; subst e7; subst e6; subst e5
      exact g_callVx (st := []) B (cX9_requireActc (o := .error e9) h4) (Nat.le_of_ble_eq_true rfl) rfl rfl mi_X9_requireAct lk_RX9_153 ⟨Nat.le_of_ble_eq_true rfl, Nat.le_of_ble_eq_true rfl⟩ rfl rfl (Nat.le_of_ble_eq_true rfl) dX9_addCopy_6 (Nat.le_trans (Nat.le_of_eq hka) hla) (Nat.le_trans (Nat.le_of_eq hkb) hlb) hE
    · skip
      refine g_callVs0 (st := []) B (cX9_requireActc (o := .ok x3) h4) (Nat.le_of_ble_eq_true rfl) rfl rfl mi_X9_requireAct lk_RX9_153 ⟨Nat.le_of_ble_eq_true rfl, Nat.le_of_ble_eq_true rfl⟩ rfl rfl (Nat.le_of_ble_eq_true rfl) dX9_addCopy_6 (Nat.le_trans (bm hka) hla) (Nat.le_trans (bm hkb) hlb) ?_
      refine g_pop B dX9_addCopy_9 (rf_cat _) ?_
      refine g_iload_n B 2 dX9_addCopy_10 rfl rfl ?_
      refine g_iconst (v := 2) B dX9_addCopy_11 (by decide) ?_
      replace h := bnXA_s h
      rcases h with ⟨e9, h6, e8, e7, e6, e5⟩ | ⟨x5, h6, h⟩
      · subst e8; subst e7; subst e6; subst e5
        exact g_callSx (st := []) B (cX9_requireUpToc (o := .error e9) h6) mi_X9_requireUpTo lk_RX9_98 ⟨Nat.le_of_ble_eq_true rfl, Nat.le_of_ble_eq_true rfl⟩ rfl rfl (Nat.le_of_ble_eq_true rfl) dX9_addCopy_12 (Nat.le_trans (Nat.le_of_eq hka) hla) (Nat.le_trans (Nat.le_of_eq hkb) hlb) hE
      · skip
        refine g_callSv0 (st := []) B (cX9_requireUpToc (o := .ok x5) h6) mi_X9_requireUpTo lk_RX9_98 ⟨Nat.le_of_ble_eq_true rfl, Nat.le_of_ble_eq_true rfl⟩ rfl rfl (Nat.le_of_ble_eq_true rfl) dX9_addCopy_12 (Nat.le_trans (bm hka) hla) (Nat.le_trans (bm hkb) hlb) ?_
        refine g_aload_n B 0 dX9_addCopy_15 rfl rfl ?_
        replace h := bnP_s h
        obtain ⟨x7, h8, h⟩ := h
        refine g_getR B fl_RX9_20 (by decide) dX9_addCopy_16 h8 ?_
        refine g_iload_n B 1 dX9_addCopy_19 rfl rfl ?_
        refine g_iload_n B 2 dX9_addCopy_20 rfl rfl ?_
        replace h := bnS_s h
        obtain ⟨x9, s11, h10, h⟩ := h
        refine g_callVs0 (st := []) B (cX1_copyReasonc h10) (Nat.le_of_ble_eq_true rfl) rfl rfl mi_X1_copyReason lk_RX9_313 ⟨Nat.le_of_ble_eq_true rfl, Nat.le_of_ble_eq_true rfl⟩ rfl rfl (Nat.le_of_ble_eq_true rfl) dX9_addCopy_21 (Nat.le_trans (bm hka) hla) (Nat.le_trans (bm hkb) hlb) ?_
        refine g_if_eq B 38 dX9_addCopy_24 (by decide) (fun hc => ?_) (fun hc => ?_)
        · replace h := ifp hc h
          refine g_aload_n B 0 dX9_addCopy_38 rfl rfl ?_
          replace h := bnA_s h
          rcases h with ⟨e9, h13, e8⟩ | ⟨x12, s14, a15, b16, a17, b18, h13, h, ea, eb⟩
          · subst e8
            exact g_callVx (st := []) B (cX9_rememberc (o := .error e9) h13) (Nat.le_of_ble_eq_true rfl) rfl rfl mi_X9_remember lk_RX9_430 ⟨Nat.le_of_ble_eq_true rfl, Nat.le_of_ble_eq_true rfl⟩ rfl rfl (Nat.le_of_ble_eq_true rfl) dX9_addCopy_39 (Nat.le_trans (Nat.le_of_eq hka) hla) (Nat.le_trans (Nat.le_of_eq hkb) hlb) hE
          · subst ea; subst eb
            have hka := bk hka
            have hkb := bk hkb
            refine g_callVvA (st := []) B (cX9_rememberc (o := .ok x12) h13) (Nat.le_of_ble_eq_true rfl) rfl rfl mi_X9_remember lk_RX9_430 ⟨Nat.le_of_ble_eq_true rfl, Nat.le_of_ble_eq_true rfl⟩ rfl rfl (Nat.le_of_ble_eq_true rfl) dX9_addCopy_39 (Nat.le_trans (bm hka) hla) (Nat.le_trans (bm hkb) hlb) ?_
            refine g_aload_n B 0 dX9_addCopy_42 rfl rfl ?_
            replace h := bnP_s h
            obtain ⟨x19, h20, h⟩ := h
            refine g_getR B fl_RX9_20 (by decide) dX9_addCopy_43 h20 ?_
            refine g_iload_n B 1 dX9_addCopy_46 rfl rfl ?_
            refine g_iload_n B 2 dX9_addCopy_47 rfl rfl ?_
            replace h := bnP_s h
            obtain ⟨s23, h22, h⟩ := h
            refine g_callVv0 (st := []) B (cX1_makeCopyc h22) (Nat.le_of_ble_eq_true rfl) rfl rfl mi_X1_makeCopy lk_RX9_469 ⟨Nat.le_of_ble_eq_true rfl, Nat.le_of_ble_eq_true rfl⟩ rfl rfl (Nat.le_of_ble_eq_true rfl) dX9_addCopy_48 (Nat.le_trans (bm hka) hla) (Nat.le_trans (bm hkb) hlb) ?_
            refine g_aload_n B 0 dX9_addCopy_51 rfl rfl ?_
            replace h := bnP_s h
            obtain ⟨x24, h25, h⟩ := h
            refine g_getR B fl_RX9_20 (by decide) dX9_addCopy_52 h25 ?_
            replace h := bnP_s h
            obtain ⟨x26, h27, h⟩ := h
            refine g_getI B fl_RX9_128 (by decide) dX9_addCopy_55 h27 ?_
            refine g_iconst (v := 1) B dX9_addCopy_58 (by decide) ?_
            refine g_isub B dX9_addCopy_59 ?_
            obtain ⟨w1, w2, w3, w4⟩ := inA h
            clear h
            subst w1
            subst w2
            subst w3
            subst w4
            exact g_iret B hE (Nat.le_trans (Nat.le_of_eq hka) hla) (Nat.le_trans (Nat.le_of_eq hkb) hlb) dX9_addCopy_60
        · replace h := ifn hc h
          obtain ⟨w1, w2, w3, w4⟩ := inA h
          clear h
          subst w1
          subst w2
          subst w3
          subst w4
          exact g_throwW B tw_RX9_78_82 (j := 30) rfl hE (by decide) (Nat.le_of_ble_eq_true rfl) dX9_addCopy_27 dX9_addCopy_30 dX9_addCopy_31 dX9_addCopy_34 dX9_addCopy_37 (Nat.le_trans (Nat.le_of_eq hka) hla) (Nat.le_trans (Nat.le_of_eq hkb) hlb)
set_option maxRecDepth 100000 in
set_option maxHeartbeats 4000000 in
theorem cX9_requireLeafAtc {l : Launch} {v0 : Option Nat} {v1 : Int32} {v2 : Int32} {σ : HpT} {o : Except Nat (Unit)} (h : fX9_requireLeafAt v0 v1 v2 σ = some o) : IsK σ v0 9 ∧ Ct l yX9_requireLeafAt cX9_requireLeafAt 3 none 7 111 [va_rf v0, .int v1, .int v2] σ (oU o) σ (xc o) (xs o) := by
  unfold fX9_requireLeafAt at h
  replace h := bnP_s h
  obtain ⟨u, hk, h⟩ := h
  replace hk := isK_s hk
  refine ⟨hk, ?_⟩
  refine ct_start mi_X9_requireLeafAt.1 rfl (al_le (al_1 (rf_cat _) (al_1 rfl (al_1 rfl al_n))) (Nat.le_of_ble_eq_true rfl)) (ag_1 (rf_cat _) (ag_1 rfl (ag_1 rfl ag_n))) (fun Δ Γ B hE hnm => ?_)
  refine g_aload_n B 0 dX9_requireLeafAt_0 rfl rfl ?_
  refine g_iload_n B 1 dX9_requireLeafAt_1 rfl rfl ?_
  replace h := bnX_s h
  rcases h with ⟨e9, h2, e8⟩ | ⟨x1, h2, h⟩
  · subst e8
    exact g_callVx (st := []) B (cX9_requireLeafc (o := .error e9) h2) (Nat.le_of_ble_eq_true rfl) rfl rfl mi_X9_requireLeaf lk_RX9_254 ⟨Nat.le_of_ble_eq_true rfl, Nat.le_of_ble_eq_true rfl⟩ rfl rfl (Nat.le_of_ble_eq_true rfl) dX9_requireLeafAt_2 (Nat.le_of_eq rfl) (Nat.le_of_eq rfl) hE
  · skip
    refine g_callVv0 (st := []) B (cX9_requireLeafc (o := .ok x1) h2) (Nat.le_of_ble_eq_true rfl) rfl rfl mi_X9_requireLeaf lk_RX9_254 ⟨Nat.le_of_ble_eq_true rfl, Nat.le_of_ble_eq_true rfl⟩ rfl rfl (Nat.le_of_ble_eq_true rfl) dX9_requireLeafAt_2 (Nat.zero_le _) (Nat.zero_le _) ?_
    refine g_iload_n B 2 dX9_requireLeafAt_5 rfl rfl ?_
    refine g_if_ne B 20 dX9_requireLeafAt_6 (by decide) (fun hc => ?_) (fun hc => ?_)
    · replace h := ifn hc h
      replace h := Option.some.inj h
      subst h
      exact g_vret B hE (Nat.zero_le _) (Nat.zero_le _) dX9_requireLeafAt_20
    · replace h := ifp hc h
      replace h := Option.some.inj h
      subst h
      exact g_throwW B tw_RX9_78_82 (j := 31) rfl hE (by decide) (Nat.le_of_ble_eq_true rfl) dX9_requireLeafAt_9 dX9_requireLeafAt_12 dX9_requireLeafAt_13 dX9_requireLeafAt_16 dX9_requireLeafAt_19 (Nat.le_refl 1) (Nat.le_refl 6)
set_option maxRecDepth 100000 in
set_option maxHeartbeats 4000000 in
theorem cX9_losec {l : Launch} {v0 : Option Nat} {v1 : Int32} {σ : HpT} {o : Except Nat (Int32)} {σ' : HpT} {a b : Nat} (h : fX9_lose v0 v1 σ = some (o, σ', a, b)) : IsK σ v0 9 ∧ Ct l yX9_lose cX9_lose 3 (some .int) 8 133 [va_rf v0, .int v1] σ (oI o) σ' a b := by
  unfold fX9_lose at h
  replace h := bnP_s h
  obtain ⟨u, hk, h⟩ := h
  replace hk := isK_s hk
  refine ⟨hk, ?_⟩
  refine ct_start mi_X9_lose.1 rfl (al_le (al_1 (rf_cat _) (al_1 rfl al_n)) (Nat.le_of_ble_eq_true rfl)) (ag_1 (rf_cat _) (ag_1 rfl ag_n)) (fun Δ Γ B hE hnm => ?_)
  have hka : 0 + a = a := Nat.zero_add a
  have hkb : 0 + b = b := Nat.zero_add b
  have hla : a ≤ a := Nat.le_refl a
  have hlb : b ≤ b := Nat.le_refl b
  refine g_aload_n B 0 dX9_lose_0 rfl rfl ?_
  replace h := bnXA_s h
  rcases h with ⟨e9, h2, e8, e7, e6, e5⟩ | ⟨x1, h2, h⟩
  · subst e8; subst e7; subst e6; subst e5
    exact g_callVx (st := []) B (cX9_requireBookc (o := .error e9) h2) (Nat.le_of_ble_eq_true rfl) rfl rfl mi_X9_requireBook lk_RX9_95 ⟨Nat.le_of_ble_eq_true rfl, Nat.le_of_ble_eq_true rfl⟩ rfl rfl (Nat.le_of_ble_eq_true rfl) dX9_lose_1 (Nat.le_trans (Nat.le_of_eq hka) hla) (Nat.le_trans (Nat.le_of_eq hkb) hlb) hE
  · skip
    refine g_callVv0 (st := []) B (cX9_requireBookc (o := .ok x1) h2) (Nat.le_of_ble_eq_true rfl) rfl rfl mi_X9_requireBook lk_RX9_95 ⟨Nat.le_of_ble_eq_true rfl, Nat.le_of_ble_eq_true rfl⟩ rfl rfl (Nat.le_of_ble_eq_true rfl) dX9_lose_1 (Nat.le_trans (bm hka) hla) (Nat.le_trans (bm hkb) hlb) ?_
    refine g_aload_n B 0 dX9_lose_4 rfl rfl ?_
    refine g_iload_n B 1 dX9_lose_5 rfl rfl ?_
    refine g_aload_n B 0 dX9_lose_6 rfl rfl ?_
    replace h := bnP_s h
    obtain ⟨x3, h4, h⟩ := h
    refine g_getR B fl_RX9_20 (by decide) dX9_lose_7 h4 ?_
    replace h := bnP_s h
    obtain ⟨x5, h6, h⟩ := h
    refine g_getRg B fl_RX9_108 (by decide) dX9_lose_10 h6 ?_
    refine g_iload_n B 1 dX9_lose_13 rfl rfl ?_
    replace h := bnP_s h
    obtain ⟨x7, h8, h⟩ := h
    refine g_callVs0 (st := [.int v1, va_rf v0]) B (cX4_isLostc h8) (Nat.le_of_ble_eq_true rfl) rfl rfl mi_X4_isLost lk_RX9_403 ⟨Nat.le_of_ble_eq_true rfl, Nat.le_of_ble_eq_true rfl⟩ rfl rfl (Nat.le_of_ble_eq_true rfl) dX9_lose_14 (Nat.le_trans (bm hka) hla) (Nat.le_trans (bm hkb) hlb) ?_
    replace h := bnP_s h
    obtain ⟨j9, h10, h⟩ := h
    have k12 : GW Δ Γ (0) (0) 25 [(0, va_rf v0), (1, .int v1)] [.int j9.2.2, .int j9.2.1, va_rf j9.1] σ := by
      replace h := bnXA_s h
      rcases h with ⟨e9, h15, e8, e7, e6, e5⟩ | ⟨x14, h15, h⟩
      · subst e8; subst e7; subst e6; subst e5
        exact g_callVx (st := []) B (cX9_requireLeafAtc (o := .error e9) h15) (Nat.le_of_ble_eq_true rfl) rfl rfl mi_X9_requireLeafAt lk_RX9_475 ⟨Nat.le_of_ble_eq_true rfl, Nat.le_of_ble_eq_true rfl⟩ rfl rfl (Nat.le_of_ble_eq_true rfl) dX9_lose_25 (Nat.le_trans (Nat.le_of_eq hka) hla) (Nat.le_trans (Nat.le_of_eq hkb) hlb) hE
      · skip
        refine g_callVv0 (st := []) B (cX9_requireLeafAtc (o := .ok x14) h15) (Nat.le_of_ble_eq_true rfl) rfl rfl mi_X9_requireLeafAt lk_RX9_475 ⟨Nat.le_of_ble_eq_true rfl, Nat.le_of_ble_eq_true rfl⟩ rfl rfl (Nat.le_of_ble_eq_true rfl) dX9_lose_25 (Nat.le_trans (bm hka) hla) (Nat.le_trans (bm hkb) hlb) ?_
        refine g_aload_n B 0 dX9_lose_28 rfl rfl ?_
        replace h := bnA_s h
        rcases h with ⟨e9, h17, e8⟩ | ⟨x16, s18, a19, b20, a21, b22, h17, h, ea, eb⟩
        · subst e8
          exact g_callVx (st := []) B (cX9_rememberc (o := .error e9) h17) (Nat.le_of_ble_eq_true rfl) rfl rfl mi_X9_remember lk_RX9_430 ⟨Nat.le_of_ble_eq_true rfl, Nat.le_of_ble_eq_true rfl⟩ rfl rfl (Nat.le_of_ble_eq_true rfl) dX9_lose_29 (Nat.le_trans (Nat.le_of_eq hka) hla) (Nat.le_trans (Nat.le_of_eq hkb) hlb) hE
        · subst ea; subst eb
          have hka := bk hka
          have hkb := bk hkb
          refine g_callVvA (st := []) B (cX9_rememberc (o := .ok x16) h17) (Nat.le_of_ble_eq_true rfl) rfl rfl mi_X9_remember lk_RX9_430 ⟨Nat.le_of_ble_eq_true rfl, Nat.le_of_ble_eq_true rfl⟩ rfl rfl (Nat.le_of_ble_eq_true rfl) dX9_lose_29 (Nat.le_trans (bm hka) hla) (Nat.le_trans (bm hkb) hlb) ?_
          refine g_aload_n B 0 dX9_lose_32 rfl rfl ?_
          replace h := bnP_s h
          obtain ⟨x23, h24, h⟩ := h
          refine g_getR B fl_RX9_20 (by decide) dX9_lose_33 h24 ?_
          refine g_iload_n B 1 dX9_lose_36 rfl rfl ?_
          replace h := bnP_s h
          obtain ⟨x25, h26, h⟩ := h
          refine g_callVs0 (st := []) B (cX1_wouldBeUnknownc h26) (Nat.le_of_ble_eq_true rfl) rfl rfl mi_X1_wouldBeUnknown lk_RX9_319 ⟨Nat.le_of_ble_eq_true rfl, Nat.le_of_ble_eq_true rfl⟩ rfl rfl (Nat.le_of_ble_eq_true rfl) dX9_lose_37 (Nat.le_trans (bm hka) hla) (Nat.le_trans (bm hkb) hlb) ?_
          refine g_istore_n B dX9_lose_40 rfl (Nat.le_of_ble_eq_true rfl) (s1_c (f1_k rfl (f1_1 rfl rfl f1_n))) ?_
          refine g_aload_n B 1 dX9_lose_41 rfl rfl ?_
          replace h := bnP_s h
          obtain ⟨x27, h28, h⟩ := h
          refine g_getR B fl_RX9_20 (by decide) dX9_lose_42 h28 ?_
          replace h := bnP_s h
          obtain ⟨x29, h30, h⟩ := h
          refine g_getRg B fl_RX9_108 (by decide) dX9_lose_45 h30 ?_
          refine g_iload_n B 2 dX9_lose_48 rfl rfl ?_
          replace h := bnP_s h
          obtain ⟨s33, h32, h⟩ := h
          refine g_callVv0 (st := []) B (cX4_dropc h32) (Nat.le_of_ble_eq_true rfl) rfl rfl mi_X4_drop lk_RX9_479 ⟨Nat.le_of_ble_eq_true rfl, Nat.le_of_ble_eq_true rfl⟩ rfl rfl (Nat.le_of_ble_eq_true rfl) dX9_lose_49 (Nat.le_trans (bm hka) hla) (Nat.le_trans (bm hkb) hlb) ?_
          refine g_iload_n B 0 dX9_lose_52 rfl rfl ?_
          obtain ⟨w1, w2, w3, w4⟩ := inA h
          clear h
          subst w1
          subst w2
          subst w3
          subst w4
          exact g_iret B hE (Nat.le_trans (Nat.le_of_eq hka) hla) (Nat.le_trans (Nat.le_of_eq hkb) hlb) dX9_lose_53
    clear h
    have h := h10
    clear h10
    refine g_if_ne B 24 dX9_lose_17 (by decide) (fun hc => ?_) (fun hc => ?_)
    · replace h := ifp (bI1 hc) h
      refine g_iconst (v := 0) B dX9_lose_24 (by decide) ?_
      replace h := Option.some.inj h
      subst h
      exact g_sub [0, 1] rfl k12
    · replace h := ifn (bI0 hc) h
      refine g_iconst (v := 1) B dX9_lose_20 (by decide) ?_
      refine g_goto B 25 dX9_lose_21 (by decide) ?_
      replace h := Option.some.inj h
      subst h
      exact g_sub [0, 1] rfl k12
set_option maxRecDepth 100000 in
set_option maxHeartbeats 4000000 in
theorem cX9_recoverc {l : Launch} {v0 : Option Nat} {v1 : Int32} {σ : HpT} {o : Except Nat (Int32)} {σ' : HpT} {a b : Nat} (h : fX9_recover v0 v1 σ = some (o, σ', a, b)) : IsK σ v0 9 ∧ Ct l yX9_recover cX9_recover 2 (some .int) 8 133 [va_rf v0, .int v1] σ (oI o) σ' a b := by
  unfold fX9_recover at h
  replace h := bnP_s h
  obtain ⟨u, hk, h⟩ := h
  replace hk := isK_s hk
  refine ⟨hk, ?_⟩
  refine ct_start mi_X9_recover.1 rfl (al_le (al_1 (rf_cat _) (al_1 rfl al_n)) (Nat.le_of_ble_eq_true rfl)) (ag_1 (rf_cat _) (ag_1 rfl ag_n)) (fun Δ Γ B hE hnm => ?_)
  have hka : 0 + a = a := Nat.zero_add a
  have hkb : 0 + b = b := Nat.zero_add b
  have hla : a ≤ a := Nat.le_refl a
  have hlb : b ≤ b := Nat.le_refl b
  refine g_aload_n B 0 dX9_recover_0 rfl rfl ?_
  replace h := bnXA_s h
  rcases h with ⟨e9, h2, e8, e7, e6, e5⟩ | ⟨x1, h2, h⟩
  · subst e8; subst e7; subst e6; subst e5
    exact g_callVx (st := []) B (cX9_requireBookc (o := .error e9) h2) (Nat.le_of_ble_eq_true rfl) rfl rfl mi_X9_requireBook lk_RX9_95 ⟨Nat.le_of_ble_eq_true rfl, Nat.le_of_ble_eq_true rfl⟩ rfl rfl (Nat.le_of_ble_eq_true rfl) dX9_recover_1 (Nat.le_trans (Nat.le_of_eq hka) hla) (Nat.le_trans (Nat.le_of_eq hkb) hlb) hE
  · skip
    refine g_callVv0 (st := []) B (cX9_requireBookc (o := .ok x1) h2) (Nat.le_of_ble_eq_true rfl) rfl rfl mi_X9_requireBook lk_RX9_95 ⟨Nat.le_of_ble_eq_true rfl, Nat.le_of_ble_eq_true rfl⟩ rfl rfl (Nat.le_of_ble_eq_true rfl) dX9_recover_1 (Nat.le_trans (bm hka) hla) (Nat.le_trans (bm hkb) hlb) ?_
    refine g_aload_n B 0 dX9_recover_4 rfl rfl ?_
    refine g_iload_n B 1 dX9_recover_5 rfl rfl ?_
    refine g_aload_n B 0 dX9_recover_6 rfl rfl ?_
    replace h := bnP_s h
    obtain ⟨x3, h4, h⟩ := h
    refine g_getR B fl_RX9_20 (by decide) dX9_recover_7 h4 ?_
    replace h := bnP_s h
    obtain ⟨x5, h6, h⟩ := h
    refine g_getRg B fl_RX9_108 (by decide) dX9_recover_10 h6 ?_
    refine g_iload_n B 1 dX9_recover_13 rfl rfl ?_
    replace h := bnP_s h
    obtain ⟨x7, h8, h⟩ := h
    refine g_callVs0 (st := [.int v1, va_rf v0]) B (cX4_isLostc h8) (Nat.le_of_ble_eq_true rfl) rfl rfl mi_X4_isLost lk_RX9_403 ⟨Nat.le_of_ble_eq_true rfl, Nat.le_of_ble_eq_true rfl⟩ rfl rfl (Nat.le_of_ble_eq_true rfl) dX9_recover_14 (Nat.le_trans (bm hka) hla) (Nat.le_trans (bm hkb) hlb) ?_
    replace h := bnXA_s h
    rcases h with ⟨e9, h10, e8, e7, e6, e5⟩ | ⟨x9, h10, h⟩
    · subst e8; subst e7; subst e6; subst e5
      exact g_callVx (st := []) B (cX9_requireLeafAtc (o := .error e9) h10) (Nat.le_of_ble_eq_true rfl) rfl rfl mi_X9_requireLeafAt lk_RX9_475 ⟨Nat.le_of_ble_eq_true rfl, Nat.le_of_ble_eq_true rfl⟩ rfl rfl (Nat.le_of_ble_eq_true rfl) dX9_recover_17 (Nat.le_trans (Nat.le_of_eq hka) hla) (Nat.le_trans (Nat.le_of_eq hkb) hlb) hE
    · skip
      refine g_callVv0 (st := []) B (cX9_requireLeafAtc (o := .ok x9) h10) (Nat.le_of_ble_eq_true rfl) rfl rfl mi_X9_requireLeafAt lk_RX9_475 ⟨Nat.le_of_ble_eq_true rfl, Nat.le_of_ble_eq_true rfl⟩ rfl rfl (Nat.le_of_ble_eq_true rfl) dX9_recover_17 (Nat.le_trans (bm hka) hla) (Nat.le_trans (bm hkb) hlb) ?_
      refine g_aload_n B 0 dX9_recover_20 rfl rfl ?_
      replace h := bnA_s h
      rcases h with ⟨e9, h12, e8⟩ | ⟨x11, s13, a14, b15, a16, b17, h12, h, ea, eb⟩
      · subst e8
        exact g_callVx (st := []) B (cX9_rememberc (o := .error e9) h12) (Nat.le_of_ble_eq_true rfl) rfl rfl mi_X9_remember lk_RX9_430 ⟨Nat.le_of_ble_eq_true rfl, Nat.le_of_ble_eq_true rfl⟩ rfl rfl (Nat.le_of_ble_eq_true rfl) dX9_recover_21 (Nat.le_trans (Nat.le_of_eq hka) hla) (Nat.le_trans (Nat.le_of_eq hkb) hlb) hE
      · subst ea; subst eb
        have hka := bk hka
        have hkb := bk hkb
        refine g_callVvA (st := []) B (cX9_rememberc (o := .ok x11) h12) (Nat.le_of_ble_eq_true rfl) rfl rfl mi_X9_remember lk_RX9_430 ⟨Nat.le_of_ble_eq_true rfl, Nat.le_of_ble_eq_true rfl⟩ rfl rfl (Nat.le_of_ble_eq_true rfl) dX9_recover_21 (Nat.le_trans (bm hka) hla) (Nat.le_trans (bm hkb) hlb) ?_
        refine g_aload_n B 0 dX9_recover_24 rfl rfl ?_
        replace h := bnP_s h
        obtain ⟨x18, h19, h⟩ := h
        refine g_getR B fl_RX9_20 (by decide) dX9_recover_25 h19 ?_
        replace h := bnP_s h
        obtain ⟨x20, h21, h⟩ := h
        refine g_getRg B fl_RX9_108 (by decide) dX9_recover_28 h21 ?_
        refine g_iload_n B 1 dX9_recover_31 rfl rfl ?_
        replace h := bnP_s h
        obtain ⟨s24, h23, h⟩ := h
        refine g_callVv0 (st := []) B (cX4_bringBackc h23) (Nat.le_of_ble_eq_true rfl) rfl rfl mi_X4_bringBack lk_RX9_482 ⟨Nat.le_of_ble_eq_true rfl, Nat.le_of_ble_eq_true rfl⟩ rfl rfl (Nat.le_of_ble_eq_true rfl) dX9_recover_32 (Nat.le_trans (bm hka) hla) (Nat.le_trans (bm hkb) hlb) ?_
        refine g_aload_n B 0 dX9_recover_35 rfl rfl ?_
        replace h := bnP_s h
        obtain ⟨x25, h26, h⟩ := h
        refine g_getR B fl_RX9_20 (by decide) dX9_recover_36 h26 ?_
        refine g_iload_n B 1 dX9_recover_39 rfl rfl ?_
        replace h := bnP_s h
        obtain ⟨x27, h28, h⟩ := h
        refine g_callVs0 (st := []) B (cX1_wouldBeUnknownc h28) (Nat.le_of_ble_eq_true rfl) rfl rfl mi_X1_wouldBeUnknown lk_RX9_319 ⟨Nat.le_of_ble_eq_true rfl, Nat.le_of_ble_eq_true rfl⟩ rfl rfl (Nat.le_of_ble_eq_true rfl) dX9_recover_40 (Nat.le_trans (bm hka) hla) (Nat.le_trans (bm hkb) hlb) ?_
        obtain ⟨w1, w2, w3, w4⟩ := inA h
        clear h
        subst w1
        subst w2
        subst w3
        subst w4
        exact g_iret B hE (Nat.le_trans (Nat.le_of_eq hka) hla) (Nat.le_trans (Nat.le_of_eq hkb) hlb) dX9_recover_43
set_option maxRecDepth 100000 in
set_option maxHeartbeats 4000000 in
theorem cX9_shakec {l : Launch} {v0 : Option Nat} {σ : HpT} {o : Except Nat (Int32)} {σ' : HpT} {a b : Nat} (h : fX9_shake v0 σ = some (o, σ', a, b)) : IsK σ v0 9 ∧ Ct l yX9_shake cX9_shake 1 (some .int) 7 124 [va_rf v0] σ (oI o) σ' a b := by
  unfold fX9_shake at h
  replace h := bnP_s h
  obtain ⟨u, hk, h⟩ := h
  replace hk := isK_s hk
  refine ⟨hk, ?_⟩
  refine ct_start mi_X9_shake.1 rfl (al_le (al_1 (rf_cat _) al_n) (Nat.le_of_ble_eq_true rfl)) (ag_1 (rf_cat _) ag_n) (fun Δ Γ B hE hnm => ?_)
  have hka : 0 + a = a := Nat.zero_add a
  have hkb : 0 + b = b := Nat.zero_add b
  have hla : a ≤ a := Nat.le_refl a
  have hlb : b ≤ b := Nat.le_refl b
  refine g_aload_n B 0 dX9_shake_0 rfl rfl ?_
  replace h := bnXA_s h
  rcases h with ⟨e9, h2, e8, e7, e6, e5⟩ | ⟨x1, h2, h⟩
  · subst e8; subst e7; subst e6; subst e5
    exact g_callVx (st := []) B (cX9_requireBookc (o := .error e9) h2) (Nat.le_of_ble_eq_true rfl) rfl rfl mi_X9_requireBook lk_RX9_95 ⟨Nat.le_of_ble_eq_true rfl, Nat.le_of_ble_eq_true rfl⟩ rfl rfl (Nat.le_of_ble_eq_true rfl) dX9_shake_1 (Nat.le_trans (Nat.le_of_eq hka) hla) (Nat.le_trans (Nat.le_of_eq hkb) hlb) hE
  · skip
    refine g_callVv0 (st := []) B (cX9_requireBookc (o := .ok x1) h2) (Nat.le_of_ble_eq_true rfl) rfl rfl mi_X9_requireBook lk_RX9_95 ⟨Nat.le_of_ble_eq_true rfl, Nat.le_of_ble_eq_true rfl⟩ rfl rfl (Nat.le_of_ble_eq_true rfl) dX9_shake_1 (Nat.le_trans (bm hka) hla) (Nat.le_trans (bm hkb) hlb) ?_
    refine g_aload_n B 0 dX9_shake_4 rfl rfl ?_
    replace h := bnA_s h
    rcases h with ⟨e9, h4, e8⟩ | ⟨x3, s5, a6, b7, a8, b9, h4, h, ea, eb⟩
    · subst e8
      exact g_callVx (st := []) B (cX9_rememberc (o := .error e9) h4) (Nat.le_of_ble_eq_true rfl) rfl rfl mi_X9_remember lk_RX9_430 ⟨Nat.le_of_ble_eq_true rfl, Nat.le_of_ble_eq_true rfl⟩ rfl rfl (Nat.le_of_ble_eq_true rfl) dX9_shake_5 (Nat.le_trans (Nat.le_of_eq hka) hla) (Nat.le_trans (Nat.le_of_eq hkb) hlb) hE
    · subst ea; subst eb
      have hka := bk hka
      have hkb := bk hkb
      refine g_callVvA (st := []) B (cX9_rememberc (o := .ok x3) h4) (Nat.le_of_ble_eq_true rfl) rfl rfl mi_X9_remember lk_RX9_430 ⟨Nat.le_of_ble_eq_true rfl, Nat.le_of_ble_eq_true rfl⟩ rfl rfl (Nat.le_of_ble_eq_true rfl) dX9_shake_5 (Nat.le_trans (bm hka) hla) (Nat.le_trans (bm hkb) hlb) ?_
      refine g_aload_n B 0 dX9_shake_8 rfl rfl ?_
      replace h := bnP_s h
      obtain ⟨x10, h11, h⟩ := h
      refine g_getR B fl_RX9_20 (by decide) dX9_shake_9 h11 ?_
      replace h := bnP_s h
      obtain ⟨x12, h13, h⟩ := h
      refine g_getRg B fl_RX9_108 (by decide) dX9_shake_12 h13 ?_
      replace h := bnS_s h
      obtain ⟨x14, s16, h15, h⟩ := h
      refine g_callVs0 (st := []) B (cX4_dropLoosec h15) (Nat.le_of_ble_eq_true rfl) rfl rfl mi_X4_dropLoose lk_RX9_326 ⟨Nat.le_of_ble_eq_true rfl, Nat.le_of_ble_eq_true rfl⟩ rfl rfl (Nat.le_of_ble_eq_true rfl) dX9_shake_15 (Nat.le_trans (bm hka) hla) (Nat.le_trans (bm hkb) hlb) ?_
      obtain ⟨w1, w2, w3, w4⟩ := inA h
      clear h
      subst w1
      subst w2
      subst w3
      subst w4
      exact g_iret B hE (Nat.le_trans (Nat.le_of_eq hka) hla) (Nat.le_trans (Nat.le_of_eq hkb) hlb) dX9_shake_18
set_option maxRecDepth 100000 in
set_option maxHeartbeats 4000000 in
theorem cX9_undoablec {l : Launch} {v0 : Option Nat} {σ : HpT} {r : Int32} (h : fX9_undoable v0 σ = some r) : IsK σ v0 9 ∧ Ct l yX9_undoable cX9_undoable 1 (some .int) 0 0 [va_rf v0] σ (.ok (some (.int r))) σ 0 0 := by
  unfold fX9_undoable at h
  replace h := bnP_s h
  obtain ⟨u, hk, h⟩ := h
  replace hk := isK_s hk
  refine ⟨hk, ?_⟩
  refine ct_start mi_X9_undoable.1 rfl (al_le (al_1 (rf_cat _) al_n) (Nat.le_of_ble_eq_true rfl)) (ag_1 (rf_cat _) ag_n) (fun Δ Γ B hE hnm => ?_)
  refine g_aload_n B 0 dX9_undoable_0 rfl rfl ?_
  replace h := bnP_s h
  obtain ⟨x1, h2, h⟩ := h
  refine g_getI B fl_RX9_491 (by decide) dX9_undoable_1 h2 ?_
  replace h := Option.some.inj h
  subst h
  exact g_iret B hE (Nat.zero_le _) (Nat.zero_le _) dX9_undoable_4
set_option maxRecDepth 100000 in
set_option maxHeartbeats 4000000 in
theorem cX9_requireSlotc {l : Launch} {v0 : Int32} {σ : HpT} {o : Except Nat (Unit)} (h : fX9_requireSlot v0 σ = some o) : Ct l yX9_requireSlot cX9_requireSlot 1 none 6 90 [.int v0] σ (oU o) σ (xc o) (xs o) := by
  unfold fX9_requireSlot at h
  refine ct_start mi_X9_requireSlot.1 rfl (al_le (al_1 rfl al_n) (Nat.le_of_ble_eq_true rfl)) (ag_1 rfl ag_n) (fun Δ Γ B hE hnm => ?_)
  refine g_iload_n B 0 dX9_requireSlot_0 rfl rfl ?_
  refine g_if_lt B 9 dX9_requireSlot_1 (by decide) (fun hc => ?_) (fun hc => ?_)
  · replace h := ifp hc h
    replace h := Option.some.inj h
    subst h
    exact g_throwW B tw_RX9_238_242 (j := 32) rfl hE (by decide) (Nat.le_of_ble_eq_true rfl) dX9_requireSlot_9 dX9_requireSlot_12 dX9_requireSlot_13 dX9_requireSlot_16 dX9_requireSlot_19 (Nat.le_refl 1) (Nat.le_refl 6)
  · replace h := ifn hc h
    refine g_iload_n B 0 dX9_requireSlot_4 rfl rfl ?_
    refine g_iconst (v := 2) B dX9_requireSlot_5 (by decide) ?_
    refine g_icmp_lt B 20 dX9_requireSlot_6 (by decide) (fun hc => ?_) (fun hc => ?_)
    · replace h := ifp hc h
      replace h := Option.some.inj h
      subst h
      exact g_vret B hE (Nat.zero_le _) (Nat.zero_le _) dX9_requireSlot_20
    · replace h := ifn hc h
      replace h := Option.some.inj h
      subst h
      exact g_throwW B tw_RX9_238_242 (j := 32) rfl hE (by decide) (Nat.le_of_ble_eq_true rfl) dX9_requireSlot_9 dX9_requireSlot_12 dX9_requireSlot_13 dX9_requireSlot_16 dX9_requireSlot_19 (Nat.le_refl 1) (Nat.le_refl 6)
set_option maxRecDepth 100000 in
set_option maxHeartbeats 4000000 in
theorem cX9_savec {l : Launch} {v0 : Option Nat} {v1 : Int32} {σ : HpT} {o : Except Nat (Int32)} {σ' : HpT} {a b : Nat} (h : fX9_save v0 v1 σ = some (o, σ', a, b)) : IsK σ v0 9 ∧ Ct l yX9_save cX9_save 2 (some .int) 7 110 [va_rf v0, .int v1] σ (oI o) σ' a b := by
  unfold fX9_save at h
  replace h := bnP_s h
  obtain ⟨u, hk, h⟩ := h
  replace hk := isK_s hk
  refine ⟨hk, ?_⟩
  refine ct_start mi_X9_save.1 rfl (al_le (al_1 (rf_cat _) (al_1 rfl al_n)) (Nat.le_of_ble_eq_true rfl)) (ag_1 (rf_cat _) (ag_1 rfl ag_n)) (fun Δ Γ B hE hnm => ?_)
  have hka : 0 + a = a := Nat.zero_add a
  have hkb : 0 + b = b := Nat.zero_add b
  have hla : a ≤ a := Nat.le_refl a
  have hlb : b ≤ b := Nat.le_refl b
  refine g_aload_n B 0 dX9_save_0 rfl rfl ?_
  replace h := bnXA_s h
  rcases h with ⟨e9, h2, e8, e7, e6, e5⟩ | ⟨x1, h2, h⟩
  · subst e8; subst e7; subst e6; subst e5
    exact g_callVx (st := []) B (cX9_requireBookc (o := .error e9) h2) (Nat.le_of_ble_eq_true rfl) rfl rfl mi_X9_requireBook lk_RX9_95 ⟨Nat.le_of_ble_eq_true rfl, Nat.le_of_ble_eq_true rfl⟩ rfl rfl (Nat.le_of_ble_eq_true rfl) dX9_save_1 (Nat.le_trans (Nat.le_of_eq hka) hla) (Nat.le_trans (Nat.le_of_eq hkb) hlb) hE
  · skip
    refine g_callVv0 (st := []) B (cX9_requireBookc (o := .ok x1) h2) (Nat.le_of_ble_eq_true rfl) rfl rfl mi_X9_requireBook lk_RX9_95 ⟨Nat.le_of_ble_eq_true rfl, Nat.le_of_ble_eq_true rfl⟩ rfl rfl (Nat.le_of_ble_eq_true rfl) dX9_save_1 (Nat.le_trans (bm hka) hla) (Nat.le_trans (bm hkb) hlb) ?_
    refine g_iload_n B 1 dX9_save_4 rfl rfl ?_
    replace h := bnXA_s h
    rcases h with ⟨e9, h4, e8, e7, e6, e5⟩ | ⟨x3, h4, h⟩
    · subst e8; subst e7; subst e6; subst e5
      exact g_callSx (st := []) B (cX9_requireSlotc (o := .error e9) h4) mi_X9_requireSlot lk_RX9_506 ⟨Nat.le_of_ble_eq_true rfl, Nat.le_of_ble_eq_true rfl⟩ rfl rfl (Nat.le_of_ble_eq_true rfl) dX9_save_5 (Nat.le_trans (Nat.le_of_eq hka) hla) (Nat.le_trans (Nat.le_of_eq hkb) hlb) hE
    · skip
      refine g_callSv0 (st := []) B (cX9_requireSlotc (o := .ok x3) h4) mi_X9_requireSlot lk_RX9_506 ⟨Nat.le_of_ble_eq_true rfl, Nat.le_of_ble_eq_true rfl⟩ rfl rfl (Nat.le_of_ble_eq_true rfl) dX9_save_5 (Nat.le_trans (bm hka) hla) (Nat.le_trans (bm hkb) hlb) ?_
      refine g_aload_n B 0 dX9_save_8 rfl rfl ?_
      replace h := bnP_s h
      obtain ⟨x5, h6, h⟩ := h
      refine g_getR B fl_RX9_38 (by decide) dX9_save_9 h6 ?_
      refine g_iload_n B 1 dX9_save_12 rfl rfl ?_
      replace h := bnA_s h
      rcases h with ⟨e9, h8, e8⟩ | ⟨x7, s9, a10, b11, a12, b13, h8, h, ea, eb⟩
      · subst e8
        exact g_callSx (st := []) B (cX9_rowAtc (o := .error e9) h8) mi_X9_rowAt lk_RX9_502 ⟨Nat.le_of_ble_eq_true rfl, Nat.le_of_ble_eq_true rfl⟩ rfl rfl (Nat.le_of_ble_eq_true rfl) dX9_save_13 (Nat.le_trans (Nat.le_of_eq hka) hla) (Nat.le_trans (Nat.le_of_eq hkb) hlb) hE
      · subst ea; subst eb
        have hka := bk hka
        have hkb := bk hkb
        refine g_callSsA (st := []) B (cX9_rowAtc (o := .ok x7) h8) mi_X9_rowAt lk_RX9_502 ⟨Nat.le_of_ble_eq_true rfl, Nat.le_of_ble_eq_true rfl⟩ rfl rfl (Nat.le_of_ble_eq_true rfl) dX9_save_13 (Nat.le_trans (bm hka) hla) (Nat.le_trans (bm hkb) hlb) ?_
        refine g_aload_n B 0 dX9_save_16 rfl rfl ?_
        replace h := bnP_s h
        obtain ⟨x14, h15, h⟩ := h
        refine g_getR B fl_RX9_20 (by decide) dX9_save_17 h15 ?_
        replace h := bnP_s h
        obtain ⟨s18, h17, h⟩ := h
        refine g_callVv0 (st := []) B (cX1_takec h17) (Nat.le_of_ble_eq_true rfl) rfl rfl mi_X1_take lk_RX9_509 ⟨Nat.le_of_ble_eq_true rfl, Nat.le_of_ble_eq_true rfl⟩ rfl rfl (Nat.le_of_ble_eq_true rfl) dX9_save_20 (Nat.le_trans (bm hka) hla) (Nat.le_trans (bm hkb) hlb) ?_
        refine g_aload_n B 0 dX9_save_23 rfl rfl ?_
        replace h := bnP_s h
        obtain ⟨x19, h20, h⟩ := h
        refine g_getR B fl_RX9_41 (by decide) dX9_save_24 h20 ?_
        refine g_iload_n B 1 dX9_save_27 rfl rfl ?_
        refine g_iconst (v := 1) B dX9_save_28 (by decide) ?_
        replace h := bnP_s h
        obtain ⟨s23, h22, h⟩ := h
        refine g_zast B dX9_save_29 h22 ?_
        refine g_aload_n B 0 dX9_save_30 rfl rfl ?_
        replace h := bnP_s h
        obtain ⟨x24, h25, h⟩ := h
        refine g_getR B fl_RX9_20 (by decide) dX9_save_31 h25 ?_
        replace h := bnP_s h
        obtain ⟨x26, h27, h⟩ := h
        refine g_getI B fl_RX9_92 (by decide) dX9_save_34 h27 ?_
        obtain ⟨w1, w2, w3, w4⟩ := inA h
        clear h
        subst w1
        subst w2
        subst w3
        subst w4
        exact g_iret B hE (Nat.le_trans (Nat.le_of_eq hka) hla) (Nat.le_trans (Nat.le_of_eq hkb) hlb) dX9_save_37
set_option maxRecDepth 100000 in
set_option maxHeartbeats 4000000 in
theorem cX9_restorec {l : Launch} {v0 : Option Nat} {v1 : Int32} {σ : HpT} {o : Except Nat (Int32)} {σ' : HpT} {a b : Nat} (h : fX9_restore v0 v1 σ = some (o, σ', a, b)) : IsK σ v0 9 ∧ Ct l yX9_restore cX9_restore 2 (some .int) 7 110 [va_rf v0, .int v1] σ (oI o) σ' a b := by
  unfold fX9_restore at h
  replace h := bnP_s h
  obtain ⟨u, hk, h⟩ := h
  replace hk := isK_s hk
  refine ⟨hk, ?_⟩
  refine ct_start mi_X9_restore.1 rfl (al_le (al_1 (rf_cat _) (al_1 rfl al_n)) (Nat.le_of_ble_eq_true rfl)) (ag_1 (rf_cat _) (ag_1 rfl ag_n)) (fun Δ Γ B hE hnm => ?_)
  have hka : 0 + a = a := Nat.zero_add a
  have hkb : 0 + b = b := Nat.zero_add b
  have hla : a ≤ a := Nat.le_refl a
  have hlb : b ≤ b := Nat.le_refl b
  refine g_iload_n B 1 dX9_restore_0 rfl rfl ?_
  replace h := bnXA_s h
  rcases h with ⟨e9, h2, e8, e7, e6, e5⟩ | ⟨x1, h2, h⟩
  · subst e8; subst e7; subst e6; subst e5
    exact g_callSx (st := []) B (cX9_requireSlotc (o := .error e9) h2) mi_X9_requireSlot lk_RX9_506 ⟨Nat.le_of_ble_eq_true rfl, Nat.le_of_ble_eq_true rfl⟩ rfl rfl (Nat.le_of_ble_eq_true rfl) dX9_restore_1 (Nat.le_trans (Nat.le_of_eq hka) hla) (Nat.le_trans (Nat.le_of_eq hkb) hlb) hE
  · skip
    refine g_callSv0 (st := []) B (cX9_requireSlotc (o := .ok x1) h2) mi_X9_requireSlot lk_RX9_506 ⟨Nat.le_of_ble_eq_true rfl, Nat.le_of_ble_eq_true rfl⟩ rfl rfl (Nat.le_of_ble_eq_true rfl) dX9_restore_1 (Nat.le_trans (bm hka) hla) (Nat.le_trans (bm hkb) hlb) ?_
    refine g_aload_n B 0 dX9_restore_4 rfl rfl ?_
    replace h := bnP_s h
    obtain ⟨x3, h4, h⟩ := h
    refine g_getR B fl_RX9_41 (by decide) dX9_restore_5 h4 ?_
    refine g_iload_n B 1 dX9_restore_8 rfl rfl ?_
    replace h := bnP_s h
    obtain ⟨x5, h6, h⟩ := h
    refine g_zald B dX9_restore_9 h6 ?_
    refine g_if_ne B 24 dX9_restore_10 (by decide) (fun hc => ?_) (fun hc => ?_)
    · replace h := ifn hc h
      refine g_aload_n B 0 dX9_restore_24 rfl rfl ?_
      replace h := bnP_s h
      obtain ⟨x7, h8, h⟩ := h
      refine g_getR B fl_RX9_20 (by decide) dX9_restore_25 h8 ?_
      refine g_aload_n B 0 dX9_restore_28 rfl rfl ?_
      replace h := bnP_s h
      obtain ⟨x9, h10, h⟩ := h
      refine g_getR B fl_RX9_38 (by decide) dX9_restore_29 h10 ?_
      refine g_iload_n B 1 dX9_restore_32 rfl rfl ?_
      replace h := bnA_s h
      rcases h with ⟨e9, h12, e8⟩ | ⟨x11, s13, a14, b15, a16, b17, h12, h, ea, eb⟩
      · subst e8
        exact g_callSx (st := [va_rf x7]) B (cX9_rowAtc (o := .error e9) h12) mi_X9_rowAt lk_RX9_502 ⟨Nat.le_of_ble_eq_true rfl, Nat.le_of_ble_eq_true rfl⟩ rfl rfl (Nat.le_of_ble_eq_true rfl) dX9_restore_33 (Nat.le_trans (Nat.le_of_eq hka) hla) (Nat.le_trans (Nat.le_of_eq hkb) hlb) hE
      · subst ea; subst eb
        have hka := bk hka
        have hkb := bk hkb
        refine g_callSsA (st := [va_rf x7]) B (cX9_rowAtc (o := .ok x11) h12) mi_X9_rowAt lk_RX9_502 ⟨Nat.le_of_ble_eq_true rfl, Nat.le_of_ble_eq_true rfl⟩ rfl rfl (Nat.le_of_ble_eq_true rfl) dX9_restore_33 (Nat.le_trans (bm hka) hla) (Nat.le_trans (bm hkb) hlb) ?_
        replace h := bnP_s h
        obtain ⟨s20, h19, h⟩ := h
        refine g_callVv0 (st := []) B (cX1_takec h19) (Nat.le_of_ble_eq_true rfl) rfl rfl mi_X1_take lk_RX9_509 ⟨Nat.le_of_ble_eq_true rfl, Nat.le_of_ble_eq_true rfl⟩ rfl rfl (Nat.le_of_ble_eq_true rfl) dX9_restore_36 (Nat.le_trans (bm hka) hla) (Nat.le_trans (bm hkb) hlb) ?_
        refine g_aload_n B 0 dX9_restore_39 rfl rfl ?_
        replace h := bnP_s h
        obtain ⟨s23, h22, h⟩ := h
        refine g_callVv0 (st := []) B (cX9_forgetPastc h22) (Nat.le_of_ble_eq_true rfl) rfl rfl mi_X9_forgetPast lk_RX9_89 ⟨Nat.le_of_ble_eq_true rfl, Nat.le_of_ble_eq_true rfl⟩ rfl rfl (Nat.le_of_ble_eq_true rfl) dX9_restore_40 (Nat.le_trans (bm hka) hla) (Nat.le_trans (bm hkb) hlb) ?_
        refine g_aload_n B 0 dX9_restore_43 rfl rfl ?_
        replace h := bnP_s h
        obtain ⟨x24, h25, h⟩ := h
        refine g_getR B fl_RX9_20 (by decide) dX9_restore_44 h25 ?_
        replace h := bnP_s h
        obtain ⟨x26, h27, h⟩ := h
        refine g_getI B fl_RX9_92 (by decide) dX9_restore_47 h27 ?_
        obtain ⟨w1, w2, w3, w4⟩ := inA h
        clear h
        subst w1
        subst w2
        subst w3
        subst w4
        exact g_iret B hE (Nat.le_trans (Nat.le_of_eq hka) hla) (Nat.le_trans (Nat.le_of_eq hkb) hlb) dX9_restore_50
    · replace h := ifp hc h
      obtain ⟨w1, w2, w3, w4⟩ := inA h
      clear h
      subst w1
      subst w2
      subst w3
      subst w4
      exact g_throwW B tw_RX9_494_498 (j := 33) rfl hE (by decide) (Nat.le_of_ble_eq_true rfl) dX9_restore_13 dX9_restore_16 dX9_restore_17 dX9_restore_20 dX9_restore_23 (Nat.le_trans (Nat.le_of_eq hka) hla) (Nat.le_trans (Nat.le_of_eq hkb) hlb)
