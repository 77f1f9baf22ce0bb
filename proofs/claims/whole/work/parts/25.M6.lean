theorem mi_X10_addCopy : MI yX10_addCopy cX10_addCopy 4 (some .int) 2 := ⟨by decide +kernel, (mw (i := 2797) (by decide +kernel) rfl), (mw (i := 176) (by decide +kernel) rfl), by decide +kernel, by decide +kernel⟩
theorem mi_X10_begin : MI yX10_begin cX10_begin 5 (some .int) 2 := ⟨by decide +kernel, (mw (i := 2756) (by decide +kernel) rfl), (mw (i := 176) (by decide +kernel) rfl), by decide +kernel, by decide +kernel⟩
theorem mi_X10_burn : MI yX10_burn cX10_burn 3 (some .int) 1 := ⟨by decide +kernel, (mw (i := 2801) (by decide +kernel) rfl), (mw (i := 176) (by decide +kernel) rfl), by decide +kernel, by decide +kernel⟩
theorem mi_X10_canBegin : MI yX10_canBegin cX10_canBegin 2 (some .boolean) 1 := ⟨by decide +kernel, (mw (i := 2760) (by decide +kernel) rfl), (mw (i := 176) (by decide +kernel) rfl), by decide +kernel, by decide +kernel⟩
theorem mi_X10_canInterline : MI yX10_canInterline cX10_canInterline 3 (some .boolean) 2 := ⟨by decide +kernel, (mw (i := 2785) (by decide +kernel) rfl), (mw (i := 176) (by decide +kernel) rfl), by decide +kernel, by decide +kernel⟩
theorem mi_X10_cancel : MI yX10_cancel cX10_cancel 1 (some .int) 0 := ⟨by decide +kernel, (mw (i := 2793) (by decide +kernel) rfl), (mw (i := 176) (by decide +kernel) rfl), by decide +kernel, by decide +kernel⟩
theorem mi_X10_interline : MI yX10_interline cX10_interline 4 (some .int) 2 := ⟨by decide +kernel, (mw (i := 2781) (by decide +kernel) rfl), (mw (i := 176) (by decide +kernel) rfl), by decide +kernel, by decide +kernel⟩
theorem mi_X10_isRead : MI yX10_isRead cX10_isRead 3 (some .boolean) 2 := ⟨by decide +kernel, (mw (i := 2764) (by decide +kernel) rfl), (mw (i := 176) (by decide +kernel) rfl), by decide +kernel, by decide +kernel⟩
theorem mi_X10_isSlot : MI yX10_isSlot cX10_isSlot 1 (some .boolean) 1 := ⟨by decide +kernel, (mw (i := 2832) (by decide +kernel) rfl), (mw (i := 176) (by decide +kernel) rfl), by decide +kernel, by decide +kernel⟩
theorem mi_X10_lose : MI yX10_lose cX10_lose 4 (some .int) 1 := ⟨by decide +kernel, (mw (i := 2805) (by decide +kernel) rfl), (mw (i := 176) (by decide +kernel) rfl), by decide +kernel, by decide +kernel⟩
theorem mi_X10_recover : MI yX10_recover cX10_recover 4 (some .int) 1 := ⟨by decide +kernel, (mw (i := 2809) (by decide +kernel) rfl), (mw (i := 176) (by decide +kernel) rfl), by decide +kernel, by decide +kernel⟩
theorem mi_X10_restore : MI yX10_restore cX10_restore 3 (some .int) 1 := ⟨by decide +kernel, (mw (i := 2836) (by decide +kernel) rfl), (mw (i := 176) (by decide +kernel) rfl), by decide +kernel, by decide +kernel⟩
theorem mi_X10_save : MI yX10_save cX10_save 2 (some .int) 1 := ⟨by decide +kernel, (mw (i := 2829) (by decide +kernel) rfl), (mw (i := 176) (by decide +kernel) rfl), by decide +kernel, by decide +kernel⟩
theorem mi_X10_seal : MI yX10_seal cX10_seal 4 (some .int) 2 := ⟨by decide +kernel, (mw (i := 2789) (by decide +kernel) rfl), (mw (i := 176) (by decide +kernel) rfl), by decide +kernel, by decide +kernel⟩
theorem mi_X10_sew : MI yX10_sew cX10_sew 3 (some .int) 1 := ⟨by decide +kernel, (mw (i := 2813) (by decide +kernel) rfl), (mw (i := 176) (by decide +kernel) rfl), by decide +kernel, by decide +kernel⟩
theorem mi_X10_shake : MI yX10_shake cX10_shake 1 (some .int) 0 := ⟨by decide +kernel, (mw (i := 2817) (by decide +kernel) rfl), (mw (i := 176) (by decide +kernel) rfl), by decide +kernel, by decide +kernel⟩
theorem mi_X10_strike : MI yX10_strike cX10_strike 2 (some .int) 1 := ⟨by decide +kernel, (mw (i := 2773) (by decide +kernel) rfl), (mw (i := 176) (by decide +kernel) rfl), by decide +kernel, by decide +kernel⟩
theorem mi_X10_strikeClause : MI yX10_strikeClause cX10_strikeClause 2 (some .int) 1 := ⟨by decide +kernel, (mw (i := 2777) (by decide +kernel) rfl), (mw (i := 176) (by decide +kernel) rfl), by decide +kernel, by decide +kernel⟩
theorem mi_X10_undo : MI yX10_undo cX10_undo 1 (some .int) 0 := ⟨by decide +kernel, (mw (i := 2821) (by decide +kernel) rfl), (mw (i := 176) (by decide +kernel) rfl), by decide +kernel, by decide +kernel⟩
theorem mi_X10_undoable : MI yX10_undoable cX10_undoable 1 (some .int) 0 := ⟨by decide +kernel, (mw (i := 2825) (by decide +kernel) rfl), (mw (i := 176) (by decide +kernel) rfl), by decide +kernel, by decide +kernel⟩
theorem lk_RX10_544 : LV RX10 544 yX10_canBegin := ⟨(mw (i := 2757) (by decide +kernel) rfl), (mw (i := 2759) (by decide +kernel) rfl), (mw (i := 157) (by decide +kernel) rfl)⟩
theorem lk_RX10_547 : LV RX10 547 yX10_isRead := ⟨(mw (i := 2761) (by decide +kernel) rfl), (mw (i := 2763) (by decide +kernel) rfl), (mw (i := 158) (by decide +kernel) rfl)⟩
theorem lk_RX10_550 : LV RX10 550 yX10_remembers := ⟨(mw (i := 2765) (by decide +kernel) rfl), (mw (i := 2767) (by decide +kernel) rfl), (mw (i := 159) (by decide +kernel) rfl)⟩
theorem lk_RX10_553 : LV RX10 553 yX10_canInterline := ⟨(mw (i := 2782) (by decide +kernel) rfl), (mw (i := 2784) (by decide +kernel) rfl), (mw (i := 160) (by decide +kernel) rfl)⟩
theorem lk_RX10_556 : LSt RX10 556 yX10_isSlot := ⟨(mw (i := 2830) (by decide +kernel) rfl), (mw (i := 2831) (by decide +kernel) rfl)⟩
theorem dX10_isRead_0 : decode cX10_isRead 0 = .ok (.aload_n 0, 1) := by decide +kernel
theorem dX10_isRead_1 : decode cX10_isRead 1 = .ok (.iload_n 2, 1) := by decide +kernel
theorem dX10_isRead_2 : decode cX10_isRead 2 = .ok (.invokevirtual 312, 3) := by decide +kernel
theorem dX10_isRead_5 : decode cX10_isRead 5 = .ok (.aload_n 0, 1) := by decide +kernel
theorem dX10_isRead_6 : decode cX10_isRead 6 = .ok (.invokevirtual 315, 3) := by decide +kernel
theorem dX10_isRead_9 : decode cX10_isRead 9 = .ok (.aload_n 0, 1) := by decide +kernel
theorem dX10_isRead_10 : decode cX10_isRead 10 = .ok (.invokevirtual 122, 3) := by decide +kernel
theorem dX10_isRead_13 : decode cX10_isRead 13 = .ok (.aload_n 0, 1) := by decide +kernel
theorem dX10_isRead_14 : decode cX10_isRead 14 = .ok (.aload_n 0, 1) := by decide +kernel
theorem dX10_isRead_15 : decode cX10_isRead 15 = .ok (.iload_n 1, 1) := by decide +kernel
theorem dX10_isRead_16 : decode cX10_isRead 16 = .ok (.invokevirtual 185, 3) := by decide +kernel
theorem dX10_isRead_19 : decode cX10_isRead 19 = .ok (.invokevirtual 188, 3) := by decide +kernel
theorem dX10_isRead_22 : decode cX10_isRead 22 = .ok (.aload_n 0, 1) := by decide +kernel
theorem dX10_isRead_23 : decode cX10_isRead 23 = .ok (.iconst 1, 1) := by decide +kernel
theorem dX10_isRead_24 : decode cX10_isRead 24 = .ok (.invokevirtual 102, 3) := by decide +kernel
theorem dX10_isRead_27 : decode cX10_isRead 27 = .ok (.ifCond .ne 8, 3) := by decide +kernel
theorem dX10_isRead_30 : decode cX10_isRead 30 = .ok (.aload_n 0, 1) := by decide +kernel
theorem dX10_isRead_31 : decode cX10_isRead 31 = .ok (.iconst 1, 1) := by decide +kernel
theorem dX10_isRead_32 : decode cX10_isRead 32 = .ok (.invokevirtual 115, 3) := by decide +kernel
theorem dX10_isRead_35 : decode cX10_isRead 35 = .ok (.aload_n 0, 1) := by decide +kernel
theorem dX10_isRead_36 : decode cX10_isRead 36 = .ok (.getfield 73, 3) := by decide +kernel
theorem dX10_isRead_39 : decode cX10_isRead 39 = .ok (.ifCond .ne 7, 3) := by decide +kernel
theorem dX10_isRead_42 : decode cX10_isRead 42 = .ok (.iconst 1, 1) := by decide +kernel
theorem dX10_isRead_43 : decode cX10_isRead 43 = .ok (.goto 4, 3) := by decide +kernel
theorem dX10_isRead_46 : decode cX10_isRead 46 = .ok (.iconst 0, 1) := by decide +kernel
theorem dX10_isRead_47 : decode cX10_isRead 47 = .ok (.ireturn, 1) := by decide +kernel
theorem dX10_canBegin_0 : decode cX10_canBegin 0 = .ok (.iload_n 1, 1) := by decide +kernel
theorem dX10_canBegin_1 : decode cX10_canBegin 1 = .ok (.iconst 0, 1) := by decide +kernel
theorem dX10_canBegin_2 : decode cX10_canBegin 2 = .ok (.iconst 2, 1) := by decide +kernel
theorem dX10_canBegin_3 : decode cX10_canBegin 3 = .ok (.invokestatic 69, 3) := by decide +kernel
theorem dX10_canBegin_6 : decode cX10_canBegin 6 = .ok (.ifCond .eq 26, 3) := by decide +kernel
theorem dX10_canBegin_9 : decode cX10_canBegin 9 = .ok (.aload_n 0, 1) := by decide +kernel
theorem dX10_canBegin_10 : decode cX10_canBegin 10 = .ok (.invokevirtual 179, 3) := by decide +kernel
theorem dX10_canBegin_13 : decode cX10_canBegin 13 = .ok (.iconst (-1), 1) := by decide +kernel
theorem dX10_canBegin_14 : decode cX10_canBegin 14 = .ok (.if_icmp .ne 18, 3) := by decide +kernel
theorem dX10_canBegin_17 : decode cX10_canBegin 17 = .ok (.aload_n 0, 1) := by decide +kernel
theorem dX10_canBegin_18 : decode cX10_canBegin 18 = .ok (.getfield 9, 3) := by decide +kernel
theorem dX10_canBegin_21 : decode cX10_canBegin 21 = .ok (.iconst 3, 1) := by decide +kernel
theorem dX10_canBegin_22 : decode cX10_canBegin 22 = .ok (.iaload, 1) := by decide +kernel
theorem dX10_canBegin_23 : decode cX10_canBegin 23 = .ok (.bipush 10, 2) := by decide +kernel
theorem dX10_canBegin_25 : decode cX10_canBegin 25 = .ok (.if_icmp .ge 7, 3) := by decide +kernel
theorem dX10_canBegin_28 : decode cX10_canBegin 28 = .ok (.iconst 1, 1) := by decide +kernel
theorem dX10_canBegin_29 : decode cX10_canBegin 29 = .ok (.goto 4, 3) := by decide +kernel
theorem dX10_canBegin_32 : decode cX10_canBegin 32 = .ok (.iconst 0, 1) := by decide +kernel
theorem dX10_canBegin_33 : decode cX10_canBegin 33 = .ok (.ireturn, 1) := by decide +kernel
theorem dX10_begin_0 : decode cX10_begin 0 = .ok (.aload_n 0, 1) := by decide +kernel
theorem dX10_begin_1 : decode cX10_begin 1 = .ok (.aload_n 0, 1) := by decide +kernel
theorem dX10_begin_2 : decode cX10_begin 2 = .ok (.getfield 48, 3) := by decide +kernel
theorem dX10_begin_5 : decode cX10_begin 5 = .ok (.iload_n 2, 1) := by decide +kernel
theorem dX10_begin_6 : decode cX10_begin 6 = .ok (.iconst 0, 1) := by decide +kernel
theorem dX10_begin_7 : decode cX10_begin 7 = .ok (.aload_n 0, 1) := by decide +kernel
theorem dX10_begin_8 : decode cX10_begin 8 = .ok (.getfield 56, 3) := by decide +kernel
theorem dX10_begin_11 : decode cX10_begin 11 = .ok (.invokestatic 69, 3) := by decide +kernel
theorem dX10_begin_14 : decode cX10_begin 14 = .ok (.aload_n 0, 1) := by decide +kernel
theorem dX10_begin_15 : decode cX10_begin 15 = .ok (.getfield 48, 3) := by decide +kernel
theorem dX10_begin_18 : decode cX10_begin 18 = .ok (.ifCond .eq 15, 3) := by decide +kernel
theorem dX10_begin_21 : decode cX10_begin 21 = .ok (.aload_n 0, 1) := by decide +kernel
theorem dX10_begin_22 : decode cX10_begin 22 = .ok (.iload_n 1, 1) := by decide +kernel
theorem dX10_begin_23 : decode cX10_begin 23 = .ok (.invokevirtual 544, 3) := by decide +kernel
theorem dX10_begin_26 : decode cX10_begin 26 = .ok (.ifCond .eq 7, 3) := by decide +kernel
theorem dX10_begin_29 : decode cX10_begin 29 = .ok (.iconst 1, 1) := by decide +kernel
theorem dX10_begin_30 : decode cX10_begin 30 = .ok (.goto 4, 3) := by decide +kernel
theorem dX10_begin_33 : decode cX10_begin 33 = .ok (.iconst 0, 1) := by decide +kernel
theorem dX10_begin_34 : decode cX10_begin 34 = .ok (.invokevirtual 44, 3) := by decide +kernel
theorem dX10_begin_37 : decode cX10_begin 37 = .ok (.ifCond .ne 5, 3) := by decide +kernel
theorem dX10_begin_40 : decode cX10_begin 40 = .ok (.iconst 0, 1) := by decide +kernel
theorem dX10_begin_41 : decode cX10_begin 41 = .ok (.ireturn, 1) := by decide +kernel
theorem dX10_begin_42 : decode cX10_begin 42 = .ok (.aload_n 0, 1) := by decide +kernel
theorem dX10_begin_43 : decode cX10_begin 43 = .ok (.iload_n 1, 1) := by decide +kernel
theorem dX10_begin_44 : decode cX10_begin 44 = .ok (.iload_n 2, 1) := by decide +kernel
theorem dX10_begin_45 : decode cX10_begin 45 = .ok (.invokevirtual 547, 3) := by decide +kernel
theorem dX10_begin_48 : decode cX10_begin 48 = .ok (.istore_n 3, 1) := by decide +kernel
theorem dX10_begin_49 : decode cX10_begin 49 = .ok (.aload_n 0, 1) := by decide +kernel
theorem dX10_begin_50 : decode cX10_begin 50 = .ok (.aload_n 0, 1) := by decide +kernel
theorem dX10_begin_51 : decode cX10_begin 51 = .ok (.getfield 9, 3) := by decide +kernel
theorem dX10_begin_54 : decode cX10_begin 54 = .ok (.iconst 3, 1) := by decide +kernel
theorem dX10_begin_55 : decode cX10_begin 55 = .ok (.iaload, 1) := by decide +kernel
theorem dX10_begin_56 : decode cX10_begin 56 = .ok (.invokevirtual 321, 3) := by decide +kernel
theorem dX10_begin_59 : decode cX10_begin 59 = .ok (.istore 4, 2) := by decide +kernel
theorem dX10_begin_61 : decode cX10_begin 61 = .ok (.aload_n 0, 1) := by decide +kernel
theorem dX10_begin_62 : decode cX10_begin 62 = .ok (.iconst 1, 1) := by decide +kernel
theorem dX10_begin_63 : decode cX10_begin 63 = .ok (.iconst 1, 1) := by decide +kernel
theorem dX10_begin_64 : decode cX10_begin 64 = .ok (.iload_n 3, 1) := by decide +kernel
theorem dX10_begin_65 : decode cX10_begin 65 = .ok (.invokevirtual 44, 3) := by decide +kernel
theorem dX10_begin_68 : decode cX10_begin 68 = .ok (.ifCond .ne 5, 3) := by decide +kernel
theorem dX10_begin_71 : decode cX10_begin 71 = .ok (.iconst 0, 1) := by decide +kernel
theorem dX10_begin_72 : decode cX10_begin 72 = .ok (.ireturn, 1) := by decide +kernel
theorem dX10_begin_73 : decode cX10_begin 73 = .ok (.aload_n 0, 1) := by decide +kernel
theorem dX10_begin_74 : decode cX10_begin 74 = .ok (.invokevirtual 550, 3) := by decide +kernel
theorem dX10_begin_77 : decode cX10_begin 77 = .ok (.aload_n 0, 1) := by decide +kernel
theorem dX10_begin_78 : decode cX10_begin 78 = .ok (.iload_n 1, 1) := by decide +kernel
theorem dX10_begin_79 : decode cX10_begin 79 = .ok (.iload_n 2, 1) := by decide +kernel
theorem dX10_begin_80 : decode cX10_begin 80 = .ok (.invokevirtual 547, 3) := by decide +kernel
theorem dX10_begin_83 : decode cX10_begin 83 = .ok (.istore_n 3, 1) := by decide +kernel
theorem dX10_begin_84 : decode cX10_begin 84 = .ok (.aload_n 0, 1) := by decide +kernel
theorem dX10_begin_85 : decode cX10_begin 85 = .ok (.iconst 0, 1) := by decide +kernel
theorem dX10_begin_86 : decode cX10_begin 86 = .ok (.putfield 56, 3) := by decide +kernel
theorem dX10_begin_89 : decode cX10_begin 89 = .ok (.iload 4, 2) := by decide +kernel
theorem dX10_begin_91 : decode cX10_begin 91 = .ok (.ireturn, 1) := by decide +kernel
theorem dX10_strike_0 : decode cX10_strike 0 = .ok (.aload_n 0, 1) := by decide +kernel
theorem dX10_strike_1 : decode cX10_strike 1 = .ok (.aload_n 0, 1) := by decide +kernel
theorem dX10_strike_2 : decode cX10_strike 2 = .ok (.getfield 48, 3) := by decide +kernel
theorem dX10_strike_5 : decode cX10_strike 5 = .ok (.aload_n 0, 1) := by decide +kernel
theorem dX10_strike_6 : decode cX10_strike 6 = .ok (.getfield 48, 3) := by decide +kernel
theorem dX10_strike_9 : decode cX10_strike 9 = .ok (.ifCond .eq 15, 3) := by decide +kernel
theorem dX10_strike_12 : decode cX10_strike 12 = .ok (.aload_n 0, 1) := by decide +kernel
theorem dX10_strike_13 : decode cX10_strike 13 = .ok (.iload_n 1, 1) := by decide +kernel
theorem dX10_strike_14 : decode cX10_strike 14 = .ok (.invokevirtual 194, 3) := by decide +kernel
theorem dX10_strike_17 : decode cX10_strike 17 = .ok (.ifCond .ne 7, 3) := by decide +kernel
theorem dX10_strike_20 : decode cX10_strike 20 = .ok (.iconst 1, 1) := by decide +kernel
theorem dX10_strike_21 : decode cX10_strike 21 = .ok (.goto 4, 3) := by decide +kernel
theorem dX10_strike_24 : decode cX10_strike 24 = .ok (.iconst 0, 1) := by decide +kernel
theorem dX10_strike_25 : decode cX10_strike 25 = .ok (.invokevirtual 380, 3) := by decide +kernel
theorem dX10_strike_28 : decode cX10_strike 28 = .ok (.ifCond .ne 5, 3) := by decide +kernel
theorem dX10_strike_31 : decode cX10_strike 31 = .ok (.iconst 0, 1) := by decide +kernel
theorem dX10_strike_32 : decode cX10_strike 32 = .ok (.ireturn, 1) := by decide +kernel
theorem dX10_strike_33 : decode cX10_strike 33 = .ok (.aload_n 0, 1) := by decide +kernel
theorem dX10_strike_34 : decode cX10_strike 34 = .ok (.invokevirtual 550, 3) := by decide +kernel
theorem dX10_strike_37 : decode cX10_strike 37 = .ok (.aload_n 0, 1) := by decide +kernel
theorem dX10_strike_38 : decode cX10_strike 38 = .ok (.iload_n 1, 1) := by decide +kernel
theorem dX10_strike_39 : decode cX10_strike 39 = .ok (.invokevirtual 197, 3) := by decide +kernel
theorem dX10_strike_42 : decode cX10_strike 42 = .ok (.aload_n 0, 1) := by decide +kernel
theorem dX10_strike_43 : decode cX10_strike 43 = .ok (.aload_n 0, 1) := by decide +kernel
theorem dX10_strike_44 : decode cX10_strike 44 = .ok (.invokevirtual 179, 3) := by decide +kernel
theorem dX10_strike_47 : decode cX10_strike 47 = .ok (.invokevirtual 343, 3) := by decide +kernel
theorem dX10_strike_50 : decode cX10_strike 50 = .ok (.ireturn, 1) := by decide +kernel
theorem dX10_strikeClause_0 : decode cX10_strikeClause 0 = .ok (.aload_n 0, 1) := by decide +kernel
theorem dX10_strikeClause_1 : decode cX10_strikeClause 1 = .ok (.aload_n 0, 1) := by decide +kernel
theorem dX10_strikeClause_2 : decode cX10_strikeClause 2 = .ok (.getfield 48, 3) := by decide +kernel
theorem dX10_strikeClause_5 : decode cX10_strikeClause 5 = .ok (.aload_n 0, 1) := by decide +kernel
theorem dX10_strikeClause_6 : decode cX10_strikeClause 6 = .ok (.getfield 48, 3) := by decide +kernel
theorem dX10_strikeClause_9 : decode cX10_strikeClause 9 = .ok (.ifCond .eq 16, 3) := by decide +kernel
theorem dX10_strikeClause_12 : decode cX10_strikeClause 12 = .ok (.aload_n 0, 1) := by decide +kernel
theorem dX10_strikeClause_13 : decode cX10_strikeClause 13 = .ok (.iload_n 1, 1) := by decide +kernel
theorem dX10_strikeClause_14 : decode cX10_strikeClause 14 = .ok (.iconst 1, 1) := by decide +kernel
theorem dX10_strikeClause_15 : decode cX10_strikeClause 15 = .ok (.invokevirtual 483, 3) := by decide +kernel
theorem dX10_strikeClause_18 : decode cX10_strikeClause 18 = .ok (.ifCond .eq 7, 3) := by decide +kernel
theorem dX10_strikeClause_21 : decode cX10_strikeClause 21 = .ok (.iconst 1, 1) := by decide +kernel
theorem dX10_strikeClause_22 : decode cX10_strikeClause 22 = .ok (.goto 4, 3) := by decide +kernel
theorem dX10_strikeClause_25 : decode cX10_strikeClause 25 = .ok (.iconst 0, 1) := by decide +kernel
theorem dX10_strikeClause_26 : decode cX10_strikeClause 26 = .ok (.invokevirtual 380, 3) := by decide +kernel
theorem dX10_strikeClause_29 : decode cX10_strikeClause 29 = .ok (.ifCond .ne 5, 3) := by decide +kernel
theorem dX10_strikeClause_32 : decode cX10_strikeClause 32 = .ok (.iconst 0, 1) := by decide +kernel
theorem dX10_strikeClause_33 : decode cX10_strikeClause 33 = .ok (.ireturn, 1) := by decide +kernel
theorem dX10_strikeClause_34 : decode cX10_strikeClause 34 = .ok (.aload_n 0, 1) := by decide +kernel
theorem dX10_strikeClause_35 : decode cX10_strikeClause 35 = .ok (.invokevirtual 550, 3) := by decide +kernel
theorem dX10_strikeClause_38 : decode cX10_strikeClause 38 = .ok (.aload_n 0, 1) := by decide +kernel
theorem dX10_strikeClause_39 : decode cX10_strikeClause 39 = .ok (.iload_n 1, 1) := by decide +kernel
theorem dX10_strikeClause_40 : decode cX10_strikeClause 40 = .ok (.invokevirtual 206, 3) := by decide +kernel
theorem dX10_strikeClause_43 : decode cX10_strikeClause 43 = .ok (.ireturn, 1) := by decide +kernel
theorem dX10_canInterline_0 : decode cX10_canInterline 0 = .ok (.aload_n 0, 1) := by decide +kernel
theorem dX10_canInterline_1 : decode cX10_canInterline 1 = .ok (.iload_n 2, 1) := by decide +kernel
theorem dX10_canInterline_2 : decode cX10_canInterline 2 = .ok (.invokevirtual 497, 3) := by decide +kernel
theorem dX10_canInterline_5 : decode cX10_canInterline 5 = .ok (.ifCond .eq 30, 3) := by decide +kernel
theorem dX10_canInterline_8 : decode cX10_canInterline 8 = .ok (.aload_n 0, 1) := by decide +kernel
theorem dX10_canInterline_9 : decode cX10_canInterline 9 = .ok (.iload_n 1, 1) := by decide +kernel
theorem dX10_canInterline_10 : decode cX10_canInterline 10 = .ok (.iconst 0, 1) := by decide +kernel
theorem dX10_canInterline_11 : decode cX10_canInterline 11 = .ok (.invokevirtual 483, 3) := by decide +kernel
theorem dX10_canInterline_14 : decode cX10_canInterline 14 = .ok (.ifCond .eq 21, 3) := by decide +kernel
theorem dX10_canInterline_17 : decode cX10_canInterline 17 = .ok (.aload_n 0, 1) := by decide +kernel
theorem dX10_canInterline_18 : decode cX10_canInterline 18 = .ok (.aload_n 0, 1) := by decide +kernel
theorem dX10_canInterline_19 : decode cX10_canInterline 19 = .ok (.iload_n 1, 1) := by decide +kernel
theorem dX10_canInterline_20 : decode cX10_canInterline 20 = .ok (.invokevirtual 200, 3) := by decide +kernel
theorem dX10_canInterline_23 : decode cX10_canInterline 23 = .ok (.iconst 4, 1) := by decide +kernel
theorem dX10_canInterline_24 : decode cX10_canInterline 24 = .ok (.invokevirtual 209, 3) := by decide +kernel
theorem dX10_canInterline_27 : decode cX10_canInterline 27 = .ok (.iconst 4, 1) := by decide +kernel
theorem dX10_canInterline_28 : decode cX10_canInterline 28 = .ok (.if_icmp .ge 7, 3) := by decide +kernel
theorem dX10_canInterline_31 : decode cX10_canInterline 31 = .ok (.iconst 1, 1) := by decide +kernel
theorem dX10_canInterline_32 : decode cX10_canInterline 32 = .ok (.goto 4, 3) := by decide +kernel
theorem dX10_canInterline_35 : decode cX10_canInterline 35 = .ok (.iconst 0, 1) := by decide +kernel
theorem dX10_canInterline_36 : decode cX10_canInterline 36 = .ok (.ireturn, 1) := by decide +kernel
theorem dX10_interline_0 : decode cX10_interline 0 = .ok (.aload_n 0, 1) := by decide +kernel
theorem dX10_interline_1 : decode cX10_interline 1 = .ok (.getfield 48, 3) := by decide +kernel
theorem dX10_interline_4 : decode cX10_interline 4 = .ok (.ifCond .eq 19, 3) := by decide +kernel
theorem dX10_interline_7 : decode cX10_interline 7 = .ok (.iload_n 2, 1) := by decide +kernel
theorem dX10_interline_8 : decode cX10_interline 8 = .ok (.iconst 0, 1) := by decide +kernel
theorem dX10_interline_9 : decode cX10_interline 9 = .ok (.aload_n 0, 1) := by decide +kernel
theorem dX10_interline_10 : decode cX10_interline 10 = .ok (.getfield 56, 3) := by decide +kernel
theorem dX10_interline_13 : decode cX10_interline 13 = .ok (.invokestatic 69, 3) := by decide +kernel
theorem dX10_interline_16 : decode cX10_interline 16 = .ok (.ifCond .eq 7, 3) := by decide +kernel
theorem dX10_interline_19 : decode cX10_interline 19 = .ok (.iconst 1, 1) := by decide +kernel
theorem dX10_interline_20 : decode cX10_interline 20 = .ok (.goto 4, 3) := by decide +kernel
theorem dX10_interline_23 : decode cX10_interline 23 = .ok (.iconst 0, 1) := by decide +kernel
theorem dX10_interline_24 : decode cX10_interline 24 = .ok (.istore_n 3, 1) := by decide +kernel
theorem dX10_interline_25 : decode cX10_interline 25 = .ok (.aload_n 0, 1) := by decide +kernel
theorem dX10_interline_26 : decode cX10_interline 26 = .ok (.aload_n 0, 1) := by decide +kernel
theorem dX10_interline_27 : decode cX10_interline 27 = .ok (.getfield 48, 3) := by decide +kernel
theorem dX10_interline_30 : decode cX10_interline 30 = .ok (.iload_n 3, 1) := by decide +kernel
theorem dX10_interline_31 : decode cX10_interline 31 = .ok (.iload_n 3, 1) := by decide +kernel
theorem dX10_interline_32 : decode cX10_interline 32 = .ok (.ifCond .eq 16, 3) := by decide +kernel
theorem dX10_interline_35 : decode cX10_interline 35 = .ok (.aload_n 0, 1) := by decide +kernel
theorem dX10_interline_36 : decode cX10_interline 36 = .ok (.iload_n 1, 1) := by decide +kernel
theorem dX10_interline_37 : decode cX10_interline 37 = .ok (.iload_n 2, 1) := by decide +kernel
theorem dX10_interline_38 : decode cX10_interline 38 = .ok (.invokevirtual 553, 3) := by decide +kernel
theorem dX10_interline_41 : decode cX10_interline 41 = .ok (.ifCond .eq 7, 3) := by decide +kernel
theorem dX10_interline_44 : decode cX10_interline 44 = .ok (.iconst 1, 1) := by decide +kernel
theorem dX10_interline_45 : decode cX10_interline 45 = .ok (.goto 4, 3) := by decide +kernel
theorem dX10_interline_48 : decode cX10_interline 48 = .ok (.iconst 0, 1) := by decide +kernel
theorem dX10_interline_49 : decode cX10_interline 49 = .ok (.invokevirtual 44, 3) := by decide +kernel
theorem dX10_interline_52 : decode cX10_interline 52 = .ok (.ifCond .ne 5, 3) := by decide +kernel
theorem dX10_interline_55 : decode cX10_interline 55 = .ok (.iconst 0, 1) := by decide +kernel
theorem dX10_interline_56 : decode cX10_interline 56 = .ok (.ireturn, 1) := by decide +kernel
theorem dX10_interline_57 : decode cX10_interline 57 = .ok (.aload_n 0, 1) := by decide +kernel
theorem dX10_interline_58 : decode cX10_interline 58 = .ok (.invokevirtual 550, 3) := by decide +kernel
theorem dX10_interline_61 : decode cX10_interline 61 = .ok (.aload_n 0, 1) := by decide +kernel
theorem dX10_interline_62 : decode cX10_interline 62 = .ok (.iload_n 1, 1) := by decide +kernel
theorem dX10_interline_63 : decode cX10_interline 63 = .ok (.iconst 0, 1) := by decide +kernel
theorem dX10_interline_64 : decode cX10_interline 64 = .ok (.iload_n 2, 1) := by decide +kernel
theorem dX10_interline_65 : decode cX10_interline 65 = .ok (.invokevirtual 212, 3) := by decide +kernel
theorem dX10_interline_68 : decode cX10_interline 68 = .ok (.aload_n 0, 1) := by decide +kernel
theorem dX10_interline_69 : decode cX10_interline 69 = .ok (.iconst 0, 1) := by decide +kernel
theorem dX10_interline_70 : decode cX10_interline 70 = .ok (.putfield 56, 3) := by decide +kernel
theorem dX10_interline_73 : decode cX10_interline 73 = .ok (.aload_n 0, 1) := by decide +kernel
theorem dX10_interline_74 : decode cX10_interline 74 = .ok (.aload_n 0, 1) := by decide +kernel
theorem dX10_interline_75 : decode cX10_interline 75 = .ok (.invokevirtual 179, 3) := by decide +kernel
theorem dX10_interline_78 : decode cX10_interline 78 = .ok (.invokevirtual 343, 3) := by decide +kernel
theorem dX10_interline_81 : decode cX10_interline 81 = .ok (.ireturn, 1) := by decide +kernel
theorem dX10_seal_0 : decode cX10_seal 0 = .ok (.iload_n 1, 1) := by decide +kernel
theorem dX10_seal_1 : decode cX10_seal 1 = .ok (.iconst 0, 1) := by decide +kernel
theorem dX10_seal_2 : decode cX10_seal 2 = .ok (.bipush 9, 2) := by decide +kernel
theorem dX10_seal_4 : decode cX10_seal 4 = .ok (.invokestatic 69, 3) := by decide +kernel
theorem dX10_seal_7 : decode cX10_seal 7 = .ok (.ifCond .eq 17, 3) := by decide +kernel
theorem dX10_seal_10 : decode cX10_seal 10 = .ok (.iload_n 2, 1) := by decide +kernel
theorem dX10_seal_11 : decode cX10_seal 11 = .ok (.iconst 0, 1) := by decide +kernel
theorem dX10_seal_12 : decode cX10_seal 12 = .ok (.bipush 99, 2) := by decide +kernel
theorem dX10_seal_14 : decode cX10_seal 14 = .ok (.invokestatic 69, 3) := by decide +kernel
theorem dX10_seal_17 : decode cX10_seal 17 = .ok (.ifCond .eq 7, 3) := by decide +kernel
theorem dX10_seal_20 : decode cX10_seal 20 = .ok (.iconst 1, 1) := by decide +kernel
theorem dX10_seal_21 : decode cX10_seal 21 = .ok (.goto 4, 3) := by decide +kernel
theorem dX10_seal_24 : decode cX10_seal 24 = .ok (.iconst 0, 1) := by decide +kernel
theorem dX10_seal_25 : decode cX10_seal 25 = .ok (.istore_n 3, 1) := by decide +kernel
theorem dX10_seal_26 : decode cX10_seal 26 = .ok (.aload_n 0, 1) := by decide +kernel
theorem dX10_seal_27 : decode cX10_seal 27 = .ok (.aload_n 0, 1) := by decide +kernel
theorem dX10_seal_28 : decode cX10_seal 28 = .ok (.getfield 48, 3) := by decide +kernel
theorem dX10_seal_31 : decode cX10_seal 31 = .ok (.aload_n 0, 1) := by decide +kernel
theorem dX10_seal_32 : decode cX10_seal 32 = .ok (.getfield 48, 3) := by decide +kernel
theorem dX10_seal_35 : decode cX10_seal 35 = .ok (.ifCond .eq 20, 3) := by decide +kernel
theorem dX10_seal_38 : decode cX10_seal 38 = .ok (.iload_n 3, 1) := by decide +kernel
theorem dX10_seal_39 : decode cX10_seal 39 = .ok (.ifCond .eq 16, 3) := by decide +kernel
theorem dX10_seal_42 : decode cX10_seal 42 = .ok (.aload_n 0, 1) := by decide +kernel
theorem dX10_seal_43 : decode cX10_seal 43 = .ok (.iload_n 1, 1) := by decide +kernel
theorem dX10_seal_44 : decode cX10_seal 44 = .ok (.iload_n 2, 1) := by decide +kernel
theorem dX10_seal_45 : decode cX10_seal 45 = .ok (.invokevirtual 218, 3) := by decide +kernel
theorem dX10_seal_48 : decode cX10_seal 48 = .ok (.ifCond .ne 7, 3) := by decide +kernel
theorem dX10_seal_51 : decode cX10_seal 51 = .ok (.iconst 1, 1) := by decide +kernel
theorem dX10_seal_52 : decode cX10_seal 52 = .ok (.goto 4, 3) := by decide +kernel
theorem dX10_seal_55 : decode cX10_seal 55 = .ok (.iconst 0, 1) := by decide +kernel
theorem dX10_seal_56 : decode cX10_seal 56 = .ok (.invokevirtual 380, 3) := by decide +kernel
theorem dX10_seal_59 : decode cX10_seal 59 = .ok (.ifCond .ne 5, 3) := by decide +kernel
theorem dX10_seal_62 : decode cX10_seal 62 = .ok (.iconst 0, 1) := by decide +kernel
theorem dX10_seal_63 : decode cX10_seal 63 = .ok (.ireturn, 1) := by decide +kernel
theorem dX10_seal_64 : decode cX10_seal 64 = .ok (.aload_n 0, 1) := by decide +kernel
theorem dX10_seal_65 : decode cX10_seal 65 = .ok (.invokevirtual 550, 3) := by decide +kernel
theorem dX10_seal_68 : decode cX10_seal 68 = .ok (.aload_n 0, 1) := by decide +kernel
theorem dX10_seal_69 : decode cX10_seal 69 = .ok (.iload_n 1, 1) := by decide +kernel
theorem dX10_seal_70 : decode cX10_seal 70 = .ok (.invokevirtual 221, 3) := by decide +kernel
theorem dX10_seal_73 : decode cX10_seal 73 = .ok (.ireturn, 1) := by decide +kernel
theorem dX10_cancel_0 : decode cX10_cancel 0 = .ok (.aload_n 0, 1) := by decide +kernel
theorem dX10_cancel_1 : decode cX10_cancel 1 = .ok (.aload_n 0, 1) := by decide +kernel
theorem dX10_cancel_2 : decode cX10_cancel 2 = .ok (.getfield 48, 3) := by decide +kernel
theorem dX10_cancel_5 : decode cX10_cancel 5 = .ok (.aload_n 0, 1) := by decide +kernel
theorem dX10_cancel_6 : decode cX10_cancel 6 = .ok (.getfield 48, 3) := by decide +kernel
theorem dX10_cancel_9 : decode cX10_cancel 9 = .ok (.ifCond .eq 15, 3) := by decide +kernel
theorem dX10_cancel_12 : decode cX10_cancel 12 = .ok (.aload_n 0, 1) := by decide +kernel
theorem dX10_cancel_13 : decode cX10_cancel 13 = .ok (.invokevirtual 179, 3) := by decide +kernel
theorem dX10_cancel_16 : decode cX10_cancel 16 = .ok (.iconst (-1), 1) := by decide +kernel
theorem dX10_cancel_17 : decode cX10_cancel 17 = .ok (.if_icmp .eq 7, 3) := by decide +kernel
theorem dX10_cancel_20 : decode cX10_cancel 20 = .ok (.iconst 1, 1) := by decide +kernel
theorem dX10_cancel_21 : decode cX10_cancel 21 = .ok (.goto 4, 3) := by decide +kernel
theorem dX10_cancel_24 : decode cX10_cancel 24 = .ok (.iconst 0, 1) := by decide +kernel
theorem dX10_cancel_25 : decode cX10_cancel 25 = .ok (.invokevirtual 380, 3) := by decide +kernel
theorem dX10_cancel_28 : decode cX10_cancel 28 = .ok (.ifCond .ne 5, 3) := by decide +kernel
theorem dX10_cancel_31 : decode cX10_cancel 31 = .ok (.iconst 0, 1) := by decide +kernel
theorem dX10_cancel_32 : decode cX10_cancel 32 = .ok (.ireturn, 1) := by decide +kernel
theorem dX10_cancel_33 : decode cX10_cancel 33 = .ok (.aload_n 0, 1) := by decide +kernel
theorem dX10_cancel_34 : decode cX10_cancel 34 = .ok (.invokevirtual 550, 3) := by decide +kernel
theorem dX10_cancel_37 : decode cX10_cancel 37 = .ok (.aload_n 0, 1) := by decide +kernel
theorem dX10_cancel_38 : decode cX10_cancel 38 = .ok (.aload_n 0, 1) := by decide +kernel
theorem dX10_cancel_39 : decode cX10_cancel 39 = .ok (.invokevirtual 179, 3) := by decide +kernel
theorem dX10_cancel_42 : decode cX10_cancel 42 = .ok (.iconst 1, 1) := by decide +kernel
theorem dX10_cancel_43 : decode cX10_cancel 43 = .ok (.iconst 2, 1) := by decide +kernel
theorem dX10_cancel_44 : decode cX10_cancel 44 = .ok (.invokevirtual 141, 3) := by decide +kernel
theorem dX10_cancel_47 : decode cX10_cancel 47 = .ok (.aload_n 0, 1) := by decide +kernel
theorem dX10_cancel_48 : decode cX10_cancel 48 = .ok (.getfield 9, 3) := by decide +kernel
theorem dX10_cancel_51 : decode cX10_cancel 51 = .ok (.iconst 3, 1) := by decide +kernel
theorem dX10_cancel_52 : decode cX10_cancel 52 = .ok (.iaload, 1) := by decide +kernel
theorem dX10_cancel_53 : decode cX10_cancel 53 = .ok (.ireturn, 1) := by decide +kernel
theorem dX10_addCopy_0 : decode cX10_addCopy 0 = .ok (.aload_n 0, 1) := by decide +kernel
theorem dX10_addCopy_1 : decode cX10_addCopy 1 = .ok (.iload_n 1, 1) := by decide +kernel
theorem dX10_addCopy_2 : decode cX10_addCopy 2 = .ok (.invokevirtual 399, 3) := by decide +kernel
theorem dX10_addCopy_5 : decode cX10_addCopy 5 = .ok (.istore_n 3, 1) := by decide +kernel
theorem dX10_addCopy_6 : decode cX10_addCopy 6 = .ok (.aload_n 0, 1) := by decide +kernel
theorem dX10_addCopy_7 : decode cX10_addCopy 7 = .ok (.aload_n 0, 1) := by decide +kernel
theorem dX10_addCopy_8 : decode cX10_addCopy 8 = .ok (.getfield 48, 3) := by decide +kernel
theorem dX10_addCopy_11 : decode cX10_addCopy 11 = .ok (.iload_n 3, 1) := by decide +kernel
theorem dX10_addCopy_12 : decode cX10_addCopy 12 = .ok (.iload_n 3, 1) := by decide +kernel
theorem dX10_addCopy_13 : decode cX10_addCopy 13 = .ok (.ifCond .eq 25, 3) := by decide +kernel
theorem dX10_addCopy_16 : decode cX10_addCopy 16 = .ok (.iload_n 2, 1) := by decide +kernel
theorem dX10_addCopy_17 : decode cX10_addCopy 17 = .ok (.invokestatic 471, 3) := by decide +kernel
theorem dX10_addCopy_20 : decode cX10_addCopy 20 = .ok (.ifCond .eq 18, 3) := by decide +kernel
theorem dX10_addCopy_23 : decode cX10_addCopy 23 = .ok (.aload_n 0, 1) := by decide +kernel
theorem dX10_addCopy_24 : decode cX10_addCopy 24 = .ok (.iload_n 1, 1) := by decide +kernel
theorem dX10_addCopy_25 : decode cX10_addCopy 25 = .ok (.iconst 1, 1) := by decide +kernel
theorem dX10_addCopy_26 : decode cX10_addCopy 26 = .ok (.isub, 1) := by decide +kernel
theorem dX10_addCopy_27 : decode cX10_addCopy 27 = .ok (.iload_n 2, 1) := by decide +kernel
theorem dX10_addCopy_28 : decode cX10_addCopy 28 = .ok (.invokevirtual 224, 3) := by decide +kernel
theorem dX10_addCopy_31 : decode cX10_addCopy 31 = .ok (.ifCond .ne 7, 3) := by decide +kernel
theorem dX10_addCopy_34 : decode cX10_addCopy 34 = .ok (.iconst 1, 1) := by decide +kernel
theorem dX10_addCopy_35 : decode cX10_addCopy 35 = .ok (.goto 4, 3) := by decide +kernel
theorem dX10_addCopy_38 : decode cX10_addCopy 38 = .ok (.iconst 0, 1) := by decide +kernel
theorem dX10_addCopy_39 : decode cX10_addCopy 39 = .ok (.invokevirtual 44, 3) := by decide +kernel
theorem dX10_addCopy_42 : decode cX10_addCopy 42 = .ok (.ifCond .ne 5, 3) := by decide +kernel
theorem dX10_addCopy_45 : decode cX10_addCopy 45 = .ok (.iconst 0, 1) := by decide +kernel
theorem dX10_addCopy_46 : decode cX10_addCopy 46 = .ok (.ireturn, 1) := by decide +kernel
theorem dX10_addCopy_47 : decode cX10_addCopy 47 = .ok (.aload_n 0, 1) := by decide +kernel
theorem dX10_addCopy_48 : decode cX10_addCopy 48 = .ok (.invokevirtual 550, 3) := by decide +kernel
theorem dX10_addCopy_51 : decode cX10_addCopy 51 = .ok (.aload_n 0, 1) := by decide +kernel
theorem dX10_addCopy_52 : decode cX10_addCopy 52 = .ok (.iload_n 1, 1) := by decide +kernel
theorem dX10_addCopy_53 : decode cX10_addCopy 53 = .ok (.iconst 1, 1) := by decide +kernel
theorem dX10_addCopy_54 : decode cX10_addCopy 54 = .ok (.isub, 1) := by decide +kernel
theorem dX10_addCopy_55 : decode cX10_addCopy 55 = .ok (.iload_n 2, 1) := by decide +kernel
theorem dX10_addCopy_56 : decode cX10_addCopy 56 = .ok (.invokevirtual 227, 3) := by decide +kernel
theorem dX10_addCopy_59 : decode cX10_addCopy 59 = .ok (.aload_n 0, 1) := by decide +kernel
theorem dX10_addCopy_60 : decode cX10_addCopy 60 = .ok (.getfield 9, 3) := by decide +kernel
theorem dX10_addCopy_63 : decode cX10_addCopy 63 = .ok (.bipush 6, 2) := by decide +kernel
theorem dX10_addCopy_65 : decode cX10_addCopy 65 = .ok (.iaload, 1) := by decide +kernel
theorem dX10_addCopy_66 : decode cX10_addCopy 66 = .ok (.iconst 1, 1) := by decide +kernel
theorem dX10_addCopy_67 : decode cX10_addCopy 67 = .ok (.isub, 1) := by decide +kernel
theorem dX10_addCopy_68 : decode cX10_addCopy 68 = .ok (.ireturn, 1) := by decide +kernel
theorem dX10_burn_0 : decode cX10_burn 0 = .ok (.aload_n 0, 1) := by decide +kernel
theorem dX10_burn_1 : decode cX10_burn 1 = .ok (.iload_n 1, 1) := by decide +kernel
theorem dX10_burn_2 : decode cX10_burn 2 = .ok (.invokevirtual 540, 3) := by decide +kernel
theorem dX10_burn_5 : decode cX10_burn 5 = .ok (.ifCond .ne 5, 3) := by decide +kernel
theorem dX10_burn_8 : decode cX10_burn 8 = .ok (.iconst 0, 1) := by decide +kernel
theorem dX10_burn_9 : decode cX10_burn 9 = .ok (.ireturn, 1) := by decide +kernel
theorem dX10_burn_10 : decode cX10_burn 10 = .ok (.aload_n 0, 1) := by decide +kernel
theorem dX10_burn_11 : decode cX10_burn 11 = .ok (.invokevirtual 550, 3) := by decide +kernel
theorem dX10_burn_14 : decode cX10_burn 14 = .ok (.aload_n 0, 1) := by decide +kernel
theorem dX10_burn_15 : decode cX10_burn 15 = .ok (.getfield 9, 3) := by decide +kernel
theorem dX10_burn_18 : decode cX10_burn 18 = .ok (.bipush 8, 2) := by decide +kernel
theorem dX10_burn_20 : decode cX10_burn 20 = .ok (.dup2, 1) := by decide +kernel
theorem dX10_burn_21 : decode cX10_burn 21 = .ok (.iaload, 1) := by decide +kernel
theorem dX10_burn_22 : decode cX10_burn 22 = .ok (.aload_n 0, 1) := by decide +kernel
theorem dX10_burn_23 : decode cX10_burn 23 = .ok (.iload_n 1, 1) := by decide +kernel
theorem dX10_burn_24 : decode cX10_burn 24 = .ok (.iconst 1, 1) := by decide +kernel
theorem dX10_burn_25 : decode cX10_burn 25 = .ok (.invokevirtual 355, 3) := by decide +kernel
theorem dX10_burn_28 : decode cX10_burn 28 = .ok (.invokestatic 377, 3) := by decide +kernel
theorem dX10_burn_31 : decode cX10_burn 31 = .ok (.iadd, 1) := by decide +kernel
theorem dX10_burn_32 : decode cX10_burn 32 = .ok (.iastore, 1) := by decide +kernel
theorem dX10_burn_33 : decode cX10_burn 33 = .ok (.iconst 2, 1) := by decide +kernel
theorem dX10_burn_34 : decode cX10_burn 34 = .ok (.iload_n 1, 1) := by decide +kernel
theorem dX10_burn_35 : decode cX10_burn 35 = .ok (.imul, 1) := by decide +kernel
theorem dX10_burn_36 : decode cX10_burn 36 = .ok (.istore_n 2, 1) := by decide +kernel
theorem dX10_burn_37 : decode cX10_burn 37 = .ok (.iload_n 2, 1) := by decide +kernel
theorem dX10_burn_38 : decode cX10_burn 38 = .ok (.iconst 2, 1) := by decide +kernel
theorem dX10_burn_39 : decode cX10_burn 39 = .ok (.aload_n 0, 1) := by decide +kernel
theorem dX10_burn_40 : decode cX10_burn 40 = .ok (.getfield 9, 3) := by decide +kernel
theorem dX10_burn_43 : decode cX10_burn 43 = .ok (.bipush 6, 2) := by decide +kernel
theorem dX10_burn_45 : decode cX10_burn 45 = .ok (.iaload, 1) := by decide +kernel
theorem dX10_burn_46 : decode cX10_burn 46 = .ok (.iconst 1, 1) := by decide +kernel
theorem dX10_burn_47 : decode cX10_burn 47 = .ok (.isub, 1) := by decide +kernel
theorem dX10_burn_48 : decode cX10_burn 48 = .ok (.imul, 1) := by decide +kernel
theorem dX10_burn_49 : decode cX10_burn 49 = .ok (.if_icmp .ge 29, 3) := by decide +kernel
theorem dX10_burn_52 : decode cX10_burn 52 = .ok (.aload_n 0, 1) := by decide +kernel
theorem dX10_burn_53 : decode cX10_burn 53 = .ok (.getfield 9, 3) := by decide +kernel
theorem dX10_burn_56 : decode cX10_burn 56 = .ok (.bipush 111, 2) := by decide +kernel
theorem dX10_burn_58 : decode cX10_burn 58 = .ok (.iload_n 2, 1) := by decide +kernel
theorem dX10_burn_59 : decode cX10_burn 59 = .ok (.iadd, 1) := by decide +kernel
theorem dX10_burn_60 : decode cX10_burn 60 = .ok (.aload_n 0, 1) := by decide +kernel
theorem dX10_burn_61 : decode cX10_burn 61 = .ok (.getfield 9, 3) := by decide +kernel
theorem dX10_burn_64 : decode cX10_burn 64 = .ok (.bipush 111, 2) := by decide +kernel
theorem dX10_burn_66 : decode cX10_burn 66 = .ok (.iload_n 2, 1) := by decide +kernel
theorem dX10_burn_67 : decode cX10_burn 67 = .ok (.iadd, 1) := by decide +kernel
theorem dX10_burn_68 : decode cX10_burn 68 = .ok (.iconst 2, 1) := by decide +kernel
theorem dX10_burn_69 : decode cX10_burn 69 = .ok (.iadd, 1) := by decide +kernel
theorem dX10_burn_70 : decode cX10_burn 70 = .ok (.iaload, 1) := by decide +kernel
theorem dX10_burn_71 : decode cX10_burn 71 = .ok (.iastore, 1) := by decide +kernel
theorem dX10_burn_72 : decode cX10_burn 72 = .ok (.iinc 2 1, 3) := by decide +kernel
theorem dX10_burn_75 : decode cX10_burn 75 = .ok (.goto (-38), 3) := by decide +kernel
theorem dX10_burn_78 : decode cX10_burn 78 = .ok (.aload_n 0, 1) := by decide +kernel
theorem dX10_burn_79 : decode cX10_burn 79 = .ok (.getfield 9, 3) := by decide +kernel
theorem dX10_burn_82 : decode cX10_burn 82 = .ok (.bipush 6, 2) := by decide +kernel
theorem dX10_burn_84 : decode cX10_burn 84 = .ok (.dup2, 1) := by decide +kernel
theorem dX10_burn_85 : decode cX10_burn 85 = .ok (.iaload, 1) := by decide +kernel
theorem dX10_burn_86 : decode cX10_burn 86 = .ok (.iconst 1, 1) := by decide +kernel
theorem dX10_burn_87 : decode cX10_burn 87 = .ok (.isub, 1) := by decide +kernel
theorem dX10_burn_88 : decode cX10_burn 88 = .ok (.iastore, 1) := by decide +kernel
theorem dX10_burn_89 : decode cX10_burn 89 = .ok (.aload_n 0, 1) := by decide +kernel
theorem dX10_burn_90 : decode cX10_burn 90 = .ok (.getfield 9, 3) := by decide +kernel
theorem dX10_burn_93 : decode cX10_burn 93 = .ok (.bipush 6, 2) := by decide +kernel
theorem dX10_burn_95 : decode cX10_burn 95 = .ok (.iaload, 1) := by decide +kernel
theorem dX10_burn_96 : decode cX10_burn 96 = .ok (.ireturn, 1) := by decide +kernel
theorem dX10_lose_0 : decode cX10_lose 0 = .ok (.aload_n 0, 1) := by decide +kernel
theorem dX10_lose_1 : decode cX10_lose 1 = .ok (.iload_n 1, 1) := by decide +kernel
theorem dX10_lose_2 : decode cX10_lose 2 = .ok (.invokevirtual 402, 3) := by decide +kernel
theorem dX10_lose_5 : decode cX10_lose 5 = .ok (.istore_n 2, 1) := by decide +kernel
theorem dX10_lose_6 : decode cX10_lose 6 = .ok (.aload_n 0, 1) := by decide +kernel
theorem dX10_lose_7 : decode cX10_lose 7 = .ok (.aload_n 0, 1) := by decide +kernel
theorem dX10_lose_8 : decode cX10_lose 8 = .ok (.getfield 48, 3) := by decide +kernel
theorem dX10_lose_11 : decode cX10_lose 11 = .ok (.iload_n 2, 1) := by decide +kernel
theorem dX10_lose_12 : decode cX10_lose 12 = .ok (.iload_n 2, 1) := by decide +kernel
theorem dX10_lose_13 : decode cX10_lose 13 = .ok (.ifCond .eq 16, 3) := by decide +kernel
theorem dX10_lose_16 : decode cX10_lose 16 = .ok (.aload_n 0, 1) := by decide +kernel
theorem dX10_lose_17 : decode cX10_lose 17 = .ok (.iload_n 1, 1) := by decide +kernel
theorem dX10_lose_18 : decode cX10_lose 18 = .ok (.invokevirtual 237, 3) := by decide +kernel
theorem dX10_lose_21 : decode cX10_lose 21 = .ok (.iconst 2, 1) := by decide +kernel
theorem dX10_lose_22 : decode cX10_lose 22 = .ok (.if_icmp .eq 7, 3) := by decide +kernel
theorem dX10_lose_25 : decode cX10_lose 25 = .ok (.iconst 1, 1) := by decide +kernel
theorem dX10_lose_26 : decode cX10_lose 26 = .ok (.goto 4, 3) := by decide +kernel
theorem dX10_lose_29 : decode cX10_lose 29 = .ok (.iconst 0, 1) := by decide +kernel
theorem dX10_lose_30 : decode cX10_lose 30 = .ok (.invokevirtual 44, 3) := by decide +kernel
theorem dX10_lose_33 : decode cX10_lose 33 = .ok (.ifCond .ne 5, 3) := by decide +kernel
theorem dX10_lose_36 : decode cX10_lose 36 = .ok (.iconst 0, 1) := by decide +kernel
theorem dX10_lose_37 : decode cX10_lose 37 = .ok (.ireturn, 1) := by decide +kernel
theorem dX10_lose_38 : decode cX10_lose 38 = .ok (.aload_n 0, 1) := by decide +kernel
theorem dX10_lose_39 : decode cX10_lose 39 = .ok (.invokevirtual 550, 3) := by decide +kernel
theorem dX10_lose_42 : decode cX10_lose 42 = .ok (.aload_n 0, 1) := by decide +kernel
theorem dX10_lose_43 : decode cX10_lose 43 = .ok (.invokevirtual 396, 3) := by decide +kernel
theorem dX10_lose_46 : decode cX10_lose 46 = .ok (.istore_n 3, 1) := by decide +kernel
theorem dX10_lose_47 : decode cX10_lose 47 = .ok (.aload_n 0, 1) := by decide +kernel
theorem dX10_lose_48 : decode cX10_lose 48 = .ok (.iload_n 1, 1) := by decide +kernel
theorem dX10_lose_49 : decode cX10_lose 49 = .ok (.invokevirtual 240, 3) := by decide +kernel
theorem dX10_lose_52 : decode cX10_lose 52 = .ok (.aload_n 0, 1) := by decide +kernel
theorem dX10_lose_53 : decode cX10_lose 53 = .ok (.invokevirtual 396, 3) := by decide +kernel
theorem dX10_lose_56 : decode cX10_lose 56 = .ok (.iload_n 3, 1) := by decide +kernel
theorem dX10_lose_57 : decode cX10_lose 57 = .ok (.isub, 1) := by decide +kernel
theorem dX10_lose_58 : decode cX10_lose 58 = .ok (.ireturn, 1) := by decide +kernel
theorem dX10_recover_0 : decode cX10_recover 0 = .ok (.aload_n 0, 1) := by decide +kernel
theorem dX10_recover_1 : decode cX10_recover 1 = .ok (.iload_n 1, 1) := by decide +kernel
theorem dX10_recover_2 : decode cX10_recover 2 = .ok (.invokevirtual 402, 3) := by decide +kernel
theorem dX10_recover_5 : decode cX10_recover 5 = .ok (.istore_n 2, 1) := by decide +kernel
theorem dX10_recover_6 : decode cX10_recover 6 = .ok (.aload_n 0, 1) := by decide +kernel
theorem dX10_recover_7 : decode cX10_recover 7 = .ok (.aload_n 0, 1) := by decide +kernel
theorem dX10_recover_8 : decode cX10_recover 8 = .ok (.getfield 48, 3) := by decide +kernel
theorem dX10_recover_11 : decode cX10_recover 11 = .ok (.iload_n 2, 1) := by decide +kernel
theorem dX10_recover_12 : decode cX10_recover 12 = .ok (.iload_n 2, 1) := by decide +kernel
theorem dX10_recover_13 : decode cX10_recover 13 = .ok (.ifCond .eq 16, 3) := by decide +kernel
theorem dX10_recover_16 : decode cX10_recover 16 = .ok (.aload_n 0, 1) := by decide +kernel
theorem dX10_recover_17 : decode cX10_recover 17 = .ok (.iload_n 1, 1) := by decide +kernel
theorem dX10_recover_18 : decode cX10_recover 18 = .ok (.invokevirtual 237, 3) := by decide +kernel
theorem dX10_recover_21 : decode cX10_recover 21 = .ok (.iconst 2, 1) := by decide +kernel
theorem dX10_recover_22 : decode cX10_recover 22 = .ok (.if_icmp .ne 7, 3) := by decide +kernel
theorem dX10_recover_25 : decode cX10_recover 25 = .ok (.iconst 1, 1) := by decide +kernel
theorem dX10_recover_26 : decode cX10_recover 26 = .ok (.goto 4, 3) := by decide +kernel
theorem dX10_recover_29 : decode cX10_recover 29 = .ok (.iconst 0, 1) := by decide +kernel
theorem dX10_recover_30 : decode cX10_recover 30 = .ok (.invokevirtual 44, 3) := by decide +kernel
theorem dX10_recover_33 : decode cX10_recover 33 = .ok (.ifCond .ne 5, 3) := by decide +kernel
theorem dX10_recover_36 : decode cX10_recover 36 = .ok (.iconst 0, 1) := by decide +kernel
theorem dX10_recover_37 : decode cX10_recover 37 = .ok (.ireturn, 1) := by decide +kernel
theorem dX10_recover_38 : decode cX10_recover 38 = .ok (.aload_n 0, 1) := by decide +kernel
theorem dX10_recover_39 : decode cX10_recover 39 = .ok (.invokevirtual 550, 3) := by decide +kernel
theorem dX10_recover_42 : decode cX10_recover 42 = .ok (.aload_n 0, 1) := by decide +kernel
theorem dX10_recover_43 : decode cX10_recover 43 = .ok (.invokevirtual 396, 3) := by decide +kernel
theorem dX10_recover_46 : decode cX10_recover 46 = .ok (.istore_n 3, 1) := by decide +kernel
theorem dX10_recover_47 : decode cX10_recover 47 = .ok (.aload_n 0, 1) := by decide +kernel
theorem dX10_recover_48 : decode cX10_recover 48 = .ok (.iload_n 1, 1) := by decide +kernel
theorem dX10_recover_49 : decode cX10_recover 49 = .ok (.invokevirtual 243, 3) := by decide +kernel
theorem dX10_recover_52 : decode cX10_recover 52 = .ok (.iload_n 3, 1) := by decide +kernel
theorem dX10_recover_53 : decode cX10_recover 53 = .ok (.aload_n 0, 1) := by decide +kernel
theorem dX10_recover_54 : decode cX10_recover 54 = .ok (.invokevirtual 396, 3) := by decide +kernel
theorem dX10_recover_57 : decode cX10_recover 57 = .ok (.isub, 1) := by decide +kernel
theorem dX10_recover_58 : decode cX10_recover 58 = .ok (.ireturn, 1) := by decide +kernel
theorem dX10_sew_0 : decode cX10_sew 0 = .ok (.aload_n 0, 1) := by decide +kernel
theorem dX10_sew_1 : decode cX10_sew 1 = .ok (.iload_n 1, 1) := by decide +kernel
theorem dX10_sew_2 : decode cX10_sew 2 = .ok (.invokevirtual 402, 3) := by decide +kernel
theorem dX10_sew_5 : decode cX10_sew 5 = .ok (.istore_n 2, 1) := by decide +kernel
theorem dX10_sew_6 : decode cX10_sew 6 = .ok (.aload_n 0, 1) := by decide +kernel
theorem dX10_sew_7 : decode cX10_sew 7 = .ok (.aload_n 0, 1) := by decide +kernel
theorem dX10_sew_8 : decode cX10_sew 8 = .ok (.getfield 48, 3) := by decide +kernel
theorem dX10_sew_11 : decode cX10_sew 11 = .ok (.iload_n 2, 1) := by decide +kernel
theorem dX10_sew_12 : decode cX10_sew 12 = .ok (.iload_n 2, 1) := by decide +kernel
theorem dX10_sew_13 : decode cX10_sew 13 = .ok (.ifCond .eq 16, 3) := by decide +kernel
theorem dX10_sew_16 : decode cX10_sew 16 = .ok (.aload_n 0, 1) := by decide +kernel
theorem dX10_sew_17 : decode cX10_sew 17 = .ok (.iload_n 1, 1) := by decide +kernel
theorem dX10_sew_18 : decode cX10_sew 18 = .ok (.invokevirtual 237, 3) := by decide +kernel
theorem dX10_sew_21 : decode cX10_sew 21 = .ok (.iconst 1, 1) := by decide +kernel
theorem dX10_sew_22 : decode cX10_sew 22 = .ok (.if_icmp .ne 7, 3) := by decide +kernel
theorem dX10_sew_25 : decode cX10_sew 25 = .ok (.iconst 1, 1) := by decide +kernel
theorem dX10_sew_26 : decode cX10_sew 26 = .ok (.goto 4, 3) := by decide +kernel
theorem dX10_sew_29 : decode cX10_sew 29 = .ok (.iconst 0, 1) := by decide +kernel
theorem dX10_sew_30 : decode cX10_sew 30 = .ok (.invokevirtual 44, 3) := by decide +kernel
theorem dX10_sew_33 : decode cX10_sew 33 = .ok (.ifCond .ne 5, 3) := by decide +kernel
theorem dX10_sew_36 : decode cX10_sew 36 = .ok (.iconst 0, 1) := by decide +kernel
theorem dX10_sew_37 : decode cX10_sew 37 = .ok (.ireturn, 1) := by decide +kernel
theorem dX10_sew_38 : decode cX10_sew 38 = .ok (.aload_n 0, 1) := by decide +kernel
theorem dX10_sew_39 : decode cX10_sew 39 = .ok (.invokevirtual 550, 3) := by decide +kernel
theorem dX10_sew_42 : decode cX10_sew 42 = .ok (.aload_n 0, 1) := by decide +kernel
theorem dX10_sew_43 : decode cX10_sew 43 = .ok (.getfield 9, 3) := by decide +kernel
theorem dX10_sew_46 : decode cX10_sew 46 = .ok (.bipush 99, 2) := by decide +kernel
theorem dX10_sew_48 : decode cX10_sew 48 = .ok (.iload_n 1, 1) := by decide +kernel
theorem dX10_sew_49 : decode cX10_sew 49 = .ok (.iadd, 1) := by decide +kernel
theorem dX10_sew_50 : decode cX10_sew 50 = .ok (.iconst 0, 1) := by decide +kernel
theorem dX10_sew_51 : decode cX10_sew 51 = .ok (.iastore, 1) := by decide +kernel
theorem dX10_sew_52 : decode cX10_sew 52 = .ok (.aload_n 0, 1) := by decide +kernel
theorem dX10_sew_53 : decode cX10_sew 53 = .ok (.iconst 1, 1) := by decide +kernel
theorem dX10_sew_54 : decode cX10_sew 54 = .ok (.invokevirtual 384, 3) := by decide +kernel
theorem dX10_sew_57 : decode cX10_sew 57 = .ok (.ireturn, 1) := by decide +kernel
theorem dX10_shake_0 : decode cX10_shake 0 = .ok (.aload_n 0, 1) := by decide +kernel
theorem dX10_shake_1 : decode cX10_shake 1 = .ok (.invokevirtual 461, 3) := by decide +kernel
theorem dX10_shake_4 : decode cX10_shake 4 = .ok (.ifCond .ne 5, 3) := by decide +kernel
theorem dX10_shake_7 : decode cX10_shake 7 = .ok (.iconst 0, 1) := by decide +kernel
theorem dX10_shake_8 : decode cX10_shake 8 = .ok (.ireturn, 1) := by decide +kernel
theorem dX10_shake_9 : decode cX10_shake 9 = .ok (.aload_n 0, 1) := by decide +kernel
theorem dX10_shake_10 : decode cX10_shake 10 = .ok (.invokevirtual 550, 3) := by decide +kernel
theorem dX10_shake_13 : decode cX10_shake 13 = .ok (.aload_n 0, 1) := by decide +kernel
theorem dX10_shake_14 : decode cX10_shake 14 = .ok (.invokevirtual 246, 3) := by decide +kernel
theorem dX10_shake_17 : decode cX10_shake 17 = .ok (.ireturn, 1) := by decide +kernel
theorem dX10_undo_0 : decode cX10_undo 0 = .ok (.aload_n 0, 1) := by decide +kernel
theorem dX10_undo_1 : decode cX10_undo 1 = .ok (.aload_n 0, 1) := by decide +kernel
theorem dX10_undo_2 : decode cX10_undo 2 = .ok (.getfield 324, 3) := by decide +kernel
theorem dX10_undo_5 : decode cX10_undo 5 = .ok (.ifCond .le 7, 3) := by decide +kernel
theorem dX10_undo_8 : decode cX10_undo 8 = .ok (.iconst 1, 1) := by decide +kernel
theorem dX10_undo_9 : decode cX10_undo 9 = .ok (.goto 4, 3) := by decide +kernel
theorem dX10_undo_12 : decode cX10_undo 12 = .ok (.iconst 0, 1) := by decide +kernel
theorem dX10_undo_13 : decode cX10_undo 13 = .ok (.iconst 1, 1) := by decide +kernel
theorem dX10_undo_14 : decode cX10_undo 14 = .ok (.iconst 1, 1) := by decide +kernel
theorem dX10_undo_15 : decode cX10_undo 15 = .ok (.invokevirtual 44, 3) := by decide +kernel
theorem dX10_undo_18 : decode cX10_undo 18 = .ok (.ifCond .ne 5, 3) := by decide +kernel
theorem dX10_undo_21 : decode cX10_undo 21 = .ok (.iconst 0, 1) := by decide +kernel
theorem dX10_undo_22 : decode cX10_undo 22 = .ok (.ireturn, 1) := by decide +kernel
theorem dX10_undo_23 : decode cX10_undo 23 = .ok (.aload_n 0, 1) := by decide +kernel
theorem dX10_undo_24 : decode cX10_undo 24 = .ok (.dup, 1) := by decide +kernel
theorem dX10_undo_25 : decode cX10_undo 25 = .ok (.getfield 324, 3) := by decide +kernel
theorem dX10_undo_28 : decode cX10_undo 28 = .ok (.iconst 1, 1) := by decide +kernel
theorem dX10_undo_29 : decode cX10_undo 29 = .ok (.isub, 1) := by decide +kernel
theorem dX10_undo_30 : decode cX10_undo 30 = .ok (.putfield 324, 3) := by decide +kernel
theorem dX10_undo_33 : decode cX10_undo 33 = .ok (.aload_n 0, 1) := by decide +kernel
theorem dX10_undo_34 : decode cX10_undo 34 = .ok (.getfield 17, 3) := by decide +kernel
theorem dX10_undo_37 : decode cX10_undo 37 = .ok (.aload_n 0, 1) := by decide +kernel
theorem dX10_undo_38 : decode cX10_undo 38 = .ok (.getfield 324, 3) := by decide +kernel
theorem dX10_undo_41 : decode cX10_undo 41 = .ok (.sipush 6139, 3) := by decide +kernel
theorem dX10_undo_44 : decode cX10_undo 44 = .ok (.imul, 1) := by decide +kernel
theorem dX10_undo_45 : decode cX10_undo 45 = .ok (.aload_n 0, 1) := by decide +kernel
theorem dX10_undo_46 : decode cX10_undo 46 = .ok (.getfield 9, 3) := by decide +kernel
theorem dX10_undo_49 : decode cX10_undo 49 = .ok (.iconst 0, 1) := by decide +kernel
theorem dX10_undo_50 : decode cX10_undo 50 = .ok (.invokestatic 52, 3) := by decide +kernel
theorem dX10_undo_53 : decode cX10_undo 53 = .ok (.aload_n 0, 1) := by decide +kernel
theorem dX10_undo_54 : decode cX10_undo 54 = .ok (.getfield 324, 3) := by decide +kernel
theorem dX10_undo_57 : decode cX10_undo 57 = .ok (.ireturn, 1) := by decide +kernel
theorem dX10_undoable_0 : decode cX10_undoable 0 = .ok (.aload_n 0, 1) := by decide +kernel
theorem dX10_undoable_1 : decode cX10_undoable 1 = .ok (.iconst 0, 1) := by decide +kernel
theorem dX10_undoable_2 : decode cX10_undoable 2 = .ok (.putfield 41, 3) := by decide +kernel
theorem dX10_undoable_5 : decode cX10_undoable 5 = .ok (.aload_n 0, 1) := by decide +kernel
theorem dX10_undoable_6 : decode cX10_undoable 6 = .ok (.getfield 324, 3) := by decide +kernel
theorem dX10_undoable_9 : decode cX10_undoable 9 = .ok (.ireturn, 1) := by decide +kernel
theorem dX10_isSlot_0 : decode cX10_isSlot 0 = .ok (.iload_n 0, 1) := by decide +kernel
theorem dX10_isSlot_1 : decode cX10_isSlot 1 = .ok (.iconst 0, 1) := by decide +kernel
theorem dX10_isSlot_2 : decode cX10_isSlot 2 = .ok (.iconst 1, 1) := by decide +kernel
theorem dX10_isSlot_3 : decode cX10_isSlot 3 = .ok (.invokestatic 69, 3) := by decide +kernel
theorem dX10_isSlot_6 : decode cX10_isSlot 6 = .ok (.ireturn, 1) := by decide +kernel
theorem dX10_save_0 : decode cX10_save 0 = .ok (.aload_n 0, 1) := by decide +kernel
theorem dX10_save_1 : decode cX10_save 1 = .ok (.aload_n 0, 1) := by decide +kernel
theorem dX10_save_2 : decode cX10_save 2 = .ok (.getfield 48, 3) := by decide +kernel
theorem dX10_save_5 : decode cX10_save 5 = .ok (.iload_n 1, 1) := by decide +kernel
theorem dX10_save_6 : decode cX10_save 6 = .ok (.invokestatic 556, 3) := by decide +kernel
theorem dX10_save_9 : decode cX10_save 9 = .ok (.invokevirtual 380, 3) := by decide +kernel
theorem dX10_save_12 : decode cX10_save 12 = .ok (.ifCond .ne 5, 3) := by decide +kernel
theorem dX10_save_15 : decode cX10_save 15 = .ok (.iconst 0, 1) := by decide +kernel
theorem dX10_save_16 : decode cX10_save 16 = .ok (.ireturn, 1) := by decide +kernel
theorem dX10_save_17 : decode cX10_save 17 = .ok (.aload_n 0, 1) := by decide +kernel
theorem dX10_save_18 : decode cX10_save 18 = .ok (.getfield 9, 3) := by decide +kernel
theorem dX10_save_21 : decode cX10_save 21 = .ok (.iconst 0, 1) := by decide +kernel
theorem dX10_save_22 : decode cX10_save 22 = .ok (.aload_n 0, 1) := by decide +kernel
theorem dX10_save_23 : decode cX10_save 23 = .ok (.getfield 20, 3) := by decide +kernel
theorem dX10_save_26 : decode cX10_save 26 = .ok (.iload_n 1, 1) := by decide +kernel
theorem dX10_save_27 : decode cX10_save 27 = .ok (.sipush 6139, 3) := by decide +kernel
theorem dX10_save_30 : decode cX10_save 30 = .ok (.imul, 1) := by decide +kernel
theorem dX10_save_31 : decode cX10_save 31 = .ok (.invokestatic 52, 3) := by decide +kernel
theorem dX10_save_34 : decode cX10_save 34 = .ok (.aload_n 0, 1) := by decide +kernel
theorem dX10_save_35 : decode cX10_save 35 = .ok (.getfield 23, 3) := by decide +kernel
theorem dX10_save_38 : decode cX10_save 38 = .ok (.iload_n 1, 1) := by decide +kernel
theorem dX10_save_39 : decode cX10_save 39 = .ok (.iconst 1, 1) := by decide +kernel
theorem dX10_save_40 : decode cX10_save 40 = .ok (.bastore, 1) := by decide +kernel
theorem dX10_save_41 : decode cX10_save 41 = .ok (.aload_n 0, 1) := by decide +kernel
theorem dX10_save_42 : decode cX10_save 42 = .ok (.getfield 9, 3) := by decide +kernel
theorem dX10_save_45 : decode cX10_save 45 = .ok (.iconst 3, 1) := by decide +kernel
theorem dX10_save_46 : decode cX10_save 46 = .ok (.iaload, 1) := by decide +kernel
theorem dX10_save_47 : decode cX10_save 47 = .ok (.ireturn, 1) := by decide +kernel
theorem dX10_restore_0 : decode cX10_restore 0 = .ok (.iload_n 1, 1) := by decide +kernel
theorem dX10_restore_1 : decode cX10_restore 1 = .ok (.invokestatic 556, 3) := by decide +kernel
theorem dX10_restore_4 : decode cX10_restore 4 = .ok (.istore_n 2, 1) := by decide +kernel
theorem dX10_restore_5 : decode cX10_restore 5 = .ok (.aload_n 0, 1) := by decide +kernel
theorem dX10_restore_6 : decode cX10_restore 6 = .ok (.iload_n 2, 1) := by decide +kernel
theorem dX10_restore_7 : decode cX10_restore 7 = .ok (.iload_n 2, 1) := by decide +kernel
theorem dX10_restore_8 : decode cX10_restore 8 = .ok (.ifCond .eq 16, 3) := by decide +kernel
theorem dX10_restore_11 : decode cX10_restore 11 = .ok (.aload_n 0, 1) := by decide +kernel
theorem dX10_restore_12 : decode cX10_restore 12 = .ok (.getfield 23, 3) := by decide +kernel
theorem dX10_restore_15 : decode cX10_restore 15 = .ok (.iload_n 1, 1) := by decide +kernel
theorem dX10_restore_16 : decode cX10_restore 16 = .ok (.baload, 1) := by decide +kernel
theorem dX10_restore_17 : decode cX10_restore 17 = .ok (.ifCond .eq 7, 3) := by decide +kernel
theorem dX10_restore_20 : decode cX10_restore 20 = .ok (.iconst 1, 1) := by decide +kernel
theorem dX10_restore_21 : decode cX10_restore 21 = .ok (.goto 4, 3) := by decide +kernel
theorem dX10_restore_24 : decode cX10_restore 24 = .ok (.iconst 0, 1) := by decide +kernel
theorem dX10_restore_25 : decode cX10_restore 25 = .ok (.invokevirtual 380, 3) := by decide +kernel
theorem dX10_restore_28 : decode cX10_restore 28 = .ok (.ifCond .ne 5, 3) := by decide +kernel
theorem dX10_restore_31 : decode cX10_restore 31 = .ok (.iconst 0, 1) := by decide +kernel
theorem dX10_restore_32 : decode cX10_restore 32 = .ok (.ireturn, 1) := by decide +kernel
theorem dX10_restore_33 : decode cX10_restore 33 = .ok (.aload_n 0, 1) := by decide +kernel
theorem dX10_restore_34 : decode cX10_restore 34 = .ok (.getfield 20, 3) := by decide +kernel
theorem dX10_restore_37 : decode cX10_restore 37 = .ok (.iload_n 1, 1) := by decide +kernel
theorem dX10_restore_38 : decode cX10_restore 38 = .ok (.sipush 6139, 3) := by decide +kernel
theorem dX10_restore_41 : decode cX10_restore 41 = .ok (.imul, 1) := by decide +kernel
theorem dX10_restore_42 : decode cX10_restore 42 = .ok (.aload_n 0, 1) := by decide +kernel
theorem dX10_restore_43 : decode cX10_restore 43 = .ok (.getfield 9, 3) := by decide +kernel
theorem dX10_restore_46 : decode cX10_restore 46 = .ok (.iconst 0, 1) := by decide +kernel
theorem dX10_restore_47 : decode cX10_restore 47 = .ok (.invokestatic 52, 3) := by decide +kernel
theorem dX10_restore_50 : decode cX10_restore 50 = .ok (.aload_n 0, 1) := by decide +kernel
theorem dX10_restore_51 : decode cX10_restore 51 = .ok (.iconst 0, 1) := by decide +kernel
theorem dX10_restore_52 : decode cX10_restore 52 = .ok (.putfield 324, 3) := by decide +kernel
theorem dX10_restore_55 : decode cX10_restore 55 = .ok (.aload_n 0, 1) := by decide +kernel
theorem dX10_restore_56 : decode cX10_restore 56 = .ok (.getfield 9, 3) := by decide +kernel
theorem dX10_restore_59 : decode cX10_restore 59 = .ok (.iconst 3, 1) := by decide +kernel
theorem dX10_restore_60 : decode cX10_restore 60 = .ok (.iaload, 1) := by decide +kernel
theorem dX10_restore_61 : decode cX10_restore 61 = .ok (.ireturn, 1) := by decide +kernel
set_option maxRecDepth 100000 in
set_option maxHeartbeats 4000000 in
theorem cX10_isReadc {l : Launch} {v0 : Option Nat} {v1 : Int32} {v2 : Int32} {σ : HpT} {r : Bool} {σ' : HpT} (h : fX10_isRead v0 v1 v2 σ = some (r, σ')) : IsK σ v0 10 ∧ Ct l yX10_isRead cX10_isRead 3 (some .boolean) 6 130 [va_rf v0, .int v1, .int v2] σ (.ok (some (.int (bI r)))) σ' 0 0 := by
  unfold fX10_isRead at h
  replace h := bnP_s h
  obtain ⟨u, hk, h⟩ := h
  replace hk := isK_s hk
  refine ⟨hk, ?_⟩
  refine ct_start mi_X10_isRead.1 rfl (al_le (al_1 (rf_cat _) (al_1 rfl (al_1 rfl al_n))) (Nat.le_of_ble_eq_true rfl)) (ag_1 (rf_cat _) (ag_1 rfl (ag_1 rfl ag_n))) (fun Δ Γ B hE hnm => ?_)
  refine g_aload_n B 0 dX10_isRead_0 rfl rfl ?_
  refine g_iload_n B 2 dX10_isRead_1 rfl rfl ?_
  replace h := bnP_s h
  obtain ⟨s3, h2, h⟩ := h
  refine g_callVv0 (st := []) B (cX10_beginsc h2) (Nat.le_of_ble_eq_true rfl) rfl rfl mi_X10_begins lk_RX10_312 ⟨Nat.le_of_ble_eq_true rfl, Nat.le_of_ble_eq_true rfl⟩ rfl rfl (Nat.le_of_ble_eq_true rfl) dX10_isRead_2 (Nat.zero_le _) (Nat.zero_le _) ?_
  refine g_aload_n B 0 dX10_isRead_5 rfl rfl ?_
  replace h := bnP_s h
  obtain ⟨s6, h5, h⟩ := h
  refine g_callVv0 (st := []) B (cX10_thinksc h5) (Nat.le_of_ble_eq_true rfl) rfl rfl mi_X10_thinks lk_RX10_315 ⟨Nat.le_of_ble_eq_true rfl, Nat.le_of_ble_eq_true rfl⟩ rfl rfl (Nat.le_of_ble_eq_true rfl) dX10_isRead_6 (Nat.zero_le _) (Nat.zero_le _) ?_
  refine g_aload_n B 0 dX10_isRead_9 rfl rfl ?_
  replace h := bnP_s h
  obtain ⟨s9, h8, h⟩ := h
  refine g_callVv0 (st := []) B (cX10_goesc h8) (Nat.le_of_ble_eq_true rfl) rfl rfl mi_X10_goes lk_RX10_122 ⟨Nat.le_of_ble_eq_true rfl, Nat.le_of_ble_eq_true rfl⟩ rfl rfl (Nat.le_of_ble_eq_true rfl) dX10_isRead_10 (Nat.zero_le _) (Nat.zero_le _) ?_
  refine g_aload_n B 0 dX10_isRead_13 rfl rfl ?_
  refine g_aload_n B 0 dX10_isRead_14 rfl rfl ?_
  refine g_iload_n B 1 dX10_isRead_15 rfl rfl ?_
  replace h := bnS_s h
  obtain ⟨x10, s12, h11, h⟩ := h
  refine g_callVs0 (st := [va_rf v0]) B (cX10_addsActc h11) (Nat.le_of_ble_eq_true rfl) rfl rfl mi_X10_addsAct lk_RX10_185 ⟨Nat.le_of_ble_eq_true rfl, Nat.le_of_ble_eq_true rfl⟩ rfl rfl (Nat.le_of_ble_eq_true rfl) dX10_isRead_16 (Nat.zero_le _) (Nat.zero_le _) ?_
  replace h := bnP_s h
  obtain ⟨s15, h14, h⟩ := h
  refine g_callVv0 (st := []) B (cX10_readsBodyc h14) (Nat.le_of_ble_eq_true rfl) rfl rfl mi_X10_readsBody lk_RX10_188 ⟨Nat.le_of_ble_eq_true rfl, Nat.le_of_ble_eq_true rfl⟩ rfl rfl (Nat.le_of_ble_eq_true rfl) dX10_isRead_19 (Nat.zero_le _) (Nat.zero_le _) ?_
  refine g_aload_n B 0 dX10_isRead_22 rfl rfl ?_
  refine g_iconst (v := 1) B dX10_isRead_23 (by decide) ?_
  replace h := bnP_s h
  obtain ⟨x16, h17, h⟩ := h
  refine g_callVs0 (st := []) B (cX10_isc h17) (Nat.le_of_ble_eq_true rfl) rfl rfl mi_X10_is lk_RX10_102 ⟨Nat.le_of_ble_eq_true rfl, Nat.le_of_ble_eq_true rfl⟩ rfl rfl (Nat.le_of_ble_eq_true rfl) dX10_isRead_24 (Nat.zero_le _) (Nat.zero_le _) ?_
  replace h := bnS_s h
  obtain ⟨j18, s26, h19, h⟩ := h
  have k21 : GW Δ Γ (0) (0) 35 [(0, va_rf v0)] [] s26 := by
    refine g_aload_n B 0 dX10_isRead_35 rfl rfl ?_
    replace h := bnP_s h
    obtain ⟨x27, h28, h⟩ := h
    refine g_getI B fl_RX10_73 (by decide) dX10_isRead_36 h28 ?_
    refine g_if_ne B 46 dX10_isRead_39 (by decide) (fun hc => ?_) (fun hc => ?_)
    · replace h := ifn hc h
      refine g_iconst (v := 0) B dX10_isRead_46 (by decide) ?_
      obtain ⟨w1, w2⟩ := inS h
      clear h
      subst w1
      subst w2
      exact g_zret B hE rfl (Nat.zero_le _) (Nat.zero_le _) dX10_isRead_47
    · replace h := ifp hc h
      refine g_iconst (v := 1) B dX10_isRead_42 (by decide) ?_
      refine g_goto B 47 dX10_isRead_43 (by decide) ?_
      obtain ⟨w1, w2⟩ := inS h
      clear h
      subst w1
      subst w2
      exact g_zret B hE rfl (Nat.zero_le _) (Nat.zero_le _) dX10_isRead_47
  clear h
  have h := h19
  clear h19
  refine g_if_ne B 35 dX10_isRead_27 (by decide) (fun hc => ?_) (fun hc => ?_)
  · replace h := ifp (bI1 hc) h
    obtain ⟨w1, w2⟩ := inS h
    clear h
    subst w1
    subst w2
    exact g_sub [0] rfl k21
  · replace h := ifn (bI0 hc) h
    refine g_aload_n B 0 dX10_isRead_30 rfl rfl ?_
    refine g_iconst (v := 1) B dX10_isRead_31 (by decide) ?_
    replace h := bnP_s h
    obtain ⟨s25, h24, h⟩ := h
    refine g_callVv0 (st := []) B (cX10_faultsc h24) (Nat.le_of_ble_eq_true rfl) rfl rfl mi_X10_faults lk_RX10_115 ⟨Nat.le_of_ble_eq_true rfl, Nat.le_of_ble_eq_true rfl⟩ rfl rfl (Nat.le_of_ble_eq_true rfl) dX10_isRead_32 (Nat.zero_le _) (Nat.zero_le _) ?_
    obtain ⟨w1, w2⟩ := inS h
    clear h
    subst w1
    subst w2
    exact g_sub [0] rfl k21
set_option maxRecDepth 100000 in
set_option maxHeartbeats 4000000 in
theorem cX10_canBeginc {l : Launch} {v0 : Option Nat} {v1 : Int32} {σ : HpT} {r : Bool} (h : fX10_canBegin v0 v1 σ = some r) : IsK σ v0 10 ∧ Ct l yX10_canBegin cX10_canBegin 2 (some .boolean) 2 42 [va_rf v0, .int v1] σ (.ok (some (.int (bI r)))) σ 0 0 := by
  unfold fX10_canBegin at h
  replace h := bnP_s h
  obtain ⟨u, hk, h⟩ := h
  replace hk := isK_s hk
  refine ⟨hk, ?_⟩
  refine ct_start mi_X10_canBegin.1 rfl (al_le (al_1 (rf_cat _) (al_1 rfl al_n)) (Nat.le_of_ble_eq_true rfl)) (ag_1 (rf_cat _) (ag_1 rfl ag_n)) (fun Δ Γ B hE hnm => ?_)
  refine g_iload_n B 1 dX10_canBegin_0 rfl rfl ?_
  refine g_iconst (v := 0) B dX10_canBegin_1 (by decide) ?_
  refine g_iconst (v := 2) B dX10_canBegin_2 (by decide) ?_
  replace h := bnP_s h
  obtain ⟨x1, h2, h⟩ := h
  refine g_callSs0 (st := []) B (cX10_inc h2) mi_X10_in lk_RX10_69 ⟨Nat.le_of_ble_eq_true rfl, Nat.le_of_ble_eq_true rfl⟩ rfl rfl (Nat.le_of_ble_eq_true rfl) dX10_canBegin_3 (Nat.zero_le _) (Nat.zero_le _) ?_
  refine g_if_eq B 32 dX10_canBegin_6 (by decide) (fun hc => ?_) (fun hc => ?_)
  · replace h := ifn (bI0 hc) h
    refine g_iconst (v := 0) B dX10_canBegin_32 (by decide) ?_
    replace h := Option.some.inj h
    subst h
    exact g_zret B hE rfl (Nat.zero_le _) (Nat.zero_le _) dX10_canBegin_33
  · replace h := ifp (bI1 hc) h
    refine g_aload_n B 0 dX10_canBegin_9 rfl rfl ?_
    replace h := bnP_s h
    obtain ⟨x3, h4, h⟩ := h
    refine g_callVs0 (st := []) B (cX10_openActc h4) (Nat.le_of_ble_eq_true rfl) rfl rfl mi_X10_openAct lk_RX10_179 ⟨Nat.le_of_ble_eq_true rfl, Nat.le_of_ble_eq_true rfl⟩ rfl rfl (Nat.le_of_ble_eq_true rfl) dX10_canBegin_10 (Nat.zero_le _) (Nat.zero_le _) ?_
    refine g_iconst (v := (-1)) B dX10_canBegin_13 (by decide) ?_
    refine g_icmp_ne B 32 dX10_canBegin_14 (by decide) (fun hc => ?_) (fun hc => ?_)
    · replace h := ifn hc h
      refine g_iconst (v := 0) B dX10_canBegin_32 (by decide) ?_
      replace h := Option.some.inj h
      subst h
      exact g_zret B hE rfl (Nat.zero_le _) (Nat.zero_le _) dX10_canBegin_33
    · replace h := ifp hc h
      refine g_aload_n B 0 dX10_canBegin_17 rfl rfl ?_
      replace h := bnP_s h
      obtain ⟨x5, h6, h⟩ := h
      refine g_getR B fl_RX10_9 (by decide) dX10_canBegin_18 h6 ?_
      refine g_iconst (v := 3) B dX10_canBegin_21 (by decide) ?_
      replace h := bnP_s h
      obtain ⟨x7, h8, h⟩ := h
      refine g_iald B dX10_canBegin_22 h8 ?_
      refine g_bipush (v := 10) B dX10_canBegin_23 (by decide) ?_
      refine g_icmp_ge B 32 dX10_canBegin_25 (by decide) (fun hc => ?_) (fun hc => ?_)
      · replace h := ifp hc h
        refine g_iconst (v := 0) B dX10_canBegin_32 (by decide) ?_
        replace h := Option.some.inj h
        subst h
        exact g_zret B hE rfl (Nat.zero_le _) (Nat.zero_le _) dX10_canBegin_33
      · replace h := ifn hc h
        refine g_iconst (v := 1) B dX10_canBegin_28 (by decide) ?_
        refine g_goto B 33 dX10_canBegin_29 (by decide) ?_
        replace h := Option.some.inj h
        subst h
        exact g_zret B hE rfl (Nat.zero_le _) (Nat.zero_le _) dX10_canBegin_33
set_option maxRecDepth 100000 in
set_option maxHeartbeats 4000000 in
theorem cX10_beginc {l : Launch} {v0 : Option Nat} {v1 : Int32} {v2 : Int32} {σ : HpT} {r : Int32} {σ' : HpT} (h : fX10_begin v0 v1 v2 σ = some (r, σ')) : IsK σ v0 10 ∧ Ct l yX10_begin cX10_begin 5 (some .int) 7 152 [va_rf v0, .int v1, .int v2] σ (.ok (some (.int r))) σ' 0 0 := by
  unfold fX10_begin at h
  replace h := bnP_s h
  obtain ⟨u, hk, h⟩ := h
  replace hk := isK_s hk
  refine ⟨hk, ?_⟩
  refine ct_start mi_X10_begin.1 rfl (al_le (al_1 (rf_cat _) (al_1 rfl (al_1 rfl al_n))) (Nat.le_of_ble_eq_true rfl)) (ag_1 (rf_cat _) (ag_1 rfl (ag_1 rfl ag_n))) (fun Δ Γ B hE hnm => ?_)
  refine g_aload_n B 0 dX10_begin_0 rfl rfl ?_
  refine g_aload_n B 0 dX10_begin_1 rfl rfl ?_
  replace h := bnP_s h
  obtain ⟨x1, h2, h⟩ := h
  refine g_getI B fl_RX10_48 (by decide) dX10_begin_2 h2 ?_
  refine g_iload_n B 2 dX10_begin_5 rfl rfl ?_
  refine g_iconst (v := 0) B dX10_begin_6 (by decide) ?_
  refine g_aload_n B 0 dX10_begin_7 rfl rfl ?_
  replace h := bnP_s h
  obtain ⟨x3, h4, h⟩ := h
  refine g_getI B fl_RX10_56 (by decide) dX10_begin_8 h4 ?_
  replace h := bnP_s h
  obtain ⟨x5, h6, h⟩ := h
  refine g_callSs0 (st := [.int x1, va_rf v0]) B (cX10_inc h6) mi_X10_in lk_RX10_69 ⟨Nat.le_of_ble_eq_true rfl, Nat.le_of_ble_eq_true rfl⟩ rfl rfl (Nat.le_of_ble_eq_true rfl) dX10_begin_11 (Nat.zero_le _) (Nat.zero_le _) ?_
  refine g_aload_n B 0 dX10_begin_14 rfl rfl ?_
  replace h := bnP_s h
  obtain ⟨x7, h8, h⟩ := h
  refine g_getI B fl_RX10_48 (by decide) dX10_begin_15 h8 ?_
  replace h := bnP_s h
  obtain ⟨j9, h10, h⟩ := h
  have k12 : GW Δ Γ (0) (0) 34 [(0, va_rf v0), (1, .int v1), (2, .int v2)] [.int j9.2.2.2, .int j9.2.2.1, .int j9.2.1, va_rf j9.1] σ := by
    replace h := bnS_s h
    obtain ⟨x16, s18, h17, h⟩ := h
    refine g_callVs0 (st := []) B (cX10_mayc h17) (Nat.le_of_ble_eq_true rfl) rfl rfl mi_X10_may lk_RX10_44 ⟨Nat.le_of_ble_eq_true rfl, Nat.le_of_ble_eq_true rfl⟩ rfl rfl (Nat.le_of_ble_eq_true rfl) dX10_begin_34 (Nat.zero_le _) (Nat.zero_le _) ?_
    refine g_if_ne B 42 dX10_begin_37 (by decide) (fun hc => ?_) (fun hc => ?_)
    · replace h := ifp (bI1 hc) h
      refine g_aload_n B 0 dX10_begin_42 rfl rfl ?_
      refine g_iload_n B 1 dX10_begin_43 rfl rfl ?_
      refine g_iload_n B 2 dX10_begin_44 rfl rfl ?_
      replace h := bnS_s h
      obtain ⟨x19, s21, h20, h⟩ := h
      refine g_callVs0 (st := []) B (cX10_isReadc h20) (Nat.le_of_ble_eq_true rfl) rfl rfl mi_X10_isRead lk_RX10_547 ⟨Nat.le_of_ble_eq_true rfl, Nat.le_of_ble_eq_true rfl⟩ rfl rfl (Nat.le_of_ble_eq_true rfl) dX10_begin_45 (Nat.zero_le _) (Nat.zero_le _) ?_
      refine g_istore_n B dX10_begin_48 rfl (Nat.le_of_ble_eq_true rfl) (s1_c (f1_k rfl (f1_k rfl (f1_1 rfl rfl f1_n)))) ?_
      refine g_aload_n B 1 dX10_begin_49 rfl rfl ?_
      refine g_aload_n B 1 dX10_begin_50 rfl rfl ?_
      replace h := bnP_s h
      obtain ⟨x22, h23, h⟩ := h
      refine g_getR B fl_RX10_9 (by decide) dX10_begin_51 h23 ?_
      refine g_iconst (v := 3) B dX10_begin_54 (by decide) ?_
      replace h := bnP_s h
      obtain ⟨x24, h25, h⟩ := h
      refine g_iald B dX10_begin_55 h25 ?_
      replace h := bnS_s h
      obtain ⟨x26, s28, h27, h⟩ := h
      refine g_callVs0 (st := []) B (cX10_backc h27) (Nat.le_of_ble_eq_true rfl) rfl rfl mi_X10_back lk_RX10_321 ⟨Nat.le_of_ble_eq_true rfl, Nat.le_of_ble_eq_true rfl⟩ rfl rfl (Nat.le_of_ble_eq_true rfl) dX10_begin_56 (Nat.zero_le _) (Nat.zero_le _) ?_
      refine g_istore B dX10_begin_59 (Nat.le_of_ble_eq_true rfl) (s1_c (f1_1 rfl rfl (f1_k rfl (f1_k rfl (f1_k rfl f1_n))))) ?_
      refine g_aload_n B 2 dX10_begin_61 rfl rfl ?_
      refine g_iconst (v := 1) B dX10_begin_62 (by decide) ?_
      refine g_iconst (v := 1) B dX10_begin_63 (by decide) ?_
      refine g_iload_n B 1 dX10_begin_64 rfl rfl ?_
      replace h := bnS_s h
      obtain ⟨x29, s31, h30, h⟩ := h
      refine g_callVs0 (st := []) B (cX10_mayc h30) (Nat.le_of_ble_eq_true rfl) rfl rfl mi_X10_may lk_RX10_44 ⟨Nat.le_of_ble_eq_true rfl, Nat.le_of_ble_eq_true rfl⟩ rfl rfl (Nat.le_of_ble_eq_true rfl) dX10_begin_65 (Nat.zero_le _) (Nat.zero_le _) ?_
      refine g_if_ne B 73 dX10_begin_68 (by decide) (fun hc => ?_) (fun hc => ?_)
      · replace h := ifp (bI1 hc) h
        refine g_aload_n B 2 dX10_begin_73 rfl rfl ?_
        replace h := bnP_s h
        obtain ⟨s34, h33, h⟩ := h
        refine g_callVv0 (st := []) B (cX10_remembersc h33) (Nat.le_of_ble_eq_true rfl) rfl rfl mi_X10_remembers lk_RX10_550 ⟨Nat.le_of_ble_eq_true rfl, Nat.le_of_ble_eq_true rfl⟩ rfl rfl (Nat.le_of_ble_eq_true rfl) dX10_begin_74 (Nat.zero_le _) (Nat.zero_le _) ?_
        refine g_aload_n B 2 dX10_begin_77 rfl rfl ?_
        refine g_iload_n B 3 dX10_begin_78 rfl rfl ?_
        refine g_iload_n B 4 dX10_begin_79 rfl rfl ?_
        replace h := bnS_s h
        obtain ⟨x35, s37, h36, h⟩ := h
        refine g_callVs0 (st := []) B (cX10_isReadc h36) (Nat.le_of_ble_eq_true rfl) rfl rfl mi_X10_isRead lk_RX10_547 ⟨Nat.le_of_ble_eq_true rfl, Nat.le_of_ble_eq_true rfl⟩ rfl rfl (Nat.le_of_ble_eq_true rfl) dX10_begin_80 (Nat.zero_le _) (Nat.zero_le _) ?_
        refine g_istore_n B dX10_begin_83 rfl (Nat.le_of_ble_eq_true rfl) (s1_c (f1_k rfl (f1_x (f1_k rfl (f1_k rfl (f1_1 rfl rfl f1_n)))))) ?_
        refine g_aload_n B 2 dX10_begin_84 rfl rfl ?_
        refine g_iconst (v := 0) B dX10_begin_85 (by decide) ?_
        replace h := bnP_s h
        obtain ⟨s40, h39, h⟩ := h
        refine g_putI B fl_RX10_56 (by decide) dX10_begin_86 h39 ?_
        refine g_iload B 1 dX10_begin_89 rfl ?_
        obtain ⟨w1, w2⟩ := inS h
        clear h
        subst w1
        subst w2
        exact g_iret B hE (Nat.zero_le _) (Nat.zero_le _) dX10_begin_91
      · replace h := ifn (bI0 hc) h
        refine g_iconst (v := 0) B dX10_begin_71 (by decide) ?_
        obtain ⟨w1, w2⟩ := inS h
        clear h
        subst w1
        subst w2
        exact g_iret B hE (Nat.zero_le _) (Nat.zero_le _) dX10_begin_72
    · replace h := ifn (bI0 hc) h
      refine g_iconst (v := 0) B dX10_begin_40 (by decide) ?_
      obtain ⟨w1, w2⟩ := inS h
      clear h
      subst w1
      subst w2
      exact g_iret B hE (Nat.zero_le _) (Nat.zero_le _) dX10_begin_41
  clear h
  have h := h10
  clear h10
  refine g_if_eq B 33 dX10_begin_18 (by decide) (fun hc => ?_) (fun hc => ?_)
  · replace h := ifp hc h
    refine g_iconst (v := 0) B dX10_begin_33 (by decide) ?_
    replace h := Option.some.inj h
    subst h
    exact g_sub [0, 1, 2] rfl k12
  · replace h := ifn hc h
    refine g_aload_n B 0 dX10_begin_21 rfl rfl ?_
    refine g_iload_n B 1 dX10_begin_22 rfl rfl ?_
    replace h := bnP_s h
    obtain ⟨x14, h15, h⟩ := h
    refine g_callVs0 (st := [.int (bI x5), .int x1, va_rf v0]) B (cX10_canBeginc h15) (Nat.le_of_ble_eq_true rfl) rfl rfl mi_X10_canBegin lk_RX10_544 ⟨Nat.le_of_ble_eq_true rfl, Nat.le_of_ble_eq_true rfl⟩ rfl rfl (Nat.le_of_ble_eq_true rfl) dX10_begin_23 (Nat.zero_le _) (Nat.zero_le _) ?_
    refine g_if_eq B 33 dX10_begin_26 (by decide) (fun hc => ?_) (fun hc => ?_)
    · replace h := ifn (bI0 hc) h
      refine g_iconst (v := 0) B dX10_begin_33 (by decide) ?_
      replace h := Option.some.inj h
      subst h
      exact g_sub [0, 1, 2] rfl k12
    · replace h := ifp (bI1 hc) h
      refine g_iconst (v := 1) B dX10_begin_29 (by decide) ?_
      refine g_goto B 34 dX10_begin_30 (by decide) ?_
      replace h := Option.some.inj h
      subst h
      exact g_sub [0, 1, 2] rfl k12
set_option maxRecDepth 100000 in
set_option maxHeartbeats 4000000 in
theorem cX10_strikec {l : Launch} {v0 : Option Nat} {v1 : Int32} {σ : HpT} {r : Int32} {σ' : HpT} (h : fX10_strike v0 v1 σ = some (r, σ')) : IsK σ v0 10 ∧ Ct l yX10_strike cX10_strike 2 (some .int) 4 85 [va_rf v0, .int v1] σ (.ok (some (.int r))) σ' 0 0 := by
  unfold fX10_strike at h
  replace h := bnP_s h
  obtain ⟨u, hk, h⟩ := h
  replace hk := isK_s hk
  refine ⟨hk, ?_⟩
  refine ct_start mi_X10_strike.1 rfl (al_le (al_1 (rf_cat _) (al_1 rfl al_n)) (Nat.le_of_ble_eq_true rfl)) (ag_1 (rf_cat _) (ag_1 rfl ag_n)) (fun Δ Γ B hE hnm => ?_)
  refine g_aload_n B 0 dX10_strike_0 rfl rfl ?_
  refine g_aload_n B 0 dX10_strike_1 rfl rfl ?_
  replace h := bnP_s h
  obtain ⟨x1, h2, h⟩ := h
  refine g_getI B fl_RX10_48 (by decide) dX10_strike_2 h2 ?_
  refine g_aload_n B 0 dX10_strike_5 rfl rfl ?_
  replace h := bnP_s h
  obtain ⟨x3, h4, h⟩ := h
  refine g_getI B fl_RX10_48 (by decide) dX10_strike_6 h4 ?_
  replace h := bnP_s h
  obtain ⟨j5, h6, h⟩ := h
  have k8 : GW Δ Γ (0) (0) 25 [(0, va_rf v0), (1, .int v1)] [.int j5.2.2, .int j5.2.1, va_rf j5.1] σ := by
    replace h := bnS_s h
    obtain ⟨x12, s14, h13, h⟩ := h
    refine g_callVs0 (st := []) B (cX10_mayTwoc h13) (Nat.le_of_ble_eq_true rfl) rfl rfl mi_X10_mayTwo lk_RX10_380 ⟨Nat.le_of_ble_eq_true rfl, Nat.le_of_ble_eq_true rfl⟩ rfl rfl (Nat.le_of_ble_eq_true rfl) dX10_strike_25 (Nat.zero_le _) (Nat.zero_le _) ?_
    refine g_if_ne B 33 dX10_strike_28 (by decide) (fun hc => ?_) (fun hc => ?_)
    · replace h := ifp (bI1 hc) h
      refine g_aload_n B 0 dX10_strike_33 rfl rfl ?_
      replace h := bnP_s h
      obtain ⟨s17, h16, h⟩ := h
      refine g_callVv0 (st := []) B (cX10_remembersc h16) (Nat.le_of_ble_eq_true rfl) rfl rfl mi_X10_remembers lk_RX10_550 ⟨Nat.le_of_ble_eq_true rfl, Nat.le_of_ble_eq_true rfl⟩ rfl rfl (Nat.le_of_ble_eq_true rfl) dX10_strike_34 (Nat.zero_le _) (Nat.zero_le _) ?_
      refine g_aload_n B 0 dX10_strike_37 rfl rfl ?_
      refine g_iload_n B 1 dX10_strike_38 rfl rfl ?_
      replace h := bnP_s h
      obtain ⟨s20, h19, h⟩ := h
      refine g_callVv0 (st := []) B (cX10_strikesc h19) (Nat.le_of_ble_eq_true rfl) rfl rfl mi_X10_strikes lk_RX10_197 ⟨Nat.le_of_ble_eq_true rfl, Nat.le_of_ble_eq_true rfl⟩ rfl rfl (Nat.le_of_ble_eq_true rfl) dX10_strike_39 (Nat.zero_le _) (Nat.zero_le _) ?_
      refine g_aload_n B 0 dX10_strike_42 rfl rfl ?_
      refine g_aload_n B 0 dX10_strike_43 rfl rfl ?_
      replace h := bnP_s h
      obtain ⟨x21, h22, h⟩ := h
      refine g_callVs0 (st := [va_rf v0]) B (cX10_openActc h22) (Nat.le_of_ble_eq_true rfl) rfl rfl mi_X10_openAct lk_RX10_179 ⟨Nat.le_of_ble_eq_true rfl, Nat.le_of_ble_eq_true rfl⟩ rfl rfl (Nat.le_of_ble_eq_true rfl) dX10_strike_44 (Nat.zero_le _) (Nat.zero_le _) ?_
      replace h := bnP_s h
      obtain ⟨x23, h24, h⟩ := h
      refine g_callVs0 (st := []) B (cX10_standingc h24) (Nat.le_of_ble_eq_true rfl) rfl rfl mi_X10_standing lk_RX10_343 ⟨Nat.le_of_ble_eq_true rfl, Nat.le_of_ble_eq_true rfl⟩ rfl rfl (Nat.le_of_ble_eq_true rfl) dX10_strike_47 (Nat.zero_le _) (Nat.zero_le _) ?_
      obtain ⟨w1, w2⟩ := inS h
      clear h
      subst w1
      subst w2
      exact g_iret B hE (Nat.zero_le _) (Nat.zero_le _) dX10_strike_50
    · replace h := ifn (bI0 hc) h
      refine g_iconst (v := 0) B dX10_strike_31 (by decide) ?_
      obtain ⟨w1, w2⟩ := inS h
      clear h
      subst w1
      subst w2
      exact g_iret B hE (Nat.zero_le _) (Nat.zero_le _) dX10_strike_32
  clear h
  have h := h6
  clear h6
  refine g_if_eq B 24 dX10_strike_9 (by decide) (fun hc => ?_) (fun hc => ?_)
  · replace h := ifp hc h
    refine g_iconst (v := 0) B dX10_strike_24 (by decide) ?_
    replace h := Option.some.inj h
    subst h
    exact g_sub [0, 1] rfl k8
  · replace h := ifn hc h
    refine g_aload_n B 0 dX10_strike_12 rfl rfl ?_
    refine g_iload_n B 1 dX10_strike_13 rfl rfl ?_
    replace h := bnP_s h
    obtain ⟨x10, h11, h⟩ := h
    refine g_callVs0 (st := [.int x1, va_rf v0]) B (cX10_whyStrikec h11) (Nat.le_of_ble_eq_true rfl) rfl rfl mi_X10_whyStrike lk_RX10_194 ⟨Nat.le_of_ble_eq_true rfl, Nat.le_of_ble_eq_true rfl⟩ rfl rfl (Nat.le_of_ble_eq_true rfl) dX10_strike_14 (Nat.zero_le _) (Nat.zero_le _) ?_
    refine g_if_ne B 24 dX10_strike_17 (by decide) (fun hc => ?_) (fun hc => ?_)
    · replace h := ifn hc h
      refine g_iconst (v := 0) B dX10_strike_24 (by decide) ?_
      replace h := Option.some.inj h
      subst h
      exact g_sub [0, 1] rfl k8
    · replace h := ifp hc h
      refine g_iconst (v := 1) B dX10_strike_20 (by decide) ?_
      refine g_goto B 25 dX10_strike_21 (by decide) ?_
      replace h := Option.some.inj h
      subst h
      exact g_sub [0, 1] rfl k8
set_option maxRecDepth 100000 in
set_option maxHeartbeats 4000000 in
theorem cX10_strikeClausec {l : Launch} {v0 : Option Nat} {v1 : Int32} {σ : HpT} {r : Int32} {σ' : HpT} (h : fX10_strikeClause v0 v1 σ = some (r, σ')) : IsK σ v0 10 ∧ Ct l yX10_strikeClause cX10_strikeClause 2 (some .int) 5 107 [va_rf v0, .int v1] σ (.ok (some (.int r))) σ' 0 0 := by
  unfold fX10_strikeClause at h
  replace h := bnP_s h
  obtain ⟨u, hk, h⟩ := h
  replace hk := isK_s hk
  refine ⟨hk, ?_⟩
  refine ct_start mi_X10_strikeClause.1 rfl (al_le (al_1 (rf_cat _) (al_1 rfl al_n)) (Nat.le_of_ble_eq_true rfl)) (ag_1 (rf_cat _) (ag_1 rfl ag_n)) (fun Δ Γ B hE hnm => ?_)
  refine g_aload_n B 0 dX10_strikeClause_0 rfl rfl ?_
  refine g_aload_n B 0 dX10_strikeClause_1 rfl rfl ?_
  replace h := bnP_s h
  obtain ⟨x1, h2, h⟩ := h
  refine g_getI B fl_RX10_48 (by decide) dX10_strikeClause_2 h2 ?_
  refine g_aload_n B 0 dX10_strikeClause_5 rfl rfl ?_
  replace h := bnP_s h
  obtain ⟨x3, h4, h⟩ := h
  refine g_getI B fl_RX10_48 (by decide) dX10_strikeClause_6 h4 ?_
  replace h := bnP_s h
  obtain ⟨j5, h6, h⟩ := h
  have k8 : GW Δ Γ (0) (0) 26 [(0, va_rf v0), (1, .int v1)] [.int j5.2.2, .int j5.2.1, va_rf j5.1] σ := by
    replace h := bnS_s h
    obtain ⟨x12, s14, h13, h⟩ := h
    refine g_callVs0 (st := []) B (cX10_mayTwoc h13) (Nat.le_of_ble_eq_true rfl) rfl rfl mi_X10_mayTwo lk_RX10_380 ⟨Nat.le_of_ble_eq_true rfl, Nat.le_of_ble_eq_true rfl⟩ rfl rfl (Nat.le_of_ble_eq_true rfl) dX10_strikeClause_26 (Nat.zero_le _) (Nat.zero_le _) ?_
    refine g_if_ne B 34 dX10_strikeClause_29 (by decide) (fun hc => ?_) (fun hc => ?_)
    · replace h := ifp (bI1 hc) h
      refine g_aload_n B 0 dX10_strikeClause_34 rfl rfl ?_
      replace h := bnP_s h
      obtain ⟨s17, h16, h⟩ := h
      refine g_callVv0 (st := []) B (cX10_remembersc h16) (Nat.le_of_ble_eq_true rfl) rfl rfl mi_X10_remembers lk_RX10_550 ⟨Nat.le_of_ble_eq_true rfl, Nat.le_of_ble_eq_true rfl⟩ rfl rfl (Nat.le_of_ble_eq_true rfl) dX10_strikeClause_35 (Nat.zero_le _) (Nat.zero_le _) ?_
      refine g_aload_n B 0 dX10_strikeClause_38 rfl rfl ?_
      refine g_iload_n B 1 dX10_strikeClause_39 rfl rfl ?_
      replace h := bnS_s h
      obtain ⟨x18, s20, h19, h⟩ := h
      refine g_callVs0 (st := []) B (cX10_strikesClausec h19) (Nat.le_of_ble_eq_true rfl) rfl rfl mi_X10_strikesClause lk_RX10_206 ⟨Nat.le_of_ble_eq_true rfl, Nat.le_of_ble_eq_true rfl⟩ rfl rfl (Nat.le_of_ble_eq_true rfl) dX10_strikeClause_40 (Nat.zero_le _) (Nat.zero_le _) ?_
      obtain ⟨w1, w2⟩ := inS h
      clear h
      subst w1
      subst w2
      exact g_iret B hE (Nat.zero_le _) (Nat.zero_le _) dX10_strikeClause_43
    · replace h := ifn (bI0 hc) h
      refine g_iconst (v := 0) B dX10_strikeClause_32 (by decide) ?_
      obtain ⟨w1, w2⟩ := inS h
      clear h
      subst w1
      subst w2
      exact g_iret B hE (Nat.zero_le _) (Nat.zero_le _) dX10_strikeClause_33
  clear h
  have h := h6
  clear h6
  refine g_if_eq B 25 dX10_strikeClause_9 (by decide) (fun hc => ?_) (fun hc => ?_)
  · replace h := ifp hc h
    refine g_iconst (v := 0) B dX10_strikeClause_25 (by decide) ?_
    replace h := Option.some.inj h
    subst h
    exact g_sub [0, 1] rfl k8
  · replace h := ifn hc h
    refine g_aload_n B 0 dX10_strikeClause_12 rfl rfl ?_
    refine g_iload_n B 1 dX10_strikeClause_13 rfl rfl ?_
    refine g_iconst (v := 1) B dX10_strikeClause_14 (by decide) ?_
    replace h := bnP_s h
    obtain ⟨x10, h11, h⟩ := h
    refine g_callVs0 (st := [.int x1, va_rf v0]) B (cX10_isAskedc h11) (Nat.le_of_ble_eq_true rfl) rfl rfl mi_X10_isAsked lk_RX10_483 ⟨Nat.le_of_ble_eq_true rfl, Nat.le_of_ble_eq_true rfl⟩ rfl rfl (Nat.le_of_ble_eq_true rfl) dX10_strikeClause_15 (Nat.zero_le _) (Nat.zero_le _) ?_
    refine g_if_eq B 25 dX10_strikeClause_18 (by decide) (fun hc => ?_) (fun hc => ?_)
    · replace h := ifn (bI0 hc) h
      refine g_iconst (v := 0) B dX10_strikeClause_25 (by decide) ?_
      replace h := Option.some.inj h
      subst h
      exact g_sub [0, 1] rfl k8
    · replace h := ifp (bI1 hc) h
      refine g_iconst (v := 1) B dX10_strikeClause_21 (by decide) ?_
      refine g_goto B 26 dX10_strikeClause_22 (by decide) ?_
      replace h := Option.some.inj h
      subst h
      exact g_sub [0, 1] rfl k8
set_option maxRecDepth 100000 in
set_option maxHeartbeats 4000000 in
theorem cX10_canInterlinec {l : Launch} {v0 : Option Nat} {v1 : Int32} {v2 : Int32} {σ : HpT} {r : Bool} (h : fX10_canInterline v0 v1 v2 σ = some r) : IsK σ v0 10 ∧ Ct l yX10_canInterline cX10_canInterline 3 (some .boolean) 5 107 [va_rf v0, .int v1, .int v2] σ (.ok (some (.int (bI r)))) σ 0 0 := by
  unfold fX10_canInterline at h
  replace h := bnP_s h
  obtain ⟨u, hk, h⟩ := h
  replace hk := isK_s hk
  refine ⟨hk, ?_⟩
  refine ct_start mi_X10_canInterline.1 rfl (al_le (al_1 (rf_cat _) (al_1 rfl (al_1 rfl al_n))) (Nat.le_of_ble_eq_true rfl)) (ag_1 (rf_cat _) (ag_1 rfl (ag_1 rfl ag_n))) (fun Δ Γ B hE hnm => ?_)
  refine g_aload_n B 0 dX10_canInterline_0 rfl rfl ?_
  refine g_iload_n B 2 dX10_canInterline_1 rfl rfl ?_
  replace h := bnP_s h
  obtain ⟨x1, h2, h⟩ := h
  refine g_callVs0 (st := []) B (cX10_areLettersc h2) (Nat.le_of_ble_eq_true rfl) rfl rfl mi_X10_areLetters lk_RX10_497 ⟨Nat.le_of_ble_eq_true rfl, Nat.le_of_ble_eq_true rfl⟩ rfl rfl (Nat.le_of_ble_eq_true rfl) dX10_canInterline_2 (Nat.zero_le _) (Nat.zero_le _) ?_
  refine g_if_eq B 35 dX10_canInterline_5 (by decide) (fun hc => ?_) (fun hc => ?_)
  · replace h := ifn (bI0 hc) h
    refine g_iconst (v := 0) B dX10_canInterline_35 (by decide) ?_
    replace h := Option.some.inj h
    subst h
    exact g_zret B hE rfl (Nat.zero_le _) (Nat.zero_le _) dX10_canInterline_36
  · replace h := ifp (bI1 hc) h
    refine g_aload_n B 0 dX10_canInterline_8 rfl rfl ?_
    refine g_iload_n B 1 dX10_canInterline_9 rfl rfl ?_
    refine g_iconst (v := 0) B dX10_canInterline_10 (by decide) ?_
    replace h := bnP_s h
    obtain ⟨x3, h4, h⟩ := h
    refine g_callVs0 (st := []) B (cX10_isAskedc h4) (Nat.le_of_ble_eq_true rfl) rfl rfl mi_X10_isAsked lk_RX10_483 ⟨Nat.le_of_ble_eq_true rfl, Nat.le_of_ble_eq_true rfl⟩ rfl rfl (Nat.le_of_ble_eq_true rfl) dX10_canInterline_11 (Nat.zero_le _) (Nat.zero_le _) ?_
    refine g_if_eq B 35 dX10_canInterline_14 (by decide) (fun hc => ?_) (fun hc => ?_)
    · replace h := ifn (bI0 hc) h
      refine g_iconst (v := 0) B dX10_canInterline_35 (by decide) ?_
      replace h := Option.some.inj h
      subst h
      exact g_zret B hE rfl (Nat.zero_le _) (Nat.zero_le _) dX10_canInterline_36
    · replace h := ifp (bI1 hc) h
      refine g_aload_n B 0 dX10_canInterline_17 rfl rfl ?_
      refine g_aload_n B 0 dX10_canInterline_18 rfl rfl ?_
      refine g_iload_n B 1 dX10_canInterline_19 rfl rfl ?_
      replace h := bnP_s h
      obtain ⟨x5, h6, h⟩ := h
      refine g_callVs0 (st := [va_rf v0]) B (cX10_openWordc h6) (Nat.le_of_ble_eq_true rfl) rfl rfl mi_X10_openWord lk_RX10_200 ⟨Nat.le_of_ble_eq_true rfl, Nat.le_of_ble_eq_true rfl⟩ rfl rfl (Nat.le_of_ble_eq_true rfl) dX10_canInterline_20 (Nat.zero_le _) (Nat.zero_le _) ?_
      refine g_iconst (v := 4) B dX10_canInterline_23 (by decide) ?_
      replace h := bnP_s h
      obtain ⟨x7, h8, h⟩ := h
      refine g_callVs0 (st := []) B (cX10_ofWordc h8) (Nat.le_of_ble_eq_true rfl) rfl rfl mi_X10_ofWord lk_RX10_209 ⟨Nat.le_of_ble_eq_true rfl, Nat.le_of_ble_eq_true rfl⟩ rfl rfl (Nat.le_of_ble_eq_true rfl) dX10_canInterline_24 (Nat.zero_le _) (Nat.zero_le _) ?_
      refine g_iconst (v := 4) B dX10_canInterline_27 (by decide) ?_
      refine g_icmp_ge B 35 dX10_canInterline_28 (by decide) (fun hc => ?_) (fun hc => ?_)
      · replace h := ifp hc h
        refine g_iconst (v := 0) B dX10_canInterline_35 (by decide) ?_
        replace h := Option.some.inj h
        subst h
        exact g_zret B hE rfl (Nat.zero_le _) (Nat.zero_le _) dX10_canInterline_36
      · replace h := ifn hc h
        refine g_iconst (v := 1) B dX10_canInterline_31 (by decide) ?_
        refine g_goto B 36 dX10_canInterline_32 (by decide) ?_
        replace h := Option.some.inj h
        subst h
        exact g_zret B hE rfl (Nat.zero_le _) (Nat.zero_le _) dX10_canInterline_36
set_option maxRecDepth 100000 in
set_option maxHeartbeats 4000000 in
theorem cX10_interlinec {l : Launch} {v0 : Option Nat} {v1 : Int32} {v2 : Int32} {σ : HpT} {r : Int32} {σ' : HpT} (h : fX10_interline v0 v1 v2 σ = some (r, σ')) : IsK σ v0 10 ∧ Ct l yX10_interline cX10_interline 4 (some .int) 6 129 [va_rf v0, .int v1, .int v2] σ (.ok (some (.int r))) σ' 0 0 := by
  unfold fX10_interline at h
  replace h := bnP_s h
  obtain ⟨u, hk, h⟩ := h
  replace hk := isK_s hk
  refine ⟨hk, ?_⟩
  refine ct_start mi_X10_interline.1 rfl (al_le (al_1 (rf_cat _) (al_1 rfl (al_1 rfl al_n))) (Nat.le_of_ble_eq_true rfl)) (ag_1 (rf_cat _) (ag_1 rfl (ag_1 rfl ag_n))) (fun Δ Γ B hE hnm => ?_)
  refine g_aload_n B 0 dX10_interline_0 rfl rfl ?_
  replace h := bnP_s h
  obtain ⟨x1, h2, h⟩ := h
  refine g_getI B fl_RX10_48 (by decide) dX10_interline_1 h2 ?_
  replace h := bnP_s h
  obtain ⟨j3, h4, h⟩ := h
  have k6 : GW Δ Γ (0) (0) 24 [(0, va_rf v0), (1, .int v1), (2, .int v2)] [.int j3] σ := by
    refine g_istore_n B dX10_interline_24 rfl (Nat.le_of_ble_eq_true rfl) (s1_c (f1_k rfl (f1_k rfl (f1_1 rfl rfl f1_n)))) ?_
    refine g_aload_n B 1 dX10_interline_25 rfl rfl ?_
    refine g_aload_n B 1 dX10_interline_26 rfl rfl ?_
    replace h := bnP_s h
    obtain ⟨x12, h13, h⟩ := h
    refine g_getI B fl_RX10_48 (by decide) dX10_interline_27 h13 ?_
    refine g_iload_n B 0 dX10_interline_30 rfl rfl ?_
    refine g_iload_n B 0 dX10_interline_31 rfl rfl ?_
    replace h := bnP_s h
    obtain ⟨j14, h15, h⟩ := h
    have k17 : GW Δ Γ (0) (0) 49 [(0, va_rf v0), (1, .int v1), (2, .int v2)] [.int j14.2.2.2, .int j14.2.2.1, .int j14.2.1, va_rf j14.1] σ := by
      replace h := bnS_s h
      obtain ⟨x21, s23, h22, h⟩ := h
      refine g_callVs0 (st := []) B (cX10_mayc h22) (Nat.le_of_ble_eq_true rfl) rfl rfl mi_X10_may lk_RX10_44 ⟨Nat.le_of_ble_eq_true rfl, Nat.le_of_ble_eq_true rfl⟩ rfl rfl (Nat.le_of_ble_eq_true rfl) dX10_interline_49 (Nat.zero_le _) (Nat.zero_le _) ?_
      refine g_if_ne B 57 dX10_interline_52 (by decide) (fun hc => ?_) (fun hc => ?_)
      · replace h := ifp (bI1 hc) h
        refine g_aload_n B 0 dX10_interline_57 rfl rfl ?_
        replace h := bnP_s h
        obtain ⟨s26, h25, h⟩ := h
        refine g_callVv0 (st := []) B (cX10_remembersc h25) (Nat.le_of_ble_eq_true rfl) rfl rfl mi_X10_remembers lk_RX10_550 ⟨Nat.le_of_ble_eq_true rfl, Nat.le_of_ble_eq_true rfl⟩ rfl rfl (Nat.le_of_ble_eq_true rfl) dX10_interline_58 (Nat.zero_le _) (Nat.zero_le _) ?_
        refine g_aload_n B 0 dX10_interline_61 rfl rfl ?_
        refine g_iload_n B 1 dX10_interline_62 rfl rfl ?_
        refine g_iconst (v := 0) B dX10_interline_63 (by decide) ?_
        refine g_iload_n B 2 dX10_interline_64 rfl rfl ?_
        replace h := bnP_s h
        obtain ⟨s29, h28, h⟩ := h
        refine g_callVv0 (st := []) B (cX10_interlinesc h28) (Nat.le_of_ble_eq_true rfl) rfl rfl mi_X10_interlines lk_RX10_212 ⟨Nat.le_of_ble_eq_true rfl, Nat.le_of_ble_eq_true rfl⟩ rfl rfl (Nat.le_of_ble_eq_true rfl) dX10_interline_65 (Nat.zero_le _) (Nat.zero_le _) ?_
        refine g_aload_n B 0 dX10_interline_68 rfl rfl ?_
        refine g_iconst (v := 0) B dX10_interline_69 (by decide) ?_
        replace h := bnP_s h
        obtain ⟨s32, h31, h⟩ := h
        refine g_putI B fl_RX10_56 (by decide) dX10_interline_70 h31 ?_
        refine g_aload_n B 0 dX10_interline_73 rfl rfl ?_
        refine g_aload_n B 0 dX10_interline_74 rfl rfl ?_
        replace h := bnP_s h
        obtain ⟨x33, h34, h⟩ := h
        refine g_callVs0 (st := [va_rf v0]) B (cX10_openActc h34) (Nat.le_of_ble_eq_true rfl) rfl rfl mi_X10_openAct lk_RX10_179 ⟨Nat.le_of_ble_eq_true rfl, Nat.le_of_ble_eq_true rfl⟩ rfl rfl (Nat.le_of_ble_eq_true rfl) dX10_interline_75 (Nat.zero_le _) (Nat.zero_le _) ?_
        replace h := bnP_s h
        obtain ⟨x35, h36, h⟩ := h
        refine g_callVs0 (st := []) B (cX10_standingc h36) (Nat.le_of_ble_eq_true rfl) rfl rfl mi_X10_standing lk_RX10_343 ⟨Nat.le_of_ble_eq_true rfl, Nat.le_of_ble_eq_true rfl⟩ rfl rfl (Nat.le_of_ble_eq_true rfl) dX10_interline_78 (Nat.zero_le _) (Nat.zero_le _) ?_
        obtain ⟨w1, w2⟩ := inS h
        clear h
        subst w1
        subst w2
        exact g_iret B hE (Nat.zero_le _) (Nat.zero_le _) dX10_interline_81
      · replace h := ifn (bI0 hc) h
        refine g_iconst (v := 0) B dX10_interline_55 (by decide) ?_
        obtain ⟨w1, w2⟩ := inS h
        clear h
        subst w1
        subst w2
        exact g_iret B hE (Nat.zero_le _) (Nat.zero_le _) dX10_interline_56
    clear h
    have h := h15
    clear h15
    refine g_if_eq B 48 dX10_interline_32 (by decide) (fun hc => ?_) (fun hc => ?_)
    · replace h := ifp hc h
      refine g_iconst (v := 0) B dX10_interline_48 (by decide) ?_
      replace h := Option.some.inj h
      subst h
      exact g_sub [1, 2, 3] rfl k17
    · replace h := ifn hc h
      refine g_aload_n B 1 dX10_interline_35 rfl rfl ?_
      refine g_iload_n B 2 dX10_interline_36 rfl rfl ?_
      refine g_iload_n B 3 dX10_interline_37 rfl rfl ?_
      replace h := bnP_s h
      obtain ⟨x19, h20, h⟩ := h
      refine g_callVs0 (st := [.int j3, .int x12, va_rf v0]) B (cX10_canInterlinec h20) (Nat.le_of_ble_eq_true rfl) rfl rfl mi_X10_canInterline lk_RX10_553 ⟨Nat.le_of_ble_eq_true rfl, Nat.le_of_ble_eq_true rfl⟩ rfl rfl (Nat.le_of_ble_eq_true rfl) dX10_interline_38 (Nat.zero_le _) (Nat.zero_le _) ?_
      refine g_if_eq B 48 dX10_interline_41 (by decide) (fun hc => ?_) (fun hc => ?_)
      · replace h := ifn (bI0 hc) h
        refine g_iconst (v := 0) B dX10_interline_48 (by decide) ?_
        replace h := Option.some.inj h
        subst h
        exact g_sub [1, 2, 3] rfl k17
      · replace h := ifp (bI1 hc) h
        refine g_iconst (v := 1) B dX10_interline_44 (by decide) ?_
        refine g_goto B 49 dX10_interline_45 (by decide) ?_
        replace h := Option.some.inj h
        subst h
        exact g_sub [1, 2, 3] rfl k17
  clear h
  have h := h4
  clear h4
  refine g_if_eq B 23 dX10_interline_4 (by decide) (fun hc => ?_) (fun hc => ?_)
  · replace h := ifp hc h
    refine g_iconst (v := 0) B dX10_interline_23 (by decide) ?_
    replace h := Option.some.inj h
    subst h
    exact g_sub [0, 1, 2] rfl k6
  · replace h := ifn hc h
    refine g_iload_n B 2 dX10_interline_7 rfl rfl ?_
    refine g_iconst (v := 0) B dX10_interline_8 (by decide) ?_
    refine g_aload_n B 0 dX10_interline_9 rfl rfl ?_
    replace h := bnP_s h
    obtain ⟨x8, h9, h⟩ := h
    refine g_getI B fl_RX10_56 (by decide) dX10_interline_10 h9 ?_
    replace h := bnP_s h
    obtain ⟨x10, h11, h⟩ := h
    refine g_callSs0 (st := []) B (cX10_inc h11) mi_X10_in lk_RX10_69 ⟨Nat.le_of_ble_eq_true rfl, Nat.le_of_ble_eq_true rfl⟩ rfl rfl (Nat.le_of_ble_eq_true rfl) dX10_interline_13 (Nat.zero_le _) (Nat.zero_le _) ?_
    refine g_if_eq B 23 dX10_interline_16 (by decide) (fun hc => ?_) (fun hc => ?_)
    · replace h := ifn (bI0 hc) h
      refine g_iconst (v := 0) B dX10_interline_23 (by decide) ?_
      replace h := Option.some.inj h
      subst h
      exact g_sub [0, 1, 2] rfl k6
    · replace h := ifp (bI1 hc) h
      refine g_iconst (v := 1) B dX10_interline_19 (by decide) ?_
      refine g_goto B 24 dX10_interline_20 (by decide) ?_
      replace h := Option.some.inj h
      subst h
      exact g_sub [0, 1, 2] rfl k6
set_option maxRecDepth 100000 in
set_option maxHeartbeats 4000000 in
theorem cX10_sealc {l : Launch} {v0 : Option Nat} {v1 : Int32} {v2 : Int32} {σ : HpT} {r : Int32} {σ' : HpT} (h : fX10_seal v0 v1 v2 σ = some (r, σ')) : IsK σ v0 10 ∧ Ct l yX10_seal cX10_seal 4 (some .int) 4 90 [va_rf v0, .int v1, .int v2] σ (.ok (some (.int r))) σ' 0 0 := by
  unfold fX10_seal at h
  replace h := bnP_s h
  obtain ⟨u, hk, h⟩ := h
  replace hk := isK_s hk
  refine ⟨hk, ?_⟩
  refine ct_start mi_X10_seal.1 rfl (al_le (al_1 (rf_cat _) (al_1 rfl (al_1 rfl al_n))) (Nat.le_of_ble_eq_true rfl)) (ag_1 (rf_cat _) (ag_1 rfl (ag_1 rfl ag_n))) (fun Δ Γ B hE hnm => ?_)
  refine g_iload_n B 1 dX10_seal_0 rfl rfl ?_
  refine g_iconst (v := 0) B dX10_seal_1 (by decide) ?_
  refine g_bipush (v := 9) B dX10_seal_2 (by decide) ?_
  replace h := bnP_s h
  obtain ⟨x1, h2, h⟩ := h
  refine g_callSs0 (st := []) B (cX10_inc h2) mi_X10_in lk_RX10_69 ⟨Nat.le_of_ble_eq_true rfl, Nat.le_of_ble_eq_true rfl⟩ rfl rfl (Nat.le_of_ble_eq_true rfl) dX10_seal_4 (Nat.zero_le _) (Nat.zero_le _) ?_
  replace h := bnP_s h
  obtain ⟨j3, h4, h⟩ := h
  have k6 : GW Δ Γ (0) (0) 25 [(0, va_rf v0), (1, .int v1), (2, .int v2)] [.int j3] σ := by
    refine g_istore_n B dX10_seal_25 rfl (Nat.le_of_ble_eq_true rfl) (s1_c (f1_k rfl (f1_k rfl (f1_1 rfl rfl f1_n)))) ?_
    refine g_aload_n B 1 dX10_seal_26 rfl rfl ?_
    refine g_aload_n B 1 dX10_seal_27 rfl rfl ?_
    replace h := bnP_s h
    obtain ⟨x10, h11, h⟩ := h
    refine g_getI B fl_RX10_48 (by decide) dX10_seal_28 h11 ?_
    refine g_aload_n B 1 dX10_seal_31 rfl rfl ?_
    replace h := bnP_s h
    obtain ⟨x12, h13, h⟩ := h
    refine g_getI B fl_RX10_48 (by decide) dX10_seal_32 h13 ?_
    replace h := bnP_s h
    obtain ⟨j14, h15, h⟩ := h
    have k17 : GW Δ Γ (0) (0) 56 [(0, va_rf v0), (1, .int v1)] [.int j14.2.2, .int j14.2.1, va_rf j14.1] σ := by
      replace h := bnS_s h
      obtain ⟨x21, s23, h22, h⟩ := h
      refine g_callVs0 (st := []) B (cX10_mayTwoc h22) (Nat.le_of_ble_eq_true rfl) rfl rfl mi_X10_mayTwo lk_RX10_380 ⟨Nat.le_of_ble_eq_true rfl, Nat.le_of_ble_eq_true rfl⟩ rfl rfl (Nat.le_of_ble_eq_true rfl) dX10_seal_56 (Nat.zero_le _) (Nat.zero_le _) ?_
      refine g_if_ne B 64 dX10_seal_59 (by decide) (fun hc => ?_) (fun hc => ?_)
      · replace h := ifp (bI1 hc) h
        refine g_aload_n B 0 dX10_seal_64 rfl rfl ?_
        replace h := bnP_s h
        obtain ⟨s26, h25, h⟩ := h
        refine g_callVv0 (st := []) B (cX10_remembersc h25) (Nat.le_of_ble_eq_true rfl) rfl rfl mi_X10_remembers lk_RX10_550 ⟨Nat.le_of_ble_eq_true rfl, Nat.le_of_ble_eq_true rfl⟩ rfl rfl (Nat.le_of_ble_eq_true rfl) dX10_seal_65 (Nat.zero_le _) (Nat.zero_le _) ?_
        refine g_aload_n B 0 dX10_seal_68 rfl rfl ?_
        refine g_iload_n B 1 dX10_seal_69 rfl rfl ?_
        replace h := bnS_s h
        obtain ⟨x27, s29, h28, h⟩ := h
        refine g_callVs0 (st := []) B (cX10_sealsc h28) (Nat.le_of_ble_eq_true rfl) rfl rfl mi_X10_seals lk_RX10_221 ⟨Nat.le_of_ble_eq_true rfl, Nat.le_of_ble_eq_true rfl⟩ rfl rfl (Nat.le_of_ble_eq_true rfl) dX10_seal_70 (Nat.zero_le _) (Nat.zero_le _) ?_
        obtain ⟨w1, w2⟩ := inS h
        clear h
        subst w1
        subst w2
        exact g_iret B hE (Nat.zero_le _) (Nat.zero_le _) dX10_seal_73
      · replace h := ifn (bI0 hc) h
        refine g_iconst (v := 0) B dX10_seal_62 (by decide) ?_
        obtain ⟨w1, w2⟩ := inS h
        clear h
        subst w1
        subst w2
        exact g_iret B hE (Nat.zero_le _) (Nat.zero_le _) dX10_seal_63
    clear h
    have h := h15
    clear h15
    refine g_if_eq B 55 dX10_seal_35 (by decide) (fun hc => ?_) (fun hc => ?_)
    · replace h := ifp hc h
      refine g_iconst (v := 0) B dX10_seal_55 (by decide) ?_
      replace h := Option.some.inj h
      subst h
      exact g_sub [1, 2] rfl k17
    · replace h := ifn hc h
      refine g_iload_n B 0 dX10_seal_38 rfl rfl ?_
      refine g_if_eq B 55 dX10_seal_39 (by decide) (fun hc => ?_) (fun hc => ?_)
      · replace h := ifp hc h
        refine g_iconst (v := 0) B dX10_seal_55 (by decide) ?_
        replace h := Option.some.inj h
        subst h
        exact g_sub [1, 2] rfl k17
      · replace h := ifn hc h
        refine g_aload_n B 1 dX10_seal_42 rfl rfl ?_
        refine g_iload_n B 2 dX10_seal_43 rfl rfl ?_
        refine g_iload_n B 3 dX10_seal_44 rfl rfl ?_
        replace h := bnP_s h
        obtain ⟨x19, h20, h⟩ := h
        refine g_callVs0 (st := [.int x10, va_rf v0]) B (cX10_whySealc h20) (Nat.le_of_ble_eq_true rfl) rfl rfl mi_X10_whySeal lk_RX10_218 ⟨Nat.le_of_ble_eq_true rfl, Nat.le_of_ble_eq_true rfl⟩ rfl rfl (Nat.le_of_ble_eq_true rfl) dX10_seal_45 (Nat.zero_le _) (Nat.zero_le _) ?_
        refine g_if_ne B 55 dX10_seal_48 (by decide) (fun hc => ?_) (fun hc => ?_)
        · replace h := ifn hc h
          refine g_iconst (v := 0) B dX10_seal_55 (by decide) ?_
          replace h := Option.some.inj h
          subst h
          exact g_sub [1, 2] rfl k17
        · replace h := ifp hc h
          refine g_iconst (v := 1) B dX10_seal_51 (by decide) ?_
          refine g_goto B 56 dX10_seal_52 (by decide) ?_
          replace h := Option.some.inj h
          subst h
          exact g_sub [1, 2] rfl k17
  clear h
  have h := h4
  clear h4
  refine g_if_eq B 24 dX10_seal_7 (by decide) (fun hc => ?_) (fun hc => ?_)
  · replace h := ifn (bI0 hc) h
    refine g_iconst (v := 0) B dX10_seal_24 (by decide) ?_
    replace h := Option.some.inj h
    subst h
    exact g_sub [0, 1, 2] rfl k6
  · replace h := ifp (bI1 hc) h
    refine g_iload_n B 2 dX10_seal_10 rfl rfl ?_
    refine g_iconst (v := 0) B dX10_seal_11 (by decide) ?_
    refine g_bipush (v := 99) B dX10_seal_12 (by decide) ?_
    replace h := bnP_s h
    obtain ⟨x8, h9, h⟩ := h
    refine g_callSs0 (st := []) B (cX10_inc h9) mi_X10_in lk_RX10_69 ⟨Nat.le_of_ble_eq_true rfl, Nat.le_of_ble_eq_true rfl⟩ rfl rfl (Nat.le_of_ble_eq_true rfl) dX10_seal_14 (Nat.zero_le _) (Nat.zero_le _) ?_
    refine g_if_eq B 24 dX10_seal_17 (by decide) (fun hc => ?_) (fun hc => ?_)
    · replace h := ifn (bI0 hc) h
      refine g_iconst (v := 0) B dX10_seal_24 (by decide) ?_
      replace h := Option.some.inj h
      subst h
      exact g_sub [0, 1, 2] rfl k6
    · replace h := ifp (bI1 hc) h
      refine g_iconst (v := 1) B dX10_seal_20 (by decide) ?_
      refine g_goto B 25 dX10_seal_21 (by decide) ?_
      replace h := Option.some.inj h
      subst h
      exact g_sub [0, 1, 2] rfl k6
set_option maxRecDepth 100000 in
set_option maxHeartbeats 4000000 in
theorem cX10_cancelc {l : Launch} {v0 : Option Nat} {σ : HpT} {r : Int32} {σ' : HpT} (h : fX10_cancel v0 σ = some (r, σ')) : IsK σ v0 10 ∧ Ct l yX10_cancel cX10_cancel 1 (some .int) 2 45 [va_rf v0] σ (.ok (some (.int r))) σ' 0 0 := by
  unfold fX10_cancel at h
  replace h := bnP_s h
  obtain ⟨u, hk, h⟩ := h
  replace hk := isK_s hk
  refine ⟨hk, ?_⟩
  refine ct_start mi_X10_cancel.1 rfl (al_le (al_1 (rf_cat _) al_n) (Nat.le_of_ble_eq_true rfl)) (ag_1 (rf_cat _) ag_n) (fun Δ Γ B hE hnm => ?_)
  refine g_aload_n B 0 dX10_cancel_0 rfl rfl ?_
  refine g_aload_n B 0 dX10_cancel_1 rfl rfl ?_
  replace h := bnP_s h
  obtain ⟨x1, h2, h⟩ := h
  refine g_getI B fl_RX10_48 (by decide) dX10_cancel_2 h2 ?_
  refine g_aload_n B 0 dX10_cancel_5 rfl rfl ?_
  replace h := bnP_s h
  obtain ⟨x3, h4, h⟩ := h
  refine g_getI B fl_RX10_48 (by decide) dX10_cancel_6 h4 ?_
  replace h := bnP_s h
  obtain ⟨j5, h6, h⟩ := h
  have k8 : GW Δ Γ (0) (0) 25 [(0, va_rf v0)] [.int j5.2.2, .int j5.2.1, va_rf j5.1] σ := by
    replace h := bnS_s h
    obtain ⟨x12, s14, h13, h⟩ := h
    refine g_callVs0 (st := []) B (cX10_mayTwoc h13) (Nat.le_of_ble_eq_true rfl) rfl rfl mi_X10_mayTwo lk_RX10_380 ⟨Nat.le_of_ble_eq_true rfl, Nat.le_of_ble_eq_true rfl⟩ rfl rfl (Nat.le_of_ble_eq_true rfl) dX10_cancel_25 (Nat.zero_le _) (Nat.zero_le _) ?_
    refine g_if_ne B 33 dX10_cancel_28 (by decide) (fun hc => ?_) (fun hc => ?_)
    · replace h := ifp (bI1 hc) h
      refine g_aload_n B 0 dX10_cancel_33 rfl rfl ?_
      replace h := bnP_s h
      obtain ⟨s17, h16, h⟩ := h
      refine g_callVv0 (st := []) B (cX10_remembersc h16) (Nat.le_of_ble_eq_true rfl) rfl rfl mi_X10_remembers lk_RX10_550 ⟨Nat.le_of_ble_eq_true rfl, Nat.le_of_ble_eq_true rfl⟩ rfl rfl (Nat.le_of_ble_eq_true rfl) dX10_cancel_34 (Nat.zero_le _) (Nat.zero_le _) ?_
      refine g_aload_n B 0 dX10_cancel_37 rfl rfl ?_
      refine g_aload_n B 0 dX10_cancel_38 rfl rfl ?_
      replace h := bnP_s h
      obtain ⟨x18, h19, h⟩ := h
      refine g_callVs0 (st := [va_rf v0]) B (cX10_openActc h19) (Nat.le_of_ble_eq_true rfl) rfl rfl mi_X10_openAct lk_RX10_179 ⟨Nat.le_of_ble_eq_true rfl, Nat.le_of_ble_eq_true rfl⟩ rfl rfl (Nat.le_of_ble_eq_true rfl) dX10_cancel_39 (Nat.zero_le _) (Nat.zero_le _) ?_
      refine g_iconst (v := 1) B dX10_cancel_42 (by decide) ?_
      refine g_iconst (v := 2) B dX10_cancel_43 (by decide) ?_
      replace h := bnP_s h
      obtain ⟨s22, h21, h⟩ := h
      refine g_callVv0 (st := []) B (cX10_putsActc h21) (Nat.le_of_ble_eq_true rfl) rfl rfl mi_X10_putsAct lk_RX10_141 ⟨Nat.le_of_ble_eq_true rfl, Nat.le_of_ble_eq_true rfl⟩ rfl rfl (Nat.le_of_ble_eq_true rfl) dX10_cancel_44 (Nat.zero_le _) (Nat.zero_le _) ?_
      refine g_aload_n B 0 dX10_cancel_47 rfl rfl ?_
      replace h := bnP_s h
      obtain ⟨x23, h24, h⟩ := h
      refine g_getR B fl_RX10_9 (by decide) dX10_cancel_48 h24 ?_
      refine g_iconst (v := 3) B dX10_cancel_51 (by decide) ?_
      replace h := bnP_s h
      obtain ⟨x25, h26, h⟩ := h
      refine g_iald B dX10_cancel_52 h26 ?_
      obtain ⟨w1, w2⟩ := inS h
      clear h
      subst w1
      subst w2
      exact g_iret B hE (Nat.zero_le _) (Nat.zero_le _) dX10_cancel_53
    · replace h := ifn (bI0 hc) h
      refine g_iconst (v := 0) B dX10_cancel_31 (by decide) ?_
      obtain ⟨w1, w2⟩ := inS h
      clear h
      subst w1
      subst w2
      exact g_iret B hE (Nat.zero_le _) (Nat.zero_le _) dX10_cancel_32
  clear h
  have h := h6
  clear h6
  refine g_if_eq B 24 dX10_cancel_9 (by decide) (fun hc => ?_) (fun hc => ?_)
  · replace h := ifp hc h
    refine g_iconst (v := 0) B dX10_cancel_24 (by decide) ?_
    replace h := Option.some.inj h
    subst h
    exact g_sub [0] rfl k8
  · replace h := ifn hc h
    refine g_aload_n B 0 dX10_cancel_12 rfl rfl ?_
    replace h := bnP_s h
    obtain ⟨x10, h11, h⟩ := h
    refine g_callVs0 (st := [.int x1, va_rf v0]) B (cX10_openActc h11) (Nat.le_of_ble_eq_true rfl) rfl rfl mi_X10_openAct lk_RX10_179 ⟨Nat.le_of_ble_eq_true rfl, Nat.le_of_ble_eq_true rfl⟩ rfl rfl (Nat.le_of_ble_eq_true rfl) dX10_cancel_13 (Nat.zero_le _) (Nat.zero_le _) ?_
    refine g_iconst (v := (-1)) B dX10_cancel_16 (by decide) ?_
    refine g_icmp_eq B 24 dX10_cancel_17 (by decide) (fun hc => ?_) (fun hc => ?_)
    · replace h := ifp hc h
      refine g_iconst (v := 0) B dX10_cancel_24 (by decide) ?_
      replace h := Option.some.inj h
      subst h
      exact g_sub [0] rfl k8
    · replace h := ifn hc h
      refine g_iconst (v := 1) B dX10_cancel_20 (by decide) ?_
      refine g_goto B 25 dX10_cancel_21 (by decide) ?_
      replace h := Option.some.inj h
      subst h
      exact g_sub [0] rfl k8
set_option maxRecDepth 100000 in
set_option maxHeartbeats 4000000 in
theorem cX10_addCopyc {l : Launch} {v0 : Option Nat} {v1 : Int32} {v2 : Int32} {σ : HpT} {r : Int32} {σ' : HpT} (h : fX10_addCopy v0 v1 v2 σ = some (r, σ')) : IsK σ v0 10 ∧ Ct l yX10_addCopy cX10_addCopy 4 (some .int) 8 177 [va_rf v0, .int v1, .int v2] σ (.ok (some (.int r))) σ' 0 0 := by
  unfold fX10_addCopy at h
  replace h := bnP_s h
  obtain ⟨u, hk, h⟩ := h
  replace hk := isK_s hk
  refine ⟨hk, ?_⟩
  refine ct_start mi_X10_addCopy.1 rfl (al_le (al_1 (rf_cat _) (al_1 rfl (al_1 rfl al_n))) (Nat.le_of_ble_eq_true rfl)) (ag_1 (rf_cat _) (ag_1 rfl (ag_1 rfl ag_n))) (fun Δ Γ B hE hnm => ?_)
  refine g_aload_n B 0 dX10_addCopy_0 rfl rfl ?_
  refine g_iload_n B 1 dX10_addCopy_1 rfl rfl ?_
  replace h := bnP_s h
  obtain ⟨x1, h2, h⟩ := h
  refine g_callVs0 (st := []) B (cX10_isActc h2) (Nat.le_of_ble_eq_true rfl) rfl rfl mi_X10_isAct lk_RX10_399 ⟨Nat.le_of_ble_eq_true rfl, Nat.le_of_ble_eq_true rfl⟩ rfl rfl (Nat.le_of_ble_eq_true rfl) dX10_addCopy_2 (Nat.zero_le _) (Nat.zero_le _) ?_
  refine g_istore_n B dX10_addCopy_5 rfl (Nat.le_of_ble_eq_true rfl) (s1_c (f1_k rfl (f1_k rfl (f1_1 rfl rfl f1_n)))) ?_
  refine g_aload_n B 1 dX10_addCopy_6 rfl rfl ?_
  refine g_aload_n B 1 dX10_addCopy_7 rfl rfl ?_
  replace h := bnP_s h
  obtain ⟨x3, h4, h⟩ := h
  refine g_getI B fl_RX10_48 (by decide) dX10_addCopy_8 h4 ?_
  refine g_iload_n B 0 dX10_addCopy_11 rfl rfl ?_
  refine g_iload_n B 0 dX10_addCopy_12 rfl rfl ?_
  replace h := bnP_s h
  obtain ⟨j5, h6, h⟩ := h
  have k8 : GW Δ Γ (0) (0) 39 [(0, va_rf v0), (1, .int v1), (2, .int v2)] [.int j5.2.2.2, .int j5.2.2.1, .int j5.2.1, va_rf j5.1] σ := by
    replace h := bnS_s h
    obtain ⟨x14, s16, h15, h⟩ := h
    refine g_callVs0 (st := []) B (cX10_mayc h15) (Nat.le_of_ble_eq_true rfl) rfl rfl mi_X10_may lk_RX10_44 ⟨Nat.le_of_ble_eq_true rfl, Nat.le_of_ble_eq_true rfl⟩ rfl rfl (Nat.le_of_ble_eq_true rfl) dX10_addCopy_39 (Nat.zero_le _) (Nat.zero_le _) ?_
    refine g_if_ne B 47 dX10_addCopy_42 (by decide) (fun hc => ?_) (fun hc => ?_)
    · replace h := ifp (bI1 hc) h
      refine g_aload_n B 0 dX10_addCopy_47 rfl rfl ?_
      replace h := bnP_s h
      obtain ⟨s19, h18, h⟩ := h
      refine g_callVv0 (st := []) B (cX10_remembersc h18) (Nat.le_of_ble_eq_true rfl) rfl rfl mi_X10_remembers lk_RX10_550 ⟨Nat.le_of_ble_eq_true rfl, Nat.le_of_ble_eq_true rfl⟩ rfl rfl (Nat.le_of_ble_eq_true rfl) dX10_addCopy_48 (Nat.zero_le _) (Nat.zero_le _) ?_
      refine g_aload_n B 0 dX10_addCopy_51 rfl rfl ?_
      refine g_iload_n B 1 dX10_addCopy_52 rfl rfl ?_
      refine g_iconst (v := 1) B dX10_addCopy_53 (by decide) ?_
      refine g_isub B dX10_addCopy_54 ?_
      refine g_iload_n B 2 dX10_addCopy_55 rfl rfl ?_
      replace h := bnP_s h
      obtain ⟨s22, h21, h⟩ := h
      refine g_callVv0 (st := []) B (cX10_copiesc h21) (Nat.le_of_ble_eq_true rfl) rfl rfl mi_X10_copies lk_RX10_227 ⟨Nat.le_of_ble_eq_true rfl, Nat.le_of_ble_eq_true rfl⟩ rfl rfl (Nat.le_of_ble_eq_true rfl) dX10_addCopy_56 (Nat.zero_le _) (Nat.zero_le _) ?_
      refine g_aload_n B 0 dX10_addCopy_59 rfl rfl ?_
      replace h := bnP_s h
      obtain ⟨x23, h24, h⟩ := h
      refine g_getR B fl_RX10_9 (by decide) dX10_addCopy_60 h24 ?_
      refine g_bipush (v := 6) B dX10_addCopy_63 (by decide) ?_
      replace h := bnP_s h
      obtain ⟨x25, h26, h⟩ := h
      refine g_iald B dX10_addCopy_65 h26 ?_
      refine g_iconst (v := 1) B dX10_addCopy_66 (by decide) ?_
      refine g_isub B dX10_addCopy_67 ?_
      obtain ⟨w1, w2⟩ := inS h
      clear h
      subst w1
      subst w2
      exact g_iret B hE (Nat.zero_le _) (Nat.zero_le _) dX10_addCopy_68
    · replace h := ifn (bI0 hc) h
      refine g_iconst (v := 0) B dX10_addCopy_45 (by decide) ?_
      obtain ⟨w1, w2⟩ := inS h
      clear h
      subst w1
      subst w2
      exact g_iret B hE (Nat.zero_le _) (Nat.zero_le _) dX10_addCopy_46
  clear h
  have h := h6
  clear h6
  refine g_if_eq B 38 dX10_addCopy_13 (by decide) (fun hc => ?_) (fun hc => ?_)
  · replace h := ifn (bI0 hc) h
    refine g_iconst (v := 0) B dX10_addCopy_38 (by decide) ?_
    replace h := Option.some.inj h
    subst h
    exact g_sub [1, 2, 3] rfl k8
  · replace h := ifp (bI1 hc) h
    refine g_iload_n B 3 dX10_addCopy_16 rfl rfl ?_
    replace h := bnP_s h
    obtain ⟨x10, h11, h⟩ := h
    refine g_callSs0 (st := [.int (bI x1), .int x3, va_rf v0]) B (cX10_isGradec h11) mi_X10_isGrade lk_RX10_471 ⟨Nat.le_of_ble_eq_true rfl, Nat.le_of_ble_eq_true rfl⟩ rfl rfl (Nat.le_of_ble_eq_true rfl) dX10_addCopy_17 (Nat.zero_le _) (Nat.zero_le _) ?_
    refine g_if_eq B 38 dX10_addCopy_20 (by decide) (fun hc => ?_) (fun hc => ?_)
    · replace h := ifn (bI0 hc) h
      refine g_iconst (v := 0) B dX10_addCopy_38 (by decide) ?_
      replace h := Option.some.inj h
      subst h
      exact g_sub [1, 2, 3] rfl k8
    · replace h := ifp (bI1 hc) h
      refine g_aload_n B 1 dX10_addCopy_23 rfl rfl ?_
      refine g_iload_n B 2 dX10_addCopy_24 rfl rfl ?_
      refine g_iconst (v := 1) B dX10_addCopy_25 (by decide) ?_
      refine g_isub B dX10_addCopy_26 ?_
      refine g_iload_n B 3 dX10_addCopy_27 rfl rfl ?_
      replace h := bnP_s h
      obtain ⟨x12, h13, h⟩ := h
      refine g_callVs0 (st := [.int (bI x1), .int x3, va_rf v0]) B (cX10_whyCopyc h13) (Nat.le_of_ble_eq_true rfl) rfl rfl mi_X10_whyCopy lk_RX10_224 ⟨Nat.le_of_ble_eq_true rfl, Nat.le_of_ble_eq_true rfl⟩ rfl rfl (Nat.le_of_ble_eq_true rfl) dX10_addCopy_28 (Nat.zero_le _) (Nat.zero_le _) ?_
      refine g_if_ne B 38 dX10_addCopy_31 (by decide) (fun hc => ?_) (fun hc => ?_)
      · replace h := ifn hc h
        refine g_iconst (v := 0) B dX10_addCopy_38 (by decide) ?_
        replace h := Option.some.inj h
        subst h
        exact g_sub [1, 2, 3] rfl k8
      · replace h := ifp hc h
        refine g_iconst (v := 1) B dX10_addCopy_34 (by decide) ?_
        refine g_goto B 39 dX10_addCopy_35 (by decide) ?_
        replace h := Option.some.inj h
        subst h
        exact g_sub [1, 2, 3] rfl k8
set_option maxRecDepth 100000 in
set_option maxHeartbeats 4000000 in
theorem cX10_burnc {l : Launch} {v0 : Option Nat} {v1 : Int32} {σ : HpT} {r : Int32} {σ' : HpT} (h : fX10_burn v0 v1 σ = some (r, σ')) : IsK σ v0 10 ∧ Ct l yX10_burn cX10_burn 3 (some .int) 3 66 [va_rf v0, .int v1] σ (.ok (some (.int r))) σ' 0 0 := by
  unfold fX10_burn at h
  replace h := bnP_s h
  obtain ⟨u, hk, h⟩ := h
  replace hk := isK_s hk
  refine ⟨hk, ?_⟩
  refine ct_start mi_X10_burn.1 rfl (al_le (al_1 (rf_cat _) (al_1 rfl al_n)) (Nat.le_of_ble_eq_true rfl)) (ag_1 (rf_cat _) (ag_1 rfl ag_n)) (fun Δ Γ B hE hnm => ?_)
  refine g_aload_n B 0 dX10_burn_0 rfl rfl ?_
  refine g_iload_n B 1 dX10_burn_1 rfl rfl ?_
  replace h := bnS_s h
  obtain ⟨x1, s3, h2, h⟩ := h
  refine g_callVs0 (st := []) B (cX10_mayCopyc h2) (Nat.le_of_ble_eq_true rfl) rfl rfl mi_X10_mayCopy lk_RX10_540 ⟨Nat.le_of_ble_eq_true rfl, Nat.le_of_ble_eq_true rfl⟩ rfl rfl (Nat.le_of_ble_eq_true rfl) dX10_burn_2 (Nat.zero_le _) (Nat.zero_le _) ?_
  refine g_if_ne B 10 dX10_burn_5 (by decide) (fun hc => ?_) (fun hc => ?_)
  · replace h := ifp (bI1 hc) h
    refine g_aload_n B 0 dX10_burn_10 rfl rfl ?_
    replace h := bnP_s h
    obtain ⟨s6, h5, h⟩ := h
    refine g_callVv0 (st := []) B (cX10_remembersc h5) (Nat.le_of_ble_eq_true rfl) rfl rfl mi_X10_remembers lk_RX10_550 ⟨Nat.le_of_ble_eq_true rfl, Nat.le_of_ble_eq_true rfl⟩ rfl rfl (Nat.le_of_ble_eq_true rfl) dX10_burn_11 (Nat.zero_le _) (Nat.zero_le _) ?_
    refine g_aload_n B 0 dX10_burn_14 rfl rfl ?_
    replace h := bnP_s h
    obtain ⟨x7, h8, h⟩ := h
    refine g_getR B fl_RX10_9 (by decide) dX10_burn_15 h8 ?_
    refine g_bipush (v := 8) B dX10_burn_18 (by decide) ?_
    refine g_dup2 B dX10_burn_20 rfl (rf_cat _) ?_
    replace h := bnP_s h
    obtain ⟨x9, h10, h⟩ := h
    refine g_iald B dX10_burn_21 h10 ?_
    refine g_aload_n B 0 dX10_burn_22 rfl rfl ?_
    refine g_iload_n B 1 dX10_burn_23 rfl rfl ?_
    refine g_iconst (v := 1) B dX10_burn_24 (by decide) ?_
    replace h := bnP_s h
    obtain ⟨x11, h12, h⟩ := h
    refine g_callVs0 (st := [.int x9, .int 8, va_rf x7]) B (cX10_ofCopyc h12) (Nat.le_of_ble_eq_true rfl) rfl rfl mi_X10_ofCopy lk_RX10_355 ⟨Nat.le_of_ble_eq_true rfl, Nat.le_of_ble_eq_true rfl⟩ rfl rfl (Nat.le_of_ble_eq_true rfl) dX10_burn_25 (Nat.zero_le _) (Nat.zero_le _) ?_
    replace h := bnP_s h
    obtain ⟨x13, h14, h⟩ := h
    refine g_callSs0 (st := [.int x9, .int 8, va_rf x7]) B (cX10_feeOfc h14) mi_X10_feeOf lk_RX10_377 ⟨Nat.le_of_ble_eq_true rfl, Nat.le_of_ble_eq_true rfl⟩ rfl rfl (Nat.le_of_ble_eq_true rfl) dX10_burn_28 (Nat.zero_le _) (Nat.zero_le _) ?_
    refine g_iadd B dX10_burn_31 ?_
    replace h := bnP_s h
    obtain ⟨s17, h16, h⟩ := h
    refine g_iast B dX10_burn_32 h16 ?_
    refine g_iconst (v := 2) B dX10_burn_33 (by decide) ?_
    refine g_iload_n B 1 dX10_burn_34 rfl rfl ?_
    refine g_imul B dX10_burn_35 ?_
    refine g_istore_n B dX10_burn_36 rfl (Nat.le_of_ble_eq_true rfl) (s1_c (f1_k rfl (f1_1 rfl rfl f1_n))) ?_
    replace h := bnS_s h
    obtain ⟨r19, s41, h20, h⟩ := h
    have kE21 : GW Δ Γ (0) (0) 78 [(0, va_rf v0)] [] s41 := by
      refine g_aload_n B 0 dX10_burn_78 rfl rfl ?_
      replace h := bnP_s h
      obtain ⟨x42, h43, h⟩ := h
      refine g_getR B fl_RX10_9 (by decide) dX10_burn_79 h43 ?_
      refine g_bipush (v := 6) B dX10_burn_82 (by decide) ?_
      refine g_dup2 B dX10_burn_84 rfl (rf_cat _) ?_
      replace h := bnP_s h
      obtain ⟨x44, h45, h⟩ := h
      refine g_iald B dX10_burn_85 h45 ?_
      refine g_iconst (v := 1) B dX10_burn_86 (by decide) ?_
      refine g_isub B dX10_burn_87 ?_
      replace h := bnP_s h
      obtain ⟨s48, h47, h⟩ := h
      refine g_iast B dX10_burn_88 h47 ?_
      refine g_aload_n B 0 dX10_burn_89 rfl rfl ?_
      replace h := bnP_s h
      obtain ⟨x49, h50, h⟩ := h
      refine g_getR B fl_RX10_9 (by decide) dX10_burn_90 h50 ?_
      refine g_bipush (v := 6) B dX10_burn_93 (by decide) ?_
      replace h := bnP_s h
      obtain ⟨x51, h52, h⟩ := h
      refine g_iald B dX10_burn_95 h52 ?_
      obtain ⟨w1, w2⟩ := inS h
      clear h
      subst w1
      subst w2
      exact g_iret B hE (Nat.zero_le _) (Nat.zero_le _) dX10_burn_96
    clear h
    refine g_sub [1, 0] rfl ?_
    refine lpS_w (I := fun q18 s27 => GW Δ Γ (0) (0) 37 [(0, va_rf v0), (2, .int q18)] [] s27) (r := r19) (σr := s41) ?_ FUEL (2 * v1) s17 h20
    intro q18 s27 x25 s9 h hI23 hR24
    unfold fX10_burn_l1 at h
    refine g_iload_n B 1 dX10_burn_37 rfl rfl ?_
    refine g_iconst (v := 2) B dX10_burn_38 (by decide) ?_
    refine g_aload_n B 0 dX10_burn_39 rfl rfl ?_
    replace h := bnP_s h
    obtain ⟨x28, h29, h⟩ := h
    refine g_getR B fl_RX10_9 (by decide) dX10_burn_40 h29 ?_
    refine g_bipush (v := 6) B dX10_burn_43 (by decide) ?_
    replace h := bnP_s h
    obtain ⟨x30, h31, h⟩ := h
    refine g_iald B dX10_burn_45 h31 ?_
    refine g_iconst (v := 1) B dX10_burn_46 (by decide) ?_
    refine g_isub B dX10_burn_47 ?_
    refine g_imul B dX10_burn_48 ?_
    refine g_icmp_ge B 78 dX10_burn_49 (by decide) (fun hc => ?_) (fun hc => ?_)
    · replace h := ifp hc h
      obtain ⟨w1, w2⟩ := inS h
      clear h
      subst w1
      subst w2
      obtain ⟨e8, e7⟩ := hR24 _ rfl
      subst e8
      subst e7
      exact g_sub [0] rfl kE21
    · replace h := ifn hc h
      refine g_aload_n B 0 dX10_burn_52 rfl rfl ?_
      replace h := bnP_s h
      obtain ⟨x32, h33, h⟩ := h
      refine g_getR B fl_RX10_9 (by decide) dX10_burn_53 h33 ?_
      refine g_bipush (v := 111) B dX10_burn_56 (by decide) ?_
      refine g_iload_n B 1 dX10_burn_58 rfl rfl ?_
      refine g_iadd B dX10_burn_59 ?_
      refine g_aload_n B 0 dX10_burn_60 rfl rfl ?_
      replace h := bnP_s h
      obtain ⟨x34, h35, h⟩ := h
      refine g_getR B fl_RX10_9 (by decide) dX10_burn_61 h35 ?_
      refine g_bipush (v := 111) B dX10_burn_64 (by decide) ?_
      refine g_iload_n B 1 dX10_burn_66 rfl rfl ?_
      refine g_iadd B dX10_burn_67 ?_
      refine g_iconst (v := 2) B dX10_burn_68 (by decide) ?_
      refine g_iadd B dX10_burn_69 ?_
      replace h := bnP_s h
      obtain ⟨x36, h37, h⟩ := h
      refine g_iald B dX10_burn_70 h37 ?_
      replace h := bnP_s h
      obtain ⟨s40, h39, h⟩ := h
      refine g_iast B dX10_burn_71 h39 ?_
      refine g_iinc (v := (q18 + 1)) B 1 dX10_burn_72 rfl (by first | rfl | (congr 1; decide)) (Nat.le_of_ble_eq_true rfl) (s1_c (f1_k rfl (f1_x f1_n))) ?_
      refine g_goto B 37 dX10_burn_75 (by decide) ?_
      obtain ⟨w1, w2⟩ := inS h
      clear h
      subst w1
      subst w2
      exact g_sub [1, 0] rfl (hI23 _ rfl)
  · replace h := ifn (bI0 hc) h
    refine g_iconst (v := 0) B dX10_burn_8 (by decide) ?_
    obtain ⟨w1, w2⟩ := inS h
    clear h
    subst w1
    subst w2
    exact g_iret B hE (Nat.zero_le _) (Nat.zero_le _) dX10_burn_9
set_option maxRecDepth 100000 in
set_option maxHeartbeats 4000000 in
theorem cX10_losec {l : Launch} {v0 : Option Nat} {v1 : Int32} {σ : HpT} {r : Int32} {σ' : HpT} (h : fX10_lose v0 v1 σ = some (r, σ')) : IsK σ v0 10 ∧ Ct l yX10_lose cX10_lose 4 (some .int) 8 176 [va_rf v0, .int v1] σ (.ok (some (.int r))) σ' 0 0 := by
  unfold fX10_lose at h
  replace h := bnP_s h
  obtain ⟨u, hk, h⟩ := h
  replace hk := isK_s hk
  refine ⟨hk, ?_⟩
  refine ct_start mi_X10_lose.1 rfl (al_le (al_1 (rf_cat _) (al_1 rfl al_n)) (Nat.le_of_ble_eq_true rfl)) (ag_1 (rf_cat _) (ag_1 rfl ag_n)) (fun Δ Γ B hE hnm => ?_)
  refine g_aload_n B 0 dX10_lose_0 rfl rfl ?_
  refine g_iload_n B 1 dX10_lose_1 rfl rfl ?_
  replace h := bnP_s h
  obtain ⟨x1, h2, h⟩ := h
  refine g_callVs0 (st := []) B (cX10_isLeafc h2) (Nat.le_of_ble_eq_true rfl) rfl rfl mi_X10_isLeaf lk_RX10_402 ⟨Nat.le_of_ble_eq_true rfl, Nat.le_of_ble_eq_true rfl⟩ rfl rfl (Nat.le_of_ble_eq_true rfl) dX10_lose_2 (Nat.zero_le _) (Nat.zero_le _) ?_
  refine g_istore_n B dX10_lose_5 rfl (Nat.le_of_ble_eq_true rfl) (s1_c (f1_k rfl (f1_1 rfl rfl f1_n))) ?_
  refine g_aload_n B 1 dX10_lose_6 rfl rfl ?_
  refine g_aload_n B 1 dX10_lose_7 rfl rfl ?_
  replace h := bnP_s h
  obtain ⟨x3, h4, h⟩ := h
  refine g_getI B fl_RX10_48 (by decide) dX10_lose_8 h4 ?_
  refine g_iload_n B 0 dX10_lose_11 rfl rfl ?_
  refine g_iload_n B 0 dX10_lose_12 rfl rfl ?_
  replace h := bnP_s h
  obtain ⟨j5, h6, h⟩ := h
  have k8 : GW Δ Γ (0) (0) 30 [(0, va_rf v0), (1, .int v1)] [.int j5.2.2.2, .int j5.2.2.1, .int j5.2.1, va_rf j5.1] σ := by
    replace h := bnS_s h
    obtain ⟨x12, s14, h13, h⟩ := h
    refine g_callVs0 (st := []) B (cX10_mayc h13) (Nat.le_of_ble_eq_true rfl) rfl rfl mi_X10_may lk_RX10_44 ⟨Nat.le_of_ble_eq_true rfl, Nat.le_of_ble_eq_true rfl⟩ rfl rfl (Nat.le_of_ble_eq_true rfl) dX10_lose_30 (Nat.zero_le _) (Nat.zero_le _) ?_
    refine g_if_ne B 38 dX10_lose_33 (by decide) (fun hc => ?_) (fun hc => ?_)
    · replace h := ifp (bI1 hc) h
      refine g_aload_n B 0 dX10_lose_38 rfl rfl ?_
      replace h := bnP_s h
      obtain ⟨s17, h16, h⟩ := h
      refine g_callVv0 (st := []) B (cX10_remembersc h16) (Nat.le_of_ble_eq_true rfl) rfl rfl mi_X10_remembers lk_RX10_550 ⟨Nat.le_of_ble_eq_true rfl, Nat.le_of_ble_eq_true rfl⟩ rfl rfl (Nat.le_of_ble_eq_true rfl) dX10_lose_39 (Nat.zero_le _) (Nat.zero_le _) ?_
      refine g_aload_n B 0 dX10_lose_42 rfl rfl ?_
      replace h := bnP_s h
      obtain ⟨x18, h19, h⟩ := h
      refine g_callVs0 (st := []) B (cX10_unknownc h19) (Nat.le_of_ble_eq_true rfl) rfl rfl mi_X10_unknown lk_RX10_396 ⟨Nat.le_of_ble_eq_true rfl, Nat.le_of_ble_eq_true rfl⟩ rfl rfl (Nat.le_of_ble_eq_true rfl) dX10_lose_43 (Nat.zero_le _) (Nat.zero_le _) ?_
      refine g_istore_n B dX10_lose_46 rfl (Nat.le_of_ble_eq_true rfl) (s1_c (f1_k rfl (f1_k rfl f1_n))) ?_
      refine g_aload_n B 1 dX10_lose_47 rfl rfl ?_
      refine g_iload_n B 2 dX10_lose_48 rfl rfl ?_
      replace h := bnP_s h
      obtain ⟨s22, h21, h⟩ := h
      refine g_callVv0 (st := []) B (cX10_losesc h21) (Nat.le_of_ble_eq_true rfl) rfl rfl mi_X10_loses lk_RX10_240 ⟨Nat.le_of_ble_eq_true rfl, Nat.le_of_ble_eq_true rfl⟩ rfl rfl (Nat.le_of_ble_eq_true rfl) dX10_lose_49 (Nat.zero_le _) (Nat.zero_le _) ?_
      refine g_aload_n B 1 dX10_lose_52 rfl rfl ?_
      replace h := bnP_s h
      obtain ⟨x23, h24, h⟩ := h
      refine g_callVs0 (st := []) B (cX10_unknownc h24) (Nat.le_of_ble_eq_true rfl) rfl rfl mi_X10_unknown lk_RX10_396 ⟨Nat.le_of_ble_eq_true rfl, Nat.le_of_ble_eq_true rfl⟩ rfl rfl (Nat.le_of_ble_eq_true rfl) dX10_lose_53 (Nat.zero_le _) (Nat.zero_le _) ?_
      refine g_iload_n B 0 dX10_lose_56 rfl rfl ?_
      refine g_isub B dX10_lose_57 ?_
      obtain ⟨w1, w2⟩ := inS h
      clear h
      subst w1
      subst w2
      exact g_iret B hE (Nat.zero_le _) (Nat.zero_le _) dX10_lose_58
    · replace h := ifn (bI0 hc) h
      refine g_iconst (v := 0) B dX10_lose_36 (by decide) ?_
      obtain ⟨w1, w2⟩ := inS h
      clear h
      subst w1
      subst w2
      exact g_iret B hE (Nat.zero_le _) (Nat.zero_le _) dX10_lose_37
  clear h
  have h := h6
  clear h6
  refine g_if_eq B 29 dX10_lose_13 (by decide) (fun hc => ?_) (fun hc => ?_)
  · replace h := ifn (bI0 hc) h
    refine g_iconst (v := 0) B dX10_lose_29 (by decide) ?_
    replace h := Option.some.inj h
    subst h
    exact g_sub [1, 2] rfl k8
  · replace h := ifp (bI1 hc) h
    refine g_aload_n B 1 dX10_lose_16 rfl rfl ?_
    refine g_iload_n B 2 dX10_lose_17 rfl rfl ?_
    replace h := bnP_s h
    obtain ⟨x10, h11, h⟩ := h
    refine g_callVs0 (st := [.int (bI x1), .int x3, va_rf v0]) B (cX10_statusOfc h11) (Nat.le_of_ble_eq_true rfl) rfl rfl mi_X10_statusOf lk_RX10_237 ⟨Nat.le_of_ble_eq_true rfl, Nat.le_of_ble_eq_true rfl⟩ rfl rfl (Nat.le_of_ble_eq_true rfl) dX10_lose_18 (Nat.zero_le _) (Nat.zero_le _) ?_
    refine g_iconst (v := 2) B dX10_lose_21 (by decide) ?_
    refine g_icmp_eq B 29 dX10_lose_22 (by decide) (fun hc => ?_) (fun hc => ?_)
    · replace h := ifp hc h
      refine g_iconst (v := 0) B dX10_lose_29 (by decide) ?_
      replace h := Option.some.inj h
      subst h
      exact g_sub [1, 2] rfl k8
    · replace h := ifn hc h
      refine g_iconst (v := 1) B dX10_lose_25 (by decide) ?_
      refine g_goto B 30 dX10_lose_26 (by decide) ?_
      replace h := Option.some.inj h
      subst h
      exact g_sub [1, 2] rfl k8
set_option maxRecDepth 100000 in
set_option maxHeartbeats 4000000 in
theorem cX10_recoverc {l : Launch} {v0 : Option Nat} {v1 : Int32} {σ : HpT} {r : Int32} {σ' : HpT} (h : fX10_recover v0 v1 σ = some (r, σ')) : IsK σ v0 10 ∧ Ct l yX10_recover cX10_recover 4 (some .int) 8 176 [va_rf v0, .int v1] σ (.ok (some (.int r))) σ' 0 0 := by
  unfold fX10_recover at h
  replace h := bnP_s h
  obtain ⟨u, hk, h⟩ := h
  replace hk := isK_s hk
  refine ⟨hk, ?_⟩
  refine ct_start mi_X10_recover.1 rfl (al_le (al_1 (rf_cat _) (al_1 rfl al_n)) (Nat.le_of_ble_eq_true rfl)) (ag_1 (rf_cat _) (ag_1 rfl ag_n)) (fun Δ Γ B hE hnm => ?_)
  refine g_aload_n B 0 dX10_recover_0 rfl rfl ?_
  refine g_iload_n B 1 dX10_recover_1 rfl rfl ?_
  replace h := bnP_s h
  obtain ⟨x1, h2, h⟩ := h
  refine g_callVs0 (st := []) B (cX10_isLeafc h2) (Nat.le_of_ble_eq_true rfl) rfl rfl mi_X10_isLeaf lk_RX10_402 ⟨Nat.le_of_ble_eq_true rfl, Nat.le_of_ble_eq_true rfl⟩ rfl rfl (Nat.le_of_ble_eq_true rfl) dX10_recover_2 (Nat.zero_le _) (Nat.zero_le _) ?_
  refine g_istore_n B dX10_recover_5 rfl (Nat.le_of_ble_eq_true rfl) (s1_c (f1_k rfl (f1_1 rfl rfl f1_n))) ?_
  refine g_aload_n B 1 dX10_recover_6 rfl rfl ?_
  refine g_aload_n B 1 dX10_recover_7 rfl rfl ?_
  replace h := bnP_s h
  obtain ⟨x3, h4, h⟩ := h
  refine g_getI B fl_RX10_48 (by decide) dX10_recover_8 h4 ?_
  refine g_iload_n B 0 dX10_recover_11 rfl rfl ?_
  refine g_iload_n B 0 dX10_recover_12 rfl rfl ?_
  replace h := bnP_s h
  obtain ⟨j5, h6, h⟩ := h
  have k8 : GW Δ Γ (0) (0) 30 [(0, va_rf v0), (1, .int v1)] [.int j5.2.2.2, .int j5.2.2.1, .int j5.2.1, va_rf j5.1] σ := by
    replace h := bnS_s h
    obtain ⟨x12, s14, h13, h⟩ := h
    refine g_callVs0 (st := []) B (cX10_mayc h13) (Nat.le_of_ble_eq_true rfl) rfl rfl mi_X10_may lk_RX10_44 ⟨Nat.le_of_ble_eq_true rfl, Nat.le_of_ble_eq_true rfl⟩ rfl rfl (Nat.le_of_ble_eq_true rfl) dX10_recover_30 (Nat.zero_le _) (Nat.zero_le _) ?_
    refine g_if_ne B 38 dX10_recover_33 (by decide) (fun hc => ?_) (fun hc => ?_)
    · replace h := ifp (bI1 hc) h
      refine g_aload_n B 0 dX10_recover_38 rfl rfl ?_
      replace h := bnP_s h
      obtain ⟨s17, h16, h⟩ := h
      refine g_callVv0 (st := []) B (cX10_remembersc h16) (Nat.le_of_ble_eq_true rfl) rfl rfl mi_X10_remembers lk_RX10_550 ⟨Nat.le_of_ble_eq_true rfl, Nat.le_of_ble_eq_true rfl⟩ rfl rfl (Nat.le_of_ble_eq_true rfl) dX10_recover_39 (Nat.zero_le _) (Nat.zero_le _) ?_
      refine g_aload_n B 0 dX10_recover_42 rfl rfl ?_
      replace h := bnP_s h
      obtain ⟨x18, h19, h⟩ := h
      refine g_callVs0 (st := []) B (cX10_unknownc h19) (Nat.le_of_ble_eq_true rfl) rfl rfl mi_X10_unknown lk_RX10_396 ⟨Nat.le_of_ble_eq_true rfl, Nat.le_of_ble_eq_true rfl⟩ rfl rfl (Nat.le_of_ble_eq_true rfl) dX10_recover_43 (Nat.zero_le _) (Nat.zero_le _) ?_
      refine g_istore_n B dX10_recover_46 rfl (Nat.le_of_ble_eq_true rfl) (s1_c (f1_k rfl (f1_k rfl f1_n))) ?_
      refine g_aload_n B 1 dX10_recover_47 rfl rfl ?_
      refine g_iload_n B 2 dX10_recover_48 rfl rfl ?_
      replace h := bnP_s h
      obtain ⟨s22, h21, h⟩ := h
      refine g_callVv0 (st := []) B (cX10_recoversc h21) (Nat.le_of_ble_eq_true rfl) rfl rfl mi_X10_recovers lk_RX10_243 ⟨Nat.le_of_ble_eq_true rfl, Nat.le_of_ble_eq_true rfl⟩ rfl rfl (Nat.le_of_ble_eq_true rfl) dX10_recover_49 (Nat.zero_le _) (Nat.zero_le _) ?_
      refine g_iload_n B 0 dX10_recover_52 rfl rfl ?_
      refine g_aload_n B 1 dX10_recover_53 rfl rfl ?_
      replace h := bnP_s h
      obtain ⟨x23, h24, h⟩ := h
      refine g_callVs0 (st := [.int x18]) B (cX10_unknownc h24) (Nat.le_of_ble_eq_true rfl) rfl rfl mi_X10_unknown lk_RX10_396 ⟨Nat.le_of_ble_eq_true rfl, Nat.le_of_ble_eq_true rfl⟩ rfl rfl (Nat.le_of_ble_eq_true rfl) dX10_recover_54 (Nat.zero_le _) (Nat.zero_le _) ?_
      refine g_isub B dX10_recover_57 ?_
      obtain ⟨w1, w2⟩ := inS h
      clear h
      subst w1
      subst w2
      exact g_iret B hE (Nat.zero_le _) (Nat.zero_le _) dX10_recover_58
    · replace h := ifn (bI0 hc) h
      refine g_iconst (v := 0) B dX10_recover_36 (by decide) ?_
      obtain ⟨w1, w2⟩ := inS h
      clear h
      subst w1
      subst w2
      exact g_iret B hE (Nat.zero_le _) (Nat.zero_le _) dX10_recover_37
  clear h
  have h := h6
  clear h6
  refine g_if_eq B 29 dX10_recover_13 (by decide) (fun hc => ?_) (fun hc => ?_)
  · replace h := ifn (bI0 hc) h
    refine g_iconst (v := 0) B dX10_recover_29 (by decide) ?_
    replace h := Option.some.inj h
    subst h
    exact g_sub [1, 2] rfl k8
  · replace h := ifp (bI1 hc) h
    refine g_aload_n B 1 dX10_recover_16 rfl rfl ?_
    refine g_iload_n B 2 dX10_recover_17 rfl rfl ?_
    replace h := bnP_s h
    obtain ⟨x10, h11, h⟩ := h
    refine g_callVs0 (st := [.int (bI x1), .int x3, va_rf v0]) B (cX10_statusOfc h11) (Nat.le_of_ble_eq_true rfl) rfl rfl mi_X10_statusOf lk_RX10_237 ⟨Nat.le_of_ble_eq_true rfl, Nat.le_of_ble_eq_true rfl⟩ rfl rfl (Nat.le_of_ble_eq_true rfl) dX10_recover_18 (Nat.zero_le _) (Nat.zero_le _) ?_
    refine g_iconst (v := 2) B dX10_recover_21 (by decide) ?_
    refine g_icmp_ne B 29 dX10_recover_22 (by decide) (fun hc => ?_) (fun hc => ?_)
    · replace h := ifn hc h
      refine g_iconst (v := 0) B dX10_recover_29 (by decide) ?_
      replace h := Option.some.inj h
      subst h
      exact g_sub [1, 2] rfl k8
    · replace h := ifp hc h
      refine g_iconst (v := 1) B dX10_recover_25 (by decide) ?_
      refine g_goto B 30 dX10_recover_26 (by decide) ?_
      replace h := Option.some.inj h
      subst h
      exact g_sub [1, 2] rfl k8
set_option maxRecDepth 100000 in
set_option maxHeartbeats 4000000 in
theorem cX10_sewc {l : Launch} {v0 : Option Nat} {v1 : Int32} {σ : HpT} {r : Int32} {σ' : HpT} (h : fX10_sew v0 v1 σ = some (r, σ')) : IsK σ v0 10 ∧ Ct l yX10_sew cX10_sew 3 (some .int) 2 45 [va_rf v0, .int v1] σ (.ok (some (.int r))) σ' 0 0 := by
  unfold fX10_sew at h
  replace h := bnP_s h
  obtain ⟨u, hk, h⟩ := h
  replace hk := isK_s hk
  refine ⟨hk, ?_⟩
  refine ct_start mi_X10_sew.1 rfl (al_le (al_1 (rf_cat _) (al_1 rfl al_n)) (Nat.le_of_ble_eq_true rfl)) (ag_1 (rf_cat _) (ag_1 rfl ag_n)) (fun Δ Γ B hE hnm => ?_)
  refine g_aload_n B 0 dX10_sew_0 rfl rfl ?_
  refine g_iload_n B 1 dX10_sew_1 rfl rfl ?_
  replace h := bnP_s h
  obtain ⟨x1, h2, h⟩ := h
  refine g_callVs0 (st := []) B (cX10_isLeafc h2) (Nat.le_of_ble_eq_true rfl) rfl rfl mi_X10_isLeaf lk_RX10_402 ⟨Nat.le_of_ble_eq_true rfl, Nat.le_of_ble_eq_true rfl⟩ rfl rfl (Nat.le_of_ble_eq_true rfl) dX10_sew_2 (Nat.zero_le _) (Nat.zero_le _) ?_
  refine g_istore_n B dX10_sew_5 rfl (Nat.le_of_ble_eq_true rfl) (s1_c (f1_k rfl (f1_1 rfl rfl f1_n))) ?_
  refine g_aload_n B 1 dX10_sew_6 rfl rfl ?_
  refine g_aload_n B 1 dX10_sew_7 rfl rfl ?_
  replace h := bnP_s h
  obtain ⟨x3, h4, h⟩ := h
  refine g_getI B fl_RX10_48 (by decide) dX10_sew_8 h4 ?_
  refine g_iload_n B 0 dX10_sew_11 rfl rfl ?_
  refine g_iload_n B 0 dX10_sew_12 rfl rfl ?_
  replace h := bnP_s h
  obtain ⟨j5, h6, h⟩ := h
  have k8 : GW Δ Γ (0) (0) 30 [(0, va_rf v0), (1, .int v1)] [.int j5.2.2.2, .int j5.2.2.1, .int j5.2.1, va_rf j5.1] σ := by
    replace h := bnS_s h
    obtain ⟨x12, s14, h13, h⟩ := h
    refine g_callVs0 (st := []) B (cX10_mayc h13) (Nat.le_of_ble_eq_true rfl) rfl rfl mi_X10_may lk_RX10_44 ⟨Nat.le_of_ble_eq_true rfl, Nat.le_of_ble_eq_true rfl⟩ rfl rfl (Nat.le_of_ble_eq_true rfl) dX10_sew_30 (Nat.zero_le _) (Nat.zero_le _) ?_
    refine g_if_ne B 38 dX10_sew_33 (by decide) (fun hc => ?_) (fun hc => ?_)
    · replace h := ifp (bI1 hc) h
      refine g_aload_n B 0 dX10_sew_38 rfl rfl ?_
      replace h := bnP_s h
      obtain ⟨s17, h16, h⟩ := h
      refine g_callVv0 (st := []) B (cX10_remembersc h16) (Nat.le_of_ble_eq_true rfl) rfl rfl mi_X10_remembers lk_RX10_550 ⟨Nat.le_of_ble_eq_true rfl, Nat.le_of_ble_eq_true rfl⟩ rfl rfl (Nat.le_of_ble_eq_true rfl) dX10_sew_39 (Nat.zero_le _) (Nat.zero_le _) ?_
      refine g_aload_n B 0 dX10_sew_42 rfl rfl ?_
      replace h := bnP_s h
      obtain ⟨x18, h19, h⟩ := h
      refine g_getR B fl_RX10_9 (by decide) dX10_sew_43 h19 ?_
      refine g_bipush (v := 99) B dX10_sew_46 (by decide) ?_
      refine g_iload_n B 1 dX10_sew_48 rfl rfl ?_
      refine g_iadd B dX10_sew_49 ?_
      refine g_iconst (v := 0) B dX10_sew_50 (by decide) ?_
      replace h := bnP_s h
      obtain ⟨s22, h21, h⟩ := h
      refine g_iast B dX10_sew_51 h21 ?_
      refine g_aload_n B 0 dX10_sew_52 rfl rfl ?_
      refine g_iconst (v := 1) B dX10_sew_53 (by decide) ?_
      replace h := bnP_s h
      obtain ⟨x23, h24, h⟩ := h
      refine g_callVs0 (st := []) B (cX10_withStatusc h24) (Nat.le_of_ble_eq_true rfl) rfl rfl mi_X10_withStatus lk_RX10_384 ⟨Nat.le_of_ble_eq_true rfl, Nat.le_of_ble_eq_true rfl⟩ rfl rfl (Nat.le_of_ble_eq_true rfl) dX10_sew_54 (Nat.zero_le _) (Nat.zero_le _) ?_
      obtain ⟨w1, w2⟩ := inS h
      clear h
      subst w1
      subst w2
      exact g_iret B hE (Nat.zero_le _) (Nat.zero_le _) dX10_sew_57
    · replace h := ifn (bI0 hc) h
      refine g_iconst (v := 0) B dX10_sew_36 (by decide) ?_
      obtain ⟨w1, w2⟩ := inS h
      clear h
      subst w1
      subst w2
      exact g_iret B hE (Nat.zero_le _) (Nat.zero_le _) dX10_sew_37
  clear h
  have h := h6
  clear h6
  refine g_if_eq B 29 dX10_sew_13 (by decide) (fun hc => ?_) (fun hc => ?_)
  · replace h := ifn (bI0 hc) h
    refine g_iconst (v := 0) B dX10_sew_29 (by decide) ?_
    replace h := Option.some.inj h
    subst h
    exact g_sub [1, 2] rfl k8
  · replace h := ifp (bI1 hc) h
    refine g_aload_n B 1 dX10_sew_16 rfl rfl ?_
    refine g_iload_n B 2 dX10_sew_17 rfl rfl ?_
    replace h := bnP_s h
    obtain ⟨x10, h11, h⟩ := h
    refine g_callVs0 (st := [.int (bI x1), .int x3, va_rf v0]) B (cX10_statusOfc h11) (Nat.le_of_ble_eq_true rfl) rfl rfl mi_X10_statusOf lk_RX10_237 ⟨Nat.le_of_ble_eq_true rfl, Nat.le_of_ble_eq_true rfl⟩ rfl rfl (Nat.le_of_ble_eq_true rfl) dX10_sew_18 (Nat.zero_le _) (Nat.zero_le _) ?_
    refine g_iconst (v := 1) B dX10_sew_21 (by decide) ?_
    refine g_icmp_ne B 29 dX10_sew_22 (by decide) (fun hc => ?_) (fun hc => ?_)
    · replace h := ifn hc h
      refine g_iconst (v := 0) B dX10_sew_29 (by decide) ?_
      replace h := Option.some.inj h
      subst h
      exact g_sub [1, 2] rfl k8
    · replace h := ifp hc h
      refine g_iconst (v := 1) B dX10_sew_25 (by decide) ?_
      refine g_goto B 30 dX10_sew_26 (by decide) ?_
      replace h := Option.some.inj h
      subst h
      exact g_sub [1, 2] rfl k8
set_option maxRecDepth 100000 in
set_option maxHeartbeats 4000000 in
theorem cX10_shakec {l : Launch} {v0 : Option Nat} {σ : HpT} {r : Int32} {σ' : HpT} (h : fX10_shake v0 σ = some (r, σ')) : IsK σ v0 10 ∧ Ct l yX10_shake cX10_shake 1 (some .int) 4 86 [va_rf v0] σ (.ok (some (.int r))) σ' 0 0 := by
  unfold fX10_shake at h
  replace h := bnP_s h
  obtain ⟨u, hk, h⟩ := h
  replace hk := isK_s hk
  refine ⟨hk, ?_⟩
  refine ct_start mi_X10_shake.1 rfl (al_le (al_1 (rf_cat _) al_n) (Nat.le_of_ble_eq_true rfl)) (ag_1 (rf_cat _) ag_n) (fun Δ Γ B hE hnm => ?_)
  refine g_aload_n B 0 dX10_shake_0 rfl rfl ?_
  replace h := bnS_s h
  obtain ⟨x1, s3, h2, h⟩ := h
  refine g_callVs0 (st := []) B (cX10_mayLookc h2) (Nat.le_of_ble_eq_true rfl) rfl rfl mi_X10_mayLook lk_RX10_461 ⟨Nat.le_of_ble_eq_true rfl, Nat.le_of_ble_eq_true rfl⟩ rfl rfl (Nat.le_of_ble_eq_true rfl) dX10_shake_1 (Nat.zero_le _) (Nat.zero_le _) ?_
  refine g_if_ne B 9 dX10_shake_4 (by decide) (fun hc => ?_) (fun hc => ?_)
  · replace h := ifp (bI1 hc) h
    refine g_aload_n B 0 dX10_shake_9 rfl rfl ?_
    replace h := bnP_s h
    obtain ⟨s6, h5, h⟩ := h
    refine g_callVv0 (st := []) B (cX10_remembersc h5) (Nat.le_of_ble_eq_true rfl) rfl rfl mi_X10_remembers lk_RX10_550 ⟨Nat.le_of_ble_eq_true rfl, Nat.le_of_ble_eq_true rfl⟩ rfl rfl (Nat.le_of_ble_eq_true rfl) dX10_shake_10 (Nat.zero_le _) (Nat.zero_le _) ?_
    refine g_aload_n B 0 dX10_shake_13 rfl rfl ?_
    replace h := bnS_s h
    obtain ⟨x7, s9, h8, h⟩ := h
    refine g_callVs0 (st := []) B (cX10_shakesc h8) (Nat.le_of_ble_eq_true rfl) rfl rfl mi_X10_shakes lk_RX10_246 ⟨Nat.le_of_ble_eq_true rfl, Nat.le_of_ble_eq_true rfl⟩ rfl rfl (Nat.le_of_ble_eq_true rfl) dX10_shake_14 (Nat.zero_le _) (Nat.zero_le _) ?_
    obtain ⟨w1, w2⟩ := inS h
    clear h
    subst w1
    subst w2
    exact g_iret B hE (Nat.zero_le _) (Nat.zero_le _) dX10_shake_17
  · replace h := ifn (bI0 hc) h
    refine g_iconst (v := 0) B dX10_shake_7 (by decide) ?_
    obtain ⟨w1, w2⟩ := inS h
    clear h
    subst w1
    subst w2
    exact g_iret B hE (Nat.zero_le _) (Nat.zero_le _) dX10_shake_8
set_option maxRecDepth 100000 in
set_option maxHeartbeats 4000000 in
theorem cX10_undoc {l : Launch} {v0 : Option Nat} {σ : HpT} {r : Int32} {σ' : HpT} (h : fX10_undo v0 σ = some (r, σ')) : IsK σ v0 10 ∧ Ct l yX10_undo cX10_undo 1 (some .int) 1 24 [va_rf v0] σ (.ok (some (.int r))) σ' 0 0 := by
  unfold fX10_undo at h
  replace h := bnP_s h
  obtain ⟨u, hk, h⟩ := h
  replace hk := isK_s hk
  refine ⟨hk, ?_⟩
  refine ct_start mi_X10_undo.1 rfl (al_le (al_1 (rf_cat _) al_n) (Nat.le_of_ble_eq_true rfl)) (ag_1 (rf_cat _) ag_n) (fun Δ Γ B hE hnm => ?_)
  refine g_aload_n B 0 dX10_undo_0 rfl rfl ?_
  refine g_aload_n B 0 dX10_undo_1 rfl rfl ?_
  replace h := bnP_s h
  obtain ⟨x1, h2, h⟩ := h
  refine g_getI B fl_RX10_324 (by decide) dX10_undo_2 h2 ?_
  replace h := bnP_s h
  obtain ⟨j3, h4, h⟩ := h
  have k6 : GW Δ Γ (0) (0) 13 [(0, va_rf v0)] [.int j3.2, va_rf j3.1] σ := by
    refine g_iconst (v := 1) B dX10_undo_13 (by decide) ?_
    refine g_iconst (v := 1) B dX10_undo_14 (by decide) ?_
    replace h := bnS_s h
    obtain ⟨x8, s10, h9, h⟩ := h
    refine g_callVs0 (st := []) B (cX10_mayc h9) (Nat.le_of_ble_eq_true rfl) rfl rfl mi_X10_may lk_RX10_44 ⟨Nat.le_of_ble_eq_true rfl, Nat.le_of_ble_eq_true rfl⟩ rfl rfl (Nat.le_of_ble_eq_true rfl) dX10_undo_15 (Nat.zero_le _) (Nat.zero_le _) ?_
    refine g_if_ne B 23 dX10_undo_18 (by decide) (fun hc => ?_) (fun hc => ?_)
    · replace h := ifp (bI1 hc) h
      refine g_aload_n B 0 dX10_undo_23 rfl rfl ?_
      refine g_dup B dX10_undo_24 (rf_cat _) ?_
      replace h := bnP_s h
      obtain ⟨x11, h12, h⟩ := h
      refine g_getI B fl_RX10_324 (by decide) dX10_undo_25 h12 ?_
      refine g_iconst (v := 1) B dX10_undo_28 (by decide) ?_
      refine g_isub B dX10_undo_29 ?_
      replace h := bnP_s h
      obtain ⟨s15, h14, h⟩ := h
      refine g_putI B fl_RX10_324 (by decide) dX10_undo_30 h14 ?_
      refine g_aload_n B 0 dX10_undo_33 rfl rfl ?_
      replace h := bnP_s h
      obtain ⟨x16, h17, h⟩ := h
      refine g_getR B fl_RX10_17 (by decide) dX10_undo_34 h17 ?_
      refine g_aload_n B 0 dX10_undo_37 rfl rfl ?_
      replace h := bnP_s h
      obtain ⟨x18, h19, h⟩ := h
      refine g_getI B fl_RX10_324 (by decide) dX10_undo_38 h19 ?_
      refine g_sipush (v := 6139) B dX10_undo_41 (by decide) ?_
      refine g_imul B dX10_undo_44 ?_
      refine g_aload_n B 0 dX10_undo_45 rfl rfl ?_
      replace h := bnP_s h
      obtain ⟨x20, h21, h⟩ := h
      refine g_getR B fl_RX10_9 (by decide) dX10_undo_46 h21 ?_
      refine g_iconst (v := 0) B dX10_undo_49 (by decide) ?_
      replace h := bnP_s h
      obtain ⟨s24, h23, h⟩ := h
      refine g_callSv0 (st := []) B (cX10_laysc h23) mi_X10_lays lk_RX10_52 ⟨Nat.le_of_ble_eq_true rfl, Nat.le_of_ble_eq_true rfl⟩ rfl rfl (Nat.le_of_ble_eq_true rfl) dX10_undo_50 (Nat.zero_le _) (Nat.zero_le _) ?_
      refine g_aload_n B 0 dX10_undo_53 rfl rfl ?_
      replace h := bnP_s h
      obtain ⟨x25, h26, h⟩ := h
      refine g_getI B fl_RX10_324 (by decide) dX10_undo_54 h26 ?_
      obtain ⟨w1, w2⟩ := inS h
      clear h
      subst w1
      subst w2
      exact g_iret B hE (Nat.zero_le _) (Nat.zero_le _) dX10_undo_57
    · replace h := ifn (bI0 hc) h
      refine g_iconst (v := 0) B dX10_undo_21 (by decide) ?_
      obtain ⟨w1, w2⟩ := inS h
      clear h
      subst w1
      subst w2
      exact g_iret B hE (Nat.zero_le _) (Nat.zero_le _) dX10_undo_22
  clear h
  have h := h4
  clear h4
  refine g_if_le B 12 dX10_undo_5 (by decide) (fun hc => ?_) (fun hc => ?_)
  · replace h := ifp hc h
    refine g_iconst (v := 0) B dX10_undo_12 (by decide) ?_
    replace h := Option.some.inj h
    subst h
    exact g_sub [0] rfl k6
  · replace h := ifn hc h
    refine g_iconst (v := 1) B dX10_undo_8 (by decide) ?_
    refine g_goto B 13 dX10_undo_9 (by decide) ?_
    replace h := Option.some.inj h
    subst h
    exact g_sub [0] rfl k6
set_option maxRecDepth 100000 in
set_option maxHeartbeats 4000000 in
theorem cX10_undoablec {l : Launch} {v0 : Option Nat} {σ : HpT} {r : Int32} {σ' : HpT} (h : fX10_undoable v0 σ = some (r, σ')) : IsK σ v0 10 ∧ Ct l yX10_undoable cX10_undoable 1 (some .int) 0 0 [va_rf v0] σ (.ok (some (.int r))) σ' 0 0 := by
  unfold fX10_undoable at h
  replace h := bnP_s h
  obtain ⟨u, hk, h⟩ := h
  replace hk := isK_s hk
  refine ⟨hk, ?_⟩
  refine ct_start mi_X10_undoable.1 rfl (al_le (al_1 (rf_cat _) al_n) (Nat.le_of_ble_eq_true rfl)) (ag_1 (rf_cat _) ag_n) (fun Δ Γ B hE hnm => ?_)
  refine g_aload_n B 0 dX10_undoable_0 rfl rfl ?_
  refine g_iconst (v := 0) B dX10_undoable_1 (by decide) ?_
  replace h := bnP_s h
  obtain ⟨s3, h2, h⟩ := h
  refine g_putI B fl_RX10_41 (by decide) dX10_undoable_2 h2 ?_
  refine g_aload_n B 0 dX10_undoable_5 rfl rfl ?_
  replace h := bnP_s h
  obtain ⟨x4, h5, h⟩ := h
  refine g_getI B fl_RX10_324 (by decide) dX10_undoable_6 h5 ?_
  obtain ⟨w1, w2⟩ := inS h
  clear h
  subst w1
  subst w2
  exact g_iret B hE (Nat.zero_le _) (Nat.zero_le _) dX10_undoable_9
set_option maxRecDepth 100000 in
set_option maxHeartbeats 4000000 in
theorem cX10_isSlotc {l : Launch} {v0 : Int32} {σ : HpT} {r : Bool} (h : fX10_isSlot v0 σ = some r) : Ct l yX10_isSlot cX10_isSlot 1 (some .boolean) 1 22 [.int v0] σ (.ok (some (.int (bI r)))) σ 0 0 := by
  unfold fX10_isSlot at h
  refine ct_start mi_X10_isSlot.1 rfl (al_le (al_1 rfl al_n) (Nat.le_of_ble_eq_true rfl)) (ag_1 rfl ag_n) (fun Δ Γ B hE hnm => ?_)
  refine g_iload_n B 0 dX10_isSlot_0 rfl rfl ?_
  refine g_iconst (v := 0) B dX10_isSlot_1 (by decide) ?_
  refine g_iconst (v := 1) B dX10_isSlot_2 (by decide) ?_
  replace h := bnP_s h
  obtain ⟨x1, h2, h⟩ := h
  refine g_callSs0 (st := []) B (cX10_inc h2) mi_X10_in lk_RX10_69 ⟨Nat.le_of_ble_eq_true rfl, Nat.le_of_ble_eq_true rfl⟩ rfl rfl (Nat.le_of_ble_eq_true rfl) dX10_isSlot_3 (Nat.zero_le _) (Nat.zero_le _) ?_
  replace h := Option.some.inj h
  subst h
  exact g_zret B hE (nar_bI _) (Nat.zero_le _) (Nat.zero_le _) dX10_isSlot_6
set_option maxRecDepth 100000 in
set_option maxHeartbeats 4000000 in
theorem cX10_savec {l : Launch} {v0 : Option Nat} {v1 : Int32} {σ : HpT} {r : Int32} {σ' : HpT} (h : fX10_save v0 v1 σ = some (r, σ')) : IsK σ v0 10 ∧ Ct l yX10_save cX10_save 2 (some .int) 2 45 [va_rf v0, .int v1] σ (.ok (some (.int r))) σ' 0 0 := by
  unfold fX10_save at h
  replace h := bnP_s h
  obtain ⟨u, hk, h⟩ := h
  replace hk := isK_s hk
  refine ⟨hk, ?_⟩
  refine ct_start mi_X10_save.1 rfl (al_le (al_1 (rf_cat _) (al_1 rfl al_n)) (Nat.le_of_ble_eq_true rfl)) (ag_1 (rf_cat _) (ag_1 rfl ag_n)) (fun Δ Γ B hE hnm => ?_)
  refine g_aload_n B 0 dX10_save_0 rfl rfl ?_
  refine g_aload_n B 0 dX10_save_1 rfl rfl ?_
  replace h := bnP_s h
  obtain ⟨x1, h2, h⟩ := h
  refine g_getI B fl_RX10_48 (by decide) dX10_save_2 h2 ?_
  refine g_iload_n B 1 dX10_save_5 rfl rfl ?_
  replace h := bnP_s h
  obtain ⟨x3, h4, h⟩ := h
  refine g_callSs0 (st := [.int x1, va_rf v0]) B (cX10_isSlotc h4) mi_X10_isSlot lk_RX10_556 ⟨Nat.le_of_ble_eq_true rfl, Nat.le_of_ble_eq_true rfl⟩ rfl rfl (Nat.le_of_ble_eq_true rfl) dX10_save_6 (Nat.zero_le _) (Nat.zero_le _) ?_
  replace h := bnS_s h
  obtain ⟨x5, s7, h6, h⟩ := h
  refine g_callVs0 (st := []) B (cX10_mayTwoc h6) (Nat.le_of_ble_eq_true rfl) rfl rfl mi_X10_mayTwo lk_RX10_380 ⟨Nat.le_of_ble_eq_true rfl, Nat.le_of_ble_eq_true rfl⟩ rfl rfl (Nat.le_of_ble_eq_true rfl) dX10_save_9 (Nat.zero_le _) (Nat.zero_le _) ?_
  refine g_if_ne B 17 dX10_save_12 (by decide) (fun hc => ?_) (fun hc => ?_)
  · replace h := ifp (bI1 hc) h
    refine g_aload_n B 0 dX10_save_17 rfl rfl ?_
    replace h := bnP_s h
    obtain ⟨x8, h9, h⟩ := h
    refine g_getR B fl_RX10_9 (by decide) dX10_save_18 h9 ?_
    refine g_iconst (v := 0) B dX10_save_21 (by decide) ?_
    refine g_aload_n B 0 dX10_save_22 rfl rfl ?_
    replace h := bnP_s h
    obtain ⟨x10, h11, h⟩ := h
    refine g_getR B fl_RX10_20 (by decide) dX10_save_23 h11 ?_
    refine g_iload_n B 1 dX10_save_26 rfl rfl ?_
    refine g_sipush (v := 6139) B dX10_save_27 (by decide) ?_
    refine g_imul B dX10_save_30 ?_
    replace h := bnP_s h
    obtain ⟨s14, h13, h⟩ := h
    refine g_callSv0 (st := []) B (cX10_laysc h13) mi_X10_lays lk_RX10_52 ⟨Nat.le_of_ble_eq_true rfl, Nat.le_of_ble_eq_true rfl⟩ rfl rfl (Nat.le_of_ble_eq_true rfl) dX10_save_31 (Nat.zero_le _) (Nat.zero_le _) ?_
    refine g_aload_n B 0 dX10_save_34 rfl rfl ?_
    replace h := bnP_s h
    obtain ⟨x15, h16, h⟩ := h
    refine g_getR B fl_RX10_23 (by decide) dX10_save_35 h16 ?_
    refine g_iload_n B 1 dX10_save_38 rfl rfl ?_
    refine g_iconst (v := 1) B dX10_save_39 (by decide) ?_
    replace h := bnP_s h
    obtain ⟨s19, h18, h⟩ := h
    refine g_zast B dX10_save_40 h18 ?_
    refine g_aload_n B 0 dX10_save_41 rfl rfl ?_
    replace h := bnP_s h
    obtain ⟨x20, h21, h⟩ := h
    refine g_getR B fl_RX10_9 (by decide) dX10_save_42 h21 ?_
    refine g_iconst (v := 3) B dX10_save_45 (by decide) ?_
    replace h := bnP_s h
    obtain ⟨x22, h23, h⟩ := h
    refine g_iald B dX10_save_46 h23 ?_
    obtain ⟨w1, w2⟩ := inS h
    clear h
    subst w1
    subst w2
    exact g_iret B hE (Nat.zero_le _) (Nat.zero_le _) dX10_save_47
  · replace h := ifn (bI0 hc) h
    refine g_iconst (v := 0) B dX10_save_15 (by decide) ?_
    obtain ⟨w1, w2⟩ := inS h
    clear h
    subst w1
    subst w2
    exact g_iret B hE (Nat.zero_le _) (Nat.zero_le _) dX10_save_16
set_option maxRecDepth 100000 in
set_option maxHeartbeats 4000000 in
theorem cX10_restorec {l : Launch} {v0 : Option Nat} {v1 : Int32} {σ : HpT} {r : Int32} {σ' : HpT} (h : fX10_restore v0 v1 σ = some (r, σ')) : IsK σ v0 10 ∧ Ct l yX10_restore cX10_restore 3 (some .int) 2 45 [va_rf v0, .int v1] σ (.ok (some (.int r))) σ' 0 0 := by
  unfold fX10_restore at h
  replace h := bnP_s h
  obtain ⟨u, hk, h⟩ := h
  replace hk := isK_s hk
  refine ⟨hk, ?_⟩
  refine ct_start mi_X10_restore.1 rfl (al_le (al_1 (rf_cat _) (al_1 rfl al_n)) (Nat.le_of_ble_eq_true rfl)) (ag_1 (rf_cat _) (ag_1 rfl ag_n)) (fun Δ Γ B hE hnm => ?_)
  refine g_iload_n B 1 dX10_restore_0 rfl rfl ?_
  replace h := bnP_s h
  obtain ⟨x1, h2, h⟩ := h
  refine g_callSs0 (st := []) B (cX10_isSlotc h2) mi_X10_isSlot lk_RX10_556 ⟨Nat.le_of_ble_eq_true rfl, Nat.le_of_ble_eq_true rfl⟩ rfl rfl (Nat.le_of_ble_eq_true rfl) dX10_restore_1 (Nat.zero_le _) (Nat.zero_le _) ?_
  refine g_istore_n B dX10_restore_4 rfl (Nat.le_of_ble_eq_true rfl) (s1_c (f1_k rfl (f1_1 rfl rfl f1_n))) ?_
  refine g_aload_n B 1 dX10_restore_5 rfl rfl ?_
  refine g_iload_n B 0 dX10_restore_6 rfl rfl ?_
  refine g_iload_n B 0 dX10_restore_7 rfl rfl ?_
  replace h := bnP_s h
  obtain ⟨j3, h4, h⟩ := h
  have k6 : GW Δ Γ (0) (0) 25 [(0, va_rf v0), (1, .int v1)] [.int j3.2.2, .int j3.2.1, va_rf j3.1] σ := by
    replace h := bnS_s h
    obtain ⟨x12, s14, h13, h⟩ := h
    refine g_callVs0 (st := []) B (cX10_mayTwoc h13) (Nat.le_of_ble_eq_true rfl) rfl rfl mi_X10_mayTwo lk_RX10_380 ⟨Nat.le_of_ble_eq_true rfl, Nat.le_of_ble_eq_true rfl⟩ rfl rfl (Nat.le_of_ble_eq_true rfl) dX10_restore_25 (Nat.zero_le _) (Nat.zero_le _) ?_
    refine g_if_ne B 33 dX10_restore_28 (by decide) (fun hc => ?_) (fun hc => ?_)
    · replace h := ifp (bI1 hc) h
      refine g_aload_n B 0 dX10_restore_33 rfl rfl ?_
      replace h := bnP_s h
      obtain ⟨x15, h16, h⟩ := h
      refine g_getR B fl_RX10_20 (by decide) dX10_restore_34 h16 ?_
      refine g_iload_n B 1 dX10_restore_37 rfl rfl ?_
      refine g_sipush (v := 6139) B dX10_restore_38 (by decide) ?_
      refine g_imul B dX10_restore_41 ?_
      refine g_aload_n B 0 dX10_restore_42 rfl rfl ?_
      replace h := bnP_s h
      obtain ⟨x17, h18, h⟩ := h
      refine g_getR B fl_RX10_9 (by decide) dX10_restore_43 h18 ?_
      refine g_iconst (v := 0) B dX10_restore_46 (by decide) ?_
      replace h := bnP_s h
      obtain ⟨s21, h20, h⟩ := h
      refine g_callSv0 (st := []) B (cX10_laysc h20) mi_X10_lays lk_RX10_52 ⟨Nat.le_of_ble_eq_true rfl, Nat.le_of_ble_eq_true rfl⟩ rfl rfl (Nat.le_of_ble_eq_true rfl) dX10_restore_47 (Nat.zero_le _) (Nat.zero_le _) ?_
      refine g_aload_n B 0 dX10_restore_50 rfl rfl ?_
      refine g_iconst (v := 0) B dX10_restore_51 (by decide) ?_
      replace h := bnP_s h
      obtain ⟨s24, h23, h⟩ := h
      refine g_putI B fl_RX10_324 (by decide) dX10_restore_52 h23 ?_
      refine g_aload_n B 0 dX10_restore_55 rfl rfl ?_
      replace h := bnP_s h
      obtain ⟨x25, h26, h⟩ := h
      refine g_getR B fl_RX10_9 (by decide) dX10_restore_56 h26 ?_
      refine g_iconst (v := 3) B dX10_restore_59 (by decide) ?_
      replace h := bnP_s h
      obtain ⟨x27, h28, h⟩ := h
      refine g_iald B dX10_restore_60 h28 ?_
      obtain ⟨w1, w2⟩ := inS h
      clear h
      subst w1
      subst w2
      exact g_iret B hE (Nat.zero_le _) (Nat.zero_le _) dX10_restore_61
    · replace h := ifn (bI0 hc) h
      refine g_iconst (v := 0) B dX10_restore_31 (by decide) ?_
      obtain ⟨w1, w2⟩ := inS h
      clear h
      subst w1
      subst w2
      exact g_iret B hE (Nat.zero_le _) (Nat.zero_le _) dX10_restore_32
  clear h
  have h := h4
  clear h4
  refine g_if_eq B 24 dX10_restore_8 (by decide) (fun hc => ?_) (fun hc => ?_)
  · replace h := ifn (bI0 hc) h
    refine g_iconst (v := 0) B dX10_restore_24 (by decide) ?_
    replace h := Option.some.inj h
    subst h
    exact g_sub [1, 2] rfl k6
  · replace h := ifp (bI1 hc) h
    refine g_aload_n B 1 dX10_restore_11 rfl rfl ?_
    replace h := bnP_s h
    obtain ⟨x8, h9, h⟩ := h
    refine g_getR B fl_RX10_23 (by decide) dX10_restore_12 h9 ?_
    refine g_iload_n B 2 dX10_restore_15 rfl rfl ?_
    replace h := bnP_s h
    obtain ⟨x10, h11, h⟩ := h
    refine g_zald B dX10_restore_16 h11 ?_
    refine g_if_eq B 24 dX10_restore_17 (by decide) (fun hc => ?_) (fun hc => ?_)
    · replace h := ifp hc h
      refine g_iconst (v := 0) B dX10_restore_24 (by decide) ?_
      replace h := Option.some.inj h
      subst h
      exact g_sub [1, 2] rfl k6
    · replace h := ifn hc h
      refine g_iconst (v := 1) B dX10_restore_20 (by decide) ?_
      refine g_goto B 25 dX10_restore_21 (by decide) ?_
      replace h := Option.some.inj h
      subst h
      exact g_sub [1, 2] rfl k6
