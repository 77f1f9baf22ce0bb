theorem mi_X10_act : MI yX10_act cX10_act 4 (some .int) 2 := ⟨by decide +kernel, (mw (i := 2460) (by decide +kernel) rfl), (mw (i := 176) (by decide +kernel) rfl), by decide +kernel, by decide +kernel⟩
theorem mi_X10_actsWith : MI yX10_actsWith cX10_actsWith 4 (some .int) 1 := ⟨by decide +kernel, (mw (i := 2452) (by decide +kernel) rfl), (mw (i := 176) (by decide +kernel) rfl), by decide +kernel, by decide +kernel⟩
theorem mi_X10_clause : MI yX10_clause cX10_clause 8 (some .int) 3 := ⟨by decide +kernel, (mw (i := 2511) (by decide +kernel) rfl), (mw (i := 176) (by decide +kernel) rfl), by decide +kernel, by decide +kernel⟩
theorem mi_X10_clauseNumber : MI yX10_clauseNumber cX10_clauseNumber 2 (some .int) 1 := ⟨by decide +kernel, (mw (i := 2499) (by decide +kernel) rfl), (mw (i := 176) (by decide +kernel) rfl), by decide +kernel, by decide +kernel⟩
theorem mi_X10_clausesIn : MI yX10_clausesIn cX10_clausesIn 5 (some .int) 2 := ⟨by decide +kernel, (mw (i := 2519) (by decide +kernel) rfl), (mw (i := 176) (by decide +kernel) rfl), by decide +kernel, by decide +kernel⟩
theorem mi_X10_copiesOf : MI yX10_copiesOf cX10_copiesOf 4 (some .int) 1 := ⟨by decide +kernel, (mw (i := 2477) (by decide +kernel) rfl), (mw (i := 176) (by decide +kernel) rfl), by decide +kernel, by decide +kernel⟩
theorem mi_X10_count : MI yX10_count cX10_count 2 (some .int) 1 := ⟨by decide +kernel, (mw (i := 2432) (by decide +kernel) rfl), (mw (i := 176) (by decide +kernel) rfl), by decide +kernel, by decide +kernel⟩
theorem mi_X10_deepest : MI yX10_deepest cX10_deepest 4 (some .int) 1 := ⟨by decide +kernel, (mw (i := 2468) (by decide +kernel) rfl), (mw (i := 176) (by decide +kernel) rfl), by decide +kernel, by decide +kernel⟩
theorem mi_X10_firstOn : MI yX10_firstOn cX10_firstOn 2 (some .int) 1 := ⟨by decide +kernel, (mw (i := 2536) (by decide +kernel) rfl), (mw (i := 176) (by decide +kernel) rfl), by decide +kernel, by decide +kernel⟩
theorem mi_X10_globalOf : MI yX10_globalOf cX10_globalOf 3 (some .int) 2 := ⟨by decide +kernel, (mw (i := 2489) (by decide +kernel) rfl), (mw (i := 176) (by decide +kernel) rfl), by decide +kernel, by decide +kernel⟩
theorem mi_X10_innerLetter : MI yX10_innerLetter cX10_innerLetter 6 (some .int) 4 := ⟨by decide +kernel, (mw (i := 2507) (by decide +kernel) rfl), (mw (i := 176) (by decide +kernel) rfl), by decide +kernel, by decide +kernel⟩
theorem mi_X10_isAct : MI yX10_isAct cX10_isAct 2 (some .boolean) 1 := ⟨by decide +kernel, (mw (i := 2464) (by decide +kernel) rfl), (mw (i := 176) (by decide +kernel) rfl), by decide +kernel, by decide +kernel⟩
theorem mi_X10_isCopy : MI yX10_isCopy cX10_isCopy 2 (some .boolean) 1 := ⟨by decide +kernel, (mw (i := 2544) (by decide +kernel) rfl), (mw (i := 176) (by decide +kernel) rfl), by decide +kernel, by decide +kernel⟩
theorem mi_X10_isGrade : MI yX10_isGrade cX10_isGrade 1 (some .boolean) 1 := ⟨by decide +kernel, (mw (i := 2596) (by decide +kernel) rfl), (mw (i := 176) (by decide +kernel) rfl), by decide +kernel, by decide +kernel⟩
theorem mi_X10_isLeaf : MI yX10_isLeaf cX10_isLeaf 2 (some .boolean) 1 := ⟨by decide +kernel, (mw (i := 2527) (by decide +kernel) rfl), (mw (i := 176) (by decide +kernel) rfl), by decide +kernel, by decide +kernel⟩
theorem mi_X10_isWordOf : MI yX10_isWordOf cX10_isWordOf 3 (some .boolean) 2 := ⟨by decide +kernel, (mw (i := 2485) (by decide +kernel) rfl), (mw (i := 176) (by decide +kernel) rfl), by decide +kernel, by decide +kernel⟩
theorem mi_X10_letter : MI yX10_letter cX10_letter 5 (some .int) 3 := ⟨by decide +kernel, (mw (i := 2503) (by decide +kernel) rfl), (mw (i := 176) (by decide +kernel) rfl), by decide +kernel, by decide +kernel⟩
theorem mi_X10_mayAct : MI yX10_mayAct cX10_mayAct 2 (some .boolean) 1 := ⟨by decide +kernel, (mw (i := 2564) (by decide +kernel) rfl), (mw (i := 176) (by decide +kernel) rfl), by decide +kernel, by decide +kernel⟩
theorem mi_X10_mayCopy : MI yX10_mayCopy cX10_mayCopy 2 (some .boolean) 1 := ⟨by decide +kernel, (mw (i := 2748) (by decide +kernel) rfl), (mw (i := 176) (by decide +kernel) rfl), by decide +kernel, by decide +kernel⟩
theorem mi_X10_mayLeaf : MI yX10_mayLeaf cX10_mayLeaf 2 (some .boolean) 1 := ⟨by decide +kernel, (mw (i := 2608) (by decide +kernel) rfl), (mw (i := 176) (by decide +kernel) rfl), by decide +kernel, by decide +kernel⟩
theorem mi_X10_ofAllActs : MI yX10_ofAllActs cX10_ofAllActs 4 (some .int) 1 := ⟨by decide +kernel, (mw (i := 2444) (by decide +kernel) rfl), (mw (i := 176) (by decide +kernel) rfl), by decide +kernel, by decide +kernel⟩
theorem mi_X10_standingAll : MI yX10_standingAll cX10_standingAll 4 (some .int) 1 := ⟨by decide +kernel, (mw (i := 2448) (by decide +kernel) rfl), (mw (i := 176) (by decide +kernel) rfl), by decide +kernel, by decide +kernel⟩
theorem mi_X10_standingWritten : MI yX10_standingWritten cX10_standingWritten 5 (some .int) 2 := ⟨by decide +kernel, (mw (i := 2515) (by decide +kernel) rfl), (mw (i := 176) (by decide +kernel) rfl), by decide +kernel, by decide +kernel⟩
theorem mi_X10_unknown : MI yX10_unknown cX10_unknown 3 (some .int) 0 := ⟨by decide +kernel, (mw (i := 2456) (by decide +kernel) rfl), (mw (i := 176) (by decide +kernel) rfl), by decide +kernel, by decide +kernel⟩
theorem mi_X10_withStatus : MI yX10_withStatus cX10_withStatus 4 (some .int) 1 := ⟨by decide +kernel, (mw (i := 2440) (by decide +kernel) rfl), (mw (i := 176) (by decide +kernel) rfl), by decide +kernel, by decide +kernel⟩
theorem mi_X10_word : MI yX10_word cX10_word 5 (some .int) 3 := ⟨by decide +kernel, (mw (i := 2481) (by decide +kernel) rfl), (mw (i := 176) (by decide +kernel) rfl), by decide +kernel, by decide +kernel⟩
theorem mi_X10_wordsBy : MI yX10_wordsBy cX10_wordsBy 5 (some .int) 2 := ⟨by decide +kernel, (mw (i := 2548) (by decide +kernel) rfl), (mw (i := 176) (by decide +kernel) rfl), by decide +kernel, by decide +kernel⟩
theorem lk_RX10_380 : LV RX10 380 yX10_mayTwo := ⟨(mw (i := 2433) (by decide +kernel) rfl), (mw (i := 2435) (by decide +kernel) rfl), (mw (i := 111) (by decide +kernel) rfl)⟩
theorem lk_RX10_384 : LV RX10 384 yX10_withStatus := ⟨(mw (i := 2437) (by decide +kernel) rfl), (mw (i := 2439) (by decide +kernel) rfl), (mw (i := 112) (by decide +kernel) rfl)⟩
theorem lk_RX10_387 : LV RX10 387 yX10_ofAllActs := ⟨(mw (i := 2441) (by decide +kernel) rfl), (mw (i := 2443) (by decide +kernel) rfl), (mw (i := 113) (by decide +kernel) rfl)⟩
theorem lk_RX10_390 : LV RX10 390 yX10_standingAll := ⟨(mw (i := 2445) (by decide +kernel) rfl), (mw (i := 2447) (by decide +kernel) rfl), (mw (i := 114) (by decide +kernel) rfl)⟩
theorem lk_RX10_393 : LV RX10 393 yX10_actsWith := ⟨(mw (i := 2449) (by decide +kernel) rfl), (mw (i := 2451) (by decide +kernel) rfl), (mw (i := 115) (by decide +kernel) rfl)⟩
theorem lk_RX10_396 : LV RX10 396 yX10_unknown := ⟨(mw (i := 2453) (by decide +kernel) rfl), (mw (i := 2455) (by decide +kernel) rfl), (mw (i := 116) (by decide +kernel) rfl)⟩
theorem lk_RX10_399 : LV RX10 399 yX10_isAct := ⟨(mw (i := 2461) (by decide +kernel) rfl), (mw (i := 2463) (by decide +kernel) rfl), (mw (i := 117) (by decide +kernel) rfl)⟩
theorem lk_RX10_402 : LV RX10 402 yX10_isLeaf := ⟨(mw (i := 2524) (by decide +kernel) rfl), (mw (i := 2526) (by decide +kernel) rfl), (mw (i := 126) (by decide +kernel) rfl)⟩
theorem lk_RX10_405 : LV RX10 405 yX10_isCopy := ⟨(mw (i := 2541) (by decide +kernel) rfl), (mw (i := 2543) (by decide +kernel) rfl), (mw (i := 129) (by decide +kernel) rfl)⟩
theorem lk_RX10_408 : LV RX10 408 yX10_depthOf := ⟨(mw (i := 2469) (by decide +kernel) rfl), (mw (i := 2471) (by decide +kernel) rfl), (mw (i := 119) (by decide +kernel) rfl)⟩
theorem lk_RX10_416 : LV RX10 416 yX10_deepest := ⟨(mw (i := 2465) (by decide +kernel) rfl), (mw (i := 2467) (by decide +kernel) rfl), (mw (i := 118) (by decide +kernel) rfl)⟩
theorem lk_RX10_419 : LV RX10 419 yX10_copiesOf := ⟨(mw (i := 2474) (by decide +kernel) rfl), (mw (i := 2476) (by decide +kernel) rfl), (mw (i := 120) (by decide +kernel) rfl)⟩
theorem lk_RX10_422 : LV RX10 422 yX10_isWordOf := ⟨(mw (i := 2482) (by decide +kernel) rfl), (mw (i := 2484) (by decide +kernel) rfl), (mw (i := 121) (by decide +kernel) rfl)⟩
theorem lk_RX10_425 : LV RX10 425 yX10_globalOf := ⟨(mw (i := 2486) (by decide +kernel) rfl), (mw (i := 2488) (by decide +kernel) rfl), (mw (i := 122) (by decide +kernel) rfl)⟩
theorem lk_RX10_428 : LSt RX10 428 yX10_lengthOf := ⟨(mw (i := 2490) (by decide +kernel) rfl), (mw (i := 2491) (by decide +kernel) rfl)⟩
theorem lk_RX10_431 : LV RX10 431 yX10_clauseNumber := ⟨(mw (i := 2496) (by decide +kernel) rfl), (mw (i := 2498) (by decide +kernel) rfl), (mw (i := 123) (by decide +kernel) rfl)⟩
theorem lk_RX10_434 : LV RX10 434 yX10_standingWritten := ⟨(mw (i := 2512) (by decide +kernel) rfl), (mw (i := 2514) (by decide +kernel) rfl), (mw (i := 124) (by decide +kernel) rfl)⟩
theorem lk_RX10_437 : LV RX10 437 yX10_clausesIn := ⟨(mw (i := 2516) (by decide +kernel) rfl), (mw (i := 2518) (by decide +kernel) rfl), (mw (i := 125) (by decide +kernel) rfl)⟩
theorem mt_RX10_411 : MTW RX10 411 Lib.Math.max.name Lib.Math.max.code 2 := ⟨(mw (i := 2473) (by decide +kernel) rfl), (mw (i := 864) (by decide +kernel) rfl), (mw (i := 181) (by decide +kernel) rfl), (mw (i := 865) (by decide +kernel) rfl)⟩
theorem dX10_withStatus_0 : decode cX10_withStatus 0 = .ok (.iconst 0, 1) := by decide +kernel
theorem dX10_withStatus_1 : decode cX10_withStatus 1 = .ok (.istore_n 2, 1) := by decide +kernel
theorem dX10_withStatus_2 : decode cX10_withStatus 2 = .ok (.iconst 0, 1) := by decide +kernel
theorem dX10_withStatus_3 : decode cX10_withStatus 3 = .ok (.istore_n 3, 1) := by decide +kernel
theorem dX10_withStatus_4 : decode cX10_withStatus 4 = .ok (.iload_n 3, 1) := by decide +kernel
theorem dX10_withStatus_5 : decode cX10_withStatus 5 = .ok (.aload_n 0, 1) := by decide +kernel
theorem dX10_withStatus_6 : decode cX10_withStatus 6 = .ok (.invokevirtual 231, 3) := by decide +kernel
theorem dX10_withStatus_9 : decode cX10_withStatus 9 = .ok (.if_icmp .ge 29, 3) := by decide +kernel
theorem dX10_withStatus_12 : decode cX10_withStatus 12 = .ok (.iload_n 2, 1) := by decide +kernel
theorem dX10_withStatus_13 : decode cX10_withStatus 13 = .ok (.aload_n 0, 1) := by decide +kernel
theorem dX10_withStatus_14 : decode cX10_withStatus 14 = .ok (.iload_n 3, 1) := by decide +kernel
theorem dX10_withStatus_15 : decode cX10_withStatus 15 = .ok (.invokevirtual 237, 3) := by decide +kernel
theorem dX10_withStatus_18 : decode cX10_withStatus 18 = .ok (.iload_n 1, 1) := by decide +kernel
theorem dX10_withStatus_19 : decode cX10_withStatus 19 = .ok (.if_icmp .ne 7, 3) := by decide +kernel
theorem dX10_withStatus_22 : decode cX10_withStatus 22 = .ok (.iconst 1, 1) := by decide +kernel
theorem dX10_withStatus_23 : decode cX10_withStatus 23 = .ok (.goto 4, 3) := by decide +kernel
theorem dX10_withStatus_26 : decode cX10_withStatus 26 = .ok (.iconst 0, 1) := by decide +kernel
theorem dX10_withStatus_27 : decode cX10_withStatus 27 = .ok (.invokestatic 333, 3) := by decide +kernel
theorem dX10_withStatus_30 : decode cX10_withStatus 30 = .ok (.iadd, 1) := by decide +kernel
theorem dX10_withStatus_31 : decode cX10_withStatus 31 = .ok (.istore_n 2, 1) := by decide +kernel
theorem dX10_withStatus_32 : decode cX10_withStatus 32 = .ok (.iinc 3 1, 3) := by decide +kernel
theorem dX10_withStatus_35 : decode cX10_withStatus 35 = .ok (.goto (-31), 3) := by decide +kernel
theorem dX10_withStatus_38 : decode cX10_withStatus 38 = .ok (.iload_n 2, 1) := by decide +kernel
theorem dX10_withStatus_39 : decode cX10_withStatus 39 = .ok (.ireturn, 1) := by decide +kernel
theorem dX10_unknown_0 : decode cX10_unknown 0 = .ok (.iconst 0, 1) := by decide +kernel
theorem dX10_unknown_1 : decode cX10_unknown 1 = .ok (.istore_n 1, 1) := by decide +kernel
theorem dX10_unknown_2 : decode cX10_unknown 2 = .ok (.iconst 0, 1) := by decide +kernel
theorem dX10_unknown_3 : decode cX10_unknown 3 = .ok (.istore_n 2, 1) := by decide +kernel
theorem dX10_unknown_4 : decode cX10_unknown 4 = .ok (.iload_n 2, 1) := by decide +kernel
theorem dX10_unknown_5 : decode cX10_unknown 5 = .ok (.aload_n 0, 1) := by decide +kernel
theorem dX10_unknown_6 : decode cX10_unknown 6 = .ok (.getfield 9, 3) := by decide +kernel
theorem dX10_unknown_9 : decode cX10_unknown 9 = .ok (.iconst 4, 1) := by decide +kernel
theorem dX10_unknown_10 : decode cX10_unknown 10 = .ok (.iaload, 1) := by decide +kernel
theorem dX10_unknown_11 : decode cX10_unknown 11 = .ok (.if_icmp .ge 28, 3) := by decide +kernel
theorem dX10_unknown_14 : decode cX10_unknown 14 = .ok (.iload_n 1, 1) := by decide +kernel
theorem dX10_unknown_15 : decode cX10_unknown 15 = .ok (.aload_n 0, 1) := by decide +kernel
theorem dX10_unknown_16 : decode cX10_unknown 16 = .ok (.iload_n 2, 1) := by decide +kernel
theorem dX10_unknown_17 : decode cX10_unknown 17 = .ok (.invokevirtual 374, 3) := by decide +kernel
theorem dX10_unknown_20 : decode cX10_unknown 20 = .ok (.ifCond .ne 7, 3) := by decide +kernel
theorem dX10_unknown_23 : decode cX10_unknown 23 = .ok (.iconst 1, 1) := by decide +kernel
theorem dX10_unknown_24 : decode cX10_unknown 24 = .ok (.goto 4, 3) := by decide +kernel
theorem dX10_unknown_27 : decode cX10_unknown 27 = .ok (.iconst 0, 1) := by decide +kernel
theorem dX10_unknown_28 : decode cX10_unknown 28 = .ok (.invokestatic 333, 3) := by decide +kernel
theorem dX10_unknown_31 : decode cX10_unknown 31 = .ok (.iadd, 1) := by decide +kernel
theorem dX10_unknown_32 : decode cX10_unknown 32 = .ok (.istore_n 1, 1) := by decide +kernel
theorem dX10_unknown_33 : decode cX10_unknown 33 = .ok (.iinc 2 1, 3) := by decide +kernel
theorem dX10_unknown_36 : decode cX10_unknown 36 = .ok (.goto (-32), 3) := by decide +kernel
theorem dX10_unknown_39 : decode cX10_unknown 39 = .ok (.iload_n 1, 1) := by decide +kernel
theorem dX10_unknown_40 : decode cX10_unknown 40 = .ok (.ireturn, 1) := by decide +kernel
theorem dX10_wordsBy_0 : decode cX10_wordsBy 0 = .ok (.iconst 0, 1) := by decide +kernel
theorem dX10_wordsBy_1 : decode cX10_wordsBy 1 = .ok (.istore_n 3, 1) := by decide +kernel
theorem dX10_wordsBy_2 : decode cX10_wordsBy 2 = .ok (.aload_n 0, 1) := by decide +kernel
theorem dX10_wordsBy_3 : decode cX10_wordsBy 3 = .ok (.iload_n 1, 1) := by decide +kernel
theorem dX10_wordsBy_4 : decode cX10_wordsBy 4 = .ok (.iconst 5, 1) := by decide +kernel
theorem dX10_wordsBy_5 : decode cX10_wordsBy 5 = .ok (.invokevirtual 138, 3) := by decide +kernel
theorem dX10_wordsBy_8 : decode cX10_wordsBy 8 = .ok (.istore 4, 2) := by decide +kernel
theorem dX10_wordsBy_10 : decode cX10_wordsBy 10 = .ok (.iload 4, 2) := by decide +kernel
theorem dX10_wordsBy_12 : decode cX10_wordsBy 12 = .ok (.aload_n 0, 1) := by decide +kernel
theorem dX10_wordsBy_13 : decode cX10_wordsBy 13 = .ok (.iload_n 1, 1) := by decide +kernel
theorem dX10_wordsBy_14 : decode cX10_wordsBy 14 = .ok (.invokevirtual 327, 3) := by decide +kernel
theorem dX10_wordsBy_17 : decode cX10_wordsBy 17 = .ok (.if_icmp .gt 39, 3) := by decide +kernel
theorem dX10_wordsBy_20 : decode cX10_wordsBy 20 = .ok (.iload_n 3, 1) := by decide +kernel
theorem dX10_wordsBy_21 : decode cX10_wordsBy 21 = .ok (.aload_n 0, 1) := by decide +kernel
theorem dX10_wordsBy_22 : decode cX10_wordsBy 22 = .ok (.iload_n 1, 1) := by decide +kernel
theorem dX10_wordsBy_23 : decode cX10_wordsBy 23 = .ok (.iload_n 2, 1) := by decide +kernel
theorem dX10_wordsBy_24 : decode cX10_wordsBy 24 = .ok (.iload 4, 2) := by decide +kernel
theorem dX10_wordsBy_26 : decode cX10_wordsBy 26 = .ok (.invokevirtual 361, 3) := by decide +kernel
theorem dX10_wordsBy_29 : decode cX10_wordsBy 29 = .ok (.invokestatic 333, 3) := by decide +kernel
theorem dX10_wordsBy_32 : decode cX10_wordsBy 32 = .ok (.iload_n 2, 1) := by decide +kernel
theorem dX10_wordsBy_33 : decode cX10_wordsBy 33 = .ok (.ifCond .ne 13, 3) := by decide +kernel
theorem dX10_wordsBy_36 : decode cX10_wordsBy 36 = .ok (.aload_n 0, 1) := by decide +kernel
theorem dX10_wordsBy_37 : decode cX10_wordsBy 37 = .ok (.iload 4, 2) := by decide +kernel
theorem dX10_wordsBy_39 : decode cX10_wordsBy 39 = .ok (.iconst 4, 1) := by decide +kernel
theorem dX10_wordsBy_40 : decode cX10_wordsBy 40 = .ok (.invokevirtual 209, 3) := by decide +kernel
theorem dX10_wordsBy_43 : decode cX10_wordsBy 43 = .ok (.goto 4, 3) := by decide +kernel
theorem dX10_wordsBy_46 : decode cX10_wordsBy 46 = .ok (.iconst 0, 1) := by decide +kernel
theorem dX10_wordsBy_47 : decode cX10_wordsBy 47 = .ok (.iadd, 1) := by decide +kernel
theorem dX10_wordsBy_48 : decode cX10_wordsBy 48 = .ok (.iadd, 1) := by decide +kernel
theorem dX10_wordsBy_49 : decode cX10_wordsBy 49 = .ok (.istore_n 3, 1) := by decide +kernel
theorem dX10_wordsBy_50 : decode cX10_wordsBy 50 = .ok (.iinc 4 1, 3) := by decide +kernel
theorem dX10_wordsBy_53 : decode cX10_wordsBy 53 = .ok (.goto (-43), 3) := by decide +kernel
theorem dX10_wordsBy_56 : decode cX10_wordsBy 56 = .ok (.iload_n 3, 1) := by decide +kernel
theorem dX10_wordsBy_57 : decode cX10_wordsBy 57 = .ok (.ireturn, 1) := by decide +kernel
theorem dX10_ofAllActs_0 : decode cX10_ofAllActs 0 = .ok (.iconst 0, 1) := by decide +kernel
theorem dX10_ofAllActs_1 : decode cX10_ofAllActs 1 = .ok (.istore_n 2, 1) := by decide +kernel
theorem dX10_ofAllActs_2 : decode cX10_ofAllActs 2 = .ok (.iconst 0, 1) := by decide +kernel
theorem dX10_ofAllActs_3 : decode cX10_ofAllActs 3 = .ok (.istore_n 3, 1) := by decide +kernel
theorem dX10_ofAllActs_4 : decode cX10_ofAllActs 4 = .ok (.iload_n 3, 1) := by decide +kernel
theorem dX10_ofAllActs_5 : decode cX10_ofAllActs 5 = .ok (.aload_n 0, 1) := by decide +kernel
theorem dX10_ofAllActs_6 : decode cX10_ofAllActs 6 = .ok (.getfield 9, 3) := by decide +kernel
theorem dX10_ofAllActs_9 : decode cX10_ofAllActs 9 = .ok (.iconst 3, 1) := by decide +kernel
theorem dX10_ofAllActs_10 : decode cX10_ofAllActs 10 = .ok (.iaload, 1) := by decide +kernel
theorem dX10_ofAllActs_11 : decode cX10_ofAllActs 11 = .ok (.if_icmp .ge 18, 3) := by decide +kernel
theorem dX10_ofAllActs_14 : decode cX10_ofAllActs 14 = .ok (.iload_n 2, 1) := by decide +kernel
theorem dX10_ofAllActs_15 : decode cX10_ofAllActs 15 = .ok (.aload_n 0, 1) := by decide +kernel
theorem dX10_ofAllActs_16 : decode cX10_ofAllActs 16 = .ok (.iload_n 3, 1) := by decide +kernel
theorem dX10_ofAllActs_17 : decode cX10_ofAllActs 17 = .ok (.iload_n 1, 1) := by decide +kernel
theorem dX10_ofAllActs_18 : decode cX10_ofAllActs 18 = .ok (.invokevirtual 138, 3) := by decide +kernel
theorem dX10_ofAllActs_21 : decode cX10_ofAllActs 21 = .ok (.iadd, 1) := by decide +kernel
theorem dX10_ofAllActs_22 : decode cX10_ofAllActs 22 = .ok (.istore_n 2, 1) := by decide +kernel
theorem dX10_ofAllActs_23 : decode cX10_ofAllActs 23 = .ok (.iinc 3 1, 3) := by decide +kernel
theorem dX10_ofAllActs_26 : decode cX10_ofAllActs 26 = .ok (.goto (-22), 3) := by decide +kernel
theorem dX10_ofAllActs_29 : decode cX10_ofAllActs 29 = .ok (.iload_n 2, 1) := by decide +kernel
theorem dX10_ofAllActs_30 : decode cX10_ofAllActs 30 = .ok (.ireturn, 1) := by decide +kernel
theorem dX10_standingAll_0 : decode cX10_standingAll 0 = .ok (.iconst 0, 1) := by decide +kernel
theorem dX10_standingAll_1 : decode cX10_standingAll 1 = .ok (.istore_n 2, 1) := by decide +kernel
theorem dX10_standingAll_2 : decode cX10_standingAll 2 = .ok (.iconst 0, 1) := by decide +kernel
theorem dX10_standingAll_3 : decode cX10_standingAll 3 = .ok (.istore_n 3, 1) := by decide +kernel
theorem dX10_standingAll_4 : decode cX10_standingAll 4 = .ok (.iload_n 3, 1) := by decide +kernel
theorem dX10_standingAll_5 : decode cX10_standingAll 5 = .ok (.aload_n 0, 1) := by decide +kernel
theorem dX10_standingAll_6 : decode cX10_standingAll 6 = .ok (.getfield 9, 3) := by decide +kernel
theorem dX10_standingAll_9 : decode cX10_standingAll 9 = .ok (.iconst 3, 1) := by decide +kernel
theorem dX10_standingAll_10 : decode cX10_standingAll 10 = .ok (.iaload, 1) := by decide +kernel
theorem dX10_standingAll_11 : decode cX10_standingAll 11 = .ok (.if_icmp .ge 35, 3) := by decide +kernel
theorem dX10_standingAll_14 : decode cX10_standingAll 14 = .ok (.iload_n 2, 1) := by decide +kernel
theorem dX10_standingAll_15 : decode cX10_standingAll 15 = .ok (.iload_n 1, 1) := by decide +kernel
theorem dX10_standingAll_16 : decode cX10_standingAll 16 = .ok (.ifCond .eq 13, 3) := by decide +kernel
theorem dX10_standingAll_19 : decode cX10_standingAll 19 = .ok (.aload_n 0, 1) := by decide +kernel
theorem dX10_standingAll_20 : decode cX10_standingAll 20 = .ok (.iload_n 3, 1) := by decide +kernel
theorem dX10_standingAll_21 : decode cX10_standingAll 21 = .ok (.iconst 1, 1) := by decide +kernel
theorem dX10_standingAll_22 : decode cX10_standingAll 22 = .ok (.invokevirtual 138, 3) := by decide +kernel
theorem dX10_standingAll_25 : decode cX10_standingAll 25 = .ok (.iconst 1, 1) := by decide +kernel
theorem dX10_standingAll_26 : decode cX10_standingAll 26 = .ok (.if_icmp .ne 11, 3) := by decide +kernel
theorem dX10_standingAll_29 : decode cX10_standingAll 29 = .ok (.aload_n 0, 1) := by decide +kernel
theorem dX10_standingAll_30 : decode cX10_standingAll 30 = .ok (.iload_n 3, 1) := by decide +kernel
theorem dX10_standingAll_31 : decode cX10_standingAll 31 = .ok (.invokevirtual 343, 3) := by decide +kernel
theorem dX10_standingAll_34 : decode cX10_standingAll 34 = .ok (.goto 4, 3) := by decide +kernel
theorem dX10_standingAll_37 : decode cX10_standingAll 37 = .ok (.iconst 0, 1) := by decide +kernel
theorem dX10_standingAll_38 : decode cX10_standingAll 38 = .ok (.iadd, 1) := by decide +kernel
theorem dX10_standingAll_39 : decode cX10_standingAll 39 = .ok (.istore_n 2, 1) := by decide +kernel
theorem dX10_standingAll_40 : decode cX10_standingAll 40 = .ok (.iinc 3 1, 3) := by decide +kernel
theorem dX10_standingAll_43 : decode cX10_standingAll 43 = .ok (.goto (-39), 3) := by decide +kernel
theorem dX10_standingAll_46 : decode cX10_standingAll 46 = .ok (.iload_n 2, 1) := by decide +kernel
theorem dX10_standingAll_47 : decode cX10_standingAll 47 = .ok (.ireturn, 1) := by decide +kernel
theorem dX10_actsWith_0 : decode cX10_actsWith 0 = .ok (.iconst 0, 1) := by decide +kernel
theorem dX10_actsWith_1 : decode cX10_actsWith 1 = .ok (.istore_n 2, 1) := by decide +kernel
theorem dX10_actsWith_2 : decode cX10_actsWith 2 = .ok (.iconst 0, 1) := by decide +kernel
theorem dX10_actsWith_3 : decode cX10_actsWith 3 = .ok (.istore_n 3, 1) := by decide +kernel
theorem dX10_actsWith_4 : decode cX10_actsWith 4 = .ok (.iload_n 3, 1) := by decide +kernel
theorem dX10_actsWith_5 : decode cX10_actsWith 5 = .ok (.aload_n 0, 1) := by decide +kernel
theorem dX10_actsWith_6 : decode cX10_actsWith 6 = .ok (.getfield 9, 3) := by decide +kernel
theorem dX10_actsWith_9 : decode cX10_actsWith 9 = .ok (.iconst 3, 1) := by decide +kernel
theorem dX10_actsWith_10 : decode cX10_actsWith 10 = .ok (.iaload, 1) := by decide +kernel
theorem dX10_actsWith_11 : decode cX10_actsWith 11 = .ok (.if_icmp .ge 30, 3) := by decide +kernel
theorem dX10_actsWith_14 : decode cX10_actsWith 14 = .ok (.iload_n 2, 1) := by decide +kernel
theorem dX10_actsWith_15 : decode cX10_actsWith 15 = .ok (.aload_n 0, 1) := by decide +kernel
theorem dX10_actsWith_16 : decode cX10_actsWith 16 = .ok (.iload_n 3, 1) := by decide +kernel
theorem dX10_actsWith_17 : decode cX10_actsWith 17 = .ok (.iconst 1, 1) := by decide +kernel
theorem dX10_actsWith_18 : decode cX10_actsWith 18 = .ok (.invokevirtual 138, 3) := by decide +kernel
theorem dX10_actsWith_21 : decode cX10_actsWith 21 = .ok (.iload_n 1, 1) := by decide +kernel
theorem dX10_actsWith_22 : decode cX10_actsWith 22 = .ok (.if_icmp .ne 7, 3) := by decide +kernel
theorem dX10_actsWith_25 : decode cX10_actsWith 25 = .ok (.iconst 1, 1) := by decide +kernel
theorem dX10_actsWith_26 : decode cX10_actsWith 26 = .ok (.goto 4, 3) := by decide +kernel
theorem dX10_actsWith_29 : decode cX10_actsWith 29 = .ok (.iconst 0, 1) := by decide +kernel
theorem dX10_actsWith_30 : decode cX10_actsWith 30 = .ok (.invokestatic 333, 3) := by decide +kernel
theorem dX10_actsWith_33 : decode cX10_actsWith 33 = .ok (.iadd, 1) := by decide +kernel
theorem dX10_actsWith_34 : decode cX10_actsWith 34 = .ok (.istore_n 2, 1) := by decide +kernel
theorem dX10_actsWith_35 : decode cX10_actsWith 35 = .ok (.iinc 3 1, 3) := by decide +kernel
theorem dX10_actsWith_38 : decode cX10_actsWith 38 = .ok (.goto (-34), 3) := by decide +kernel
theorem dX10_actsWith_41 : decode cX10_actsWith 41 = .ok (.iload_n 2, 1) := by decide +kernel
theorem dX10_actsWith_42 : decode cX10_actsWith 42 = .ok (.ireturn, 1) := by decide +kernel
theorem dX10_count_0 : decode cX10_count 0 = .ok (.aload_n 0, 1) := by decide +kernel
theorem dX10_count_1 : decode cX10_count 1 = .ok (.aload_n 0, 1) := by decide +kernel
theorem dX10_count_2 : decode cX10_count 2 = .ok (.getfield 48, 3) := by decide +kernel
theorem dX10_count_5 : decode cX10_count 5 = .ok (.iload_n 1, 1) := by decide +kernel
theorem dX10_count_6 : decode cX10_count 6 = .ok (.iconst 0, 1) := by decide +kernel
theorem dX10_count_7 : decode cX10_count 7 = .ok (.bipush 15, 2) := by decide +kernel
theorem dX10_count_9 : decode cX10_count 9 = .ok (.invokestatic 69, 3) := by decide +kernel
theorem dX10_count_12 : decode cX10_count 12 = .ok (.invokevirtual 380, 3) := by decide +kernel
theorem dX10_count_15 : decode cX10_count 15 = .ok (.ifCond .ne 5, 3) := by decide +kernel
theorem dX10_count_18 : decode cX10_count 18 = .ok (.iconst 0, 1) := by decide +kernel
theorem dX10_count_19 : decode cX10_count 19 = .ok (.ireturn, 1) := by decide +kernel
theorem dX10_count_20 : decode cX10_count 20 = .ok (.iload_n 1, 1) := by decide +kernel
theorem dX10_count_21 : decode cX10_count 21 = .ok (.tableswitch 174 0 14 #[75, 82, 89, 96, 103, 110, 115, 121, 127, 135, 143, 149, 155, 161, 167], 75) := by decide +kernel
theorem dX10_count_96 : decode cX10_count 96 = .ok (.aload_n 0, 1) := by decide +kernel
theorem dX10_count_97 : decode cX10_count 97 = .ok (.getfield 9, 3) := by decide +kernel
theorem dX10_count_100 : decode cX10_count 100 = .ok (.iconst 0, 1) := by decide +kernel
theorem dX10_count_101 : decode cX10_count 101 = .ok (.iaload, 1) := by decide +kernel
theorem dX10_count_102 : decode cX10_count 102 = .ok (.ireturn, 1) := by decide +kernel
theorem dX10_count_103 : decode cX10_count 103 = .ok (.aload_n 0, 1) := by decide +kernel
theorem dX10_count_104 : decode cX10_count 104 = .ok (.getfield 9, 3) := by decide +kernel
theorem dX10_count_107 : decode cX10_count 107 = .ok (.iconst 1, 1) := by decide +kernel
theorem dX10_count_108 : decode cX10_count 108 = .ok (.iaload, 1) := by decide +kernel
theorem dX10_count_109 : decode cX10_count 109 = .ok (.ireturn, 1) := by decide +kernel
theorem dX10_count_110 : decode cX10_count 110 = .ok (.aload_n 0, 1) := by decide +kernel
theorem dX10_count_111 : decode cX10_count 111 = .ok (.getfield 9, 3) := by decide +kernel
theorem dX10_count_114 : decode cX10_count 114 = .ok (.iconst 2, 1) := by decide +kernel
theorem dX10_count_115 : decode cX10_count 115 = .ok (.iaload, 1) := by decide +kernel
theorem dX10_count_116 : decode cX10_count 116 = .ok (.ireturn, 1) := by decide +kernel
theorem dX10_count_117 : decode cX10_count 117 = .ok (.aload_n 0, 1) := by decide +kernel
theorem dX10_count_118 : decode cX10_count 118 = .ok (.getfield 9, 3) := by decide +kernel
theorem dX10_count_121 : decode cX10_count 121 = .ok (.iconst 3, 1) := by decide +kernel
theorem dX10_count_122 : decode cX10_count 122 = .ok (.iaload, 1) := by decide +kernel
theorem dX10_count_123 : decode cX10_count 123 = .ok (.ireturn, 1) := by decide +kernel
theorem dX10_count_124 : decode cX10_count 124 = .ok (.aload_n 0, 1) := by decide +kernel
theorem dX10_count_125 : decode cX10_count 125 = .ok (.getfield 9, 3) := by decide +kernel
theorem dX10_count_128 : decode cX10_count 128 = .ok (.iconst 4, 1) := by decide +kernel
theorem dX10_count_129 : decode cX10_count 129 = .ok (.iaload, 1) := by decide +kernel
theorem dX10_count_130 : decode cX10_count 130 = .ok (.ireturn, 1) := by decide +kernel
theorem dX10_count_131 : decode cX10_count 131 = .ok (.aload_n 0, 1) := by decide +kernel
theorem dX10_count_132 : decode cX10_count 132 = .ok (.invokevirtual 231, 3) := by decide +kernel
theorem dX10_count_135 : decode cX10_count 135 = .ok (.ireturn, 1) := by decide +kernel
theorem dX10_count_136 : decode cX10_count 136 = .ok (.aload_n 0, 1) := by decide +kernel
theorem dX10_count_137 : decode cX10_count 137 = .ok (.iconst 2, 1) := by decide +kernel
theorem dX10_count_138 : decode cX10_count 138 = .ok (.invokevirtual 384, 3) := by decide +kernel
theorem dX10_count_141 : decode cX10_count 141 = .ok (.ireturn, 1) := by decide +kernel
theorem dX10_count_142 : decode cX10_count 142 = .ok (.aload_n 0, 1) := by decide +kernel
theorem dX10_count_143 : decode cX10_count 143 = .ok (.iconst 1, 1) := by decide +kernel
theorem dX10_count_144 : decode cX10_count 144 = .ok (.invokevirtual 384, 3) := by decide +kernel
theorem dX10_count_147 : decode cX10_count 147 = .ok (.ireturn, 1) := by decide +kernel
theorem dX10_count_148 : decode cX10_count 148 = .ok (.aload_n 0, 1) := by decide +kernel
theorem dX10_count_149 : decode cX10_count 149 = .ok (.getfield 9, 3) := by decide +kernel
theorem dX10_count_152 : decode cX10_count 152 = .ok (.bipush 6, 2) := by decide +kernel
theorem dX10_count_154 : decode cX10_count 154 = .ok (.iaload, 1) := by decide +kernel
theorem dX10_count_155 : decode cX10_count 155 = .ok (.ireturn, 1) := by decide +kernel
theorem dX10_count_156 : decode cX10_count 156 = .ok (.aload_n 0, 1) := by decide +kernel
theorem dX10_count_157 : decode cX10_count 157 = .ok (.getfield 9, 3) := by decide +kernel
theorem dX10_count_160 : decode cX10_count 160 = .ok (.bipush 7, 2) := by decide +kernel
theorem dX10_count_162 : decode cX10_count 162 = .ok (.iaload, 1) := by decide +kernel
theorem dX10_count_163 : decode cX10_count 163 = .ok (.ireturn, 1) := by decide +kernel
theorem dX10_count_164 : decode cX10_count 164 = .ok (.aload_n 0, 1) := by decide +kernel
theorem dX10_count_165 : decode cX10_count 165 = .ok (.iconst 3, 1) := by decide +kernel
theorem dX10_count_166 : decode cX10_count 166 = .ok (.invokevirtual 387, 3) := by decide +kernel
theorem dX10_count_169 : decode cX10_count 169 = .ok (.ireturn, 1) := by decide +kernel
theorem dX10_count_170 : decode cX10_count 170 = .ok (.aload_n 0, 1) := by decide +kernel
theorem dX10_count_171 : decode cX10_count 171 = .ok (.iconst 0, 1) := by decide +kernel
theorem dX10_count_172 : decode cX10_count 172 = .ok (.invokevirtual 390, 3) := by decide +kernel
theorem dX10_count_175 : decode cX10_count 175 = .ok (.ireturn, 1) := by decide +kernel
theorem dX10_count_176 : decode cX10_count 176 = .ok (.aload_n 0, 1) := by decide +kernel
theorem dX10_count_177 : decode cX10_count 177 = .ok (.iconst 1, 1) := by decide +kernel
theorem dX10_count_178 : decode cX10_count 178 = .ok (.invokevirtual 393, 3) := by decide +kernel
theorem dX10_count_181 : decode cX10_count 181 = .ok (.ireturn, 1) := by decide +kernel
theorem dX10_count_182 : decode cX10_count 182 = .ok (.aload_n 0, 1) := by decide +kernel
theorem dX10_count_183 : decode cX10_count 183 = .ok (.iconst 2, 1) := by decide +kernel
theorem dX10_count_184 : decode cX10_count 184 = .ok (.invokevirtual 393, 3) := by decide +kernel
theorem dX10_count_187 : decode cX10_count 187 = .ok (.ireturn, 1) := by decide +kernel
theorem dX10_count_188 : decode cX10_count 188 = .ok (.aload_n 0, 1) := by decide +kernel
theorem dX10_count_189 : decode cX10_count 189 = .ok (.invokevirtual 179, 3) := by decide +kernel
theorem dX10_count_192 : decode cX10_count 192 = .ok (.iconst 1, 1) := by decide +kernel
theorem dX10_count_193 : decode cX10_count 193 = .ok (.iadd, 1) := by decide +kernel
theorem dX10_count_194 : decode cX10_count 194 = .ok (.ireturn, 1) := by decide +kernel
theorem dX10_count_195 : decode cX10_count 195 = .ok (.aload_n 0, 1) := by decide +kernel
theorem dX10_count_196 : decode cX10_count 196 = .ok (.invokevirtual 396, 3) := by decide +kernel
theorem dX10_count_199 : decode cX10_count 199 = .ok (.ireturn, 1) := by decide +kernel
theorem dX10_isAct_0 : decode cX10_isAct 0 = .ok (.aload_n 0, 1) := by decide +kernel
theorem dX10_isAct_1 : decode cX10_isAct 1 = .ok (.getfield 48, 3) := by decide +kernel
theorem dX10_isAct_4 : decode cX10_isAct 4 = .ok (.ifCond .eq 21, 3) := by decide +kernel
theorem dX10_isAct_7 : decode cX10_isAct 7 = .ok (.iload_n 1, 1) := by decide +kernel
theorem dX10_isAct_8 : decode cX10_isAct 8 = .ok (.iconst 1, 1) := by decide +kernel
theorem dX10_isAct_9 : decode cX10_isAct 9 = .ok (.aload_n 0, 1) := by decide +kernel
theorem dX10_isAct_10 : decode cX10_isAct 10 = .ok (.getfield 9, 3) := by decide +kernel
theorem dX10_isAct_13 : decode cX10_isAct 13 = .ok (.iconst 3, 1) := by decide +kernel
theorem dX10_isAct_14 : decode cX10_isAct 14 = .ok (.iaload, 1) := by decide +kernel
theorem dX10_isAct_15 : decode cX10_isAct 15 = .ok (.invokestatic 69, 3) := by decide +kernel
theorem dX10_isAct_18 : decode cX10_isAct 18 = .ok (.ifCond .eq 7, 3) := by decide +kernel
theorem dX10_isAct_21 : decode cX10_isAct 21 = .ok (.iconst 1, 1) := by decide +kernel
theorem dX10_isAct_22 : decode cX10_isAct 22 = .ok (.goto 4, 3) := by decide +kernel
theorem dX10_isAct_25 : decode cX10_isAct 25 = .ok (.iconst 0, 1) := by decide +kernel
theorem dX10_isAct_26 : decode cX10_isAct 26 = .ok (.ireturn, 1) := by decide +kernel
theorem dX10_isWordOf_0 : decode cX10_isWordOf 0 = .ok (.aload_n 0, 1) := by decide +kernel
theorem dX10_isWordOf_1 : decode cX10_isWordOf 1 = .ok (.iload_n 1, 1) := by decide +kernel
theorem dX10_isWordOf_2 : decode cX10_isWordOf 2 = .ok (.invokevirtual 399, 3) := by decide +kernel
theorem dX10_isWordOf_5 : decode cX10_isWordOf 5 = .ok (.ifCond .eq 26, 3) := by decide +kernel
theorem dX10_isWordOf_8 : decode cX10_isWordOf 8 = .ok (.iload_n 2, 1) := by decide +kernel
theorem dX10_isWordOf_9 : decode cX10_isWordOf 9 = .ok (.iconst 0, 1) := by decide +kernel
theorem dX10_isWordOf_10 : decode cX10_isWordOf 10 = .ok (.aload_n 0, 1) := by decide +kernel
theorem dX10_isWordOf_11 : decode cX10_isWordOf 11 = .ok (.iload_n 1, 1) := by decide +kernel
theorem dX10_isWordOf_12 : decode cX10_isWordOf 12 = .ok (.iconst 1, 1) := by decide +kernel
theorem dX10_isWordOf_13 : decode cX10_isWordOf 13 = .ok (.isub, 1) := by decide +kernel
theorem dX10_isWordOf_14 : decode cX10_isWordOf 14 = .ok (.bipush 6, 2) := by decide +kernel
theorem dX10_isWordOf_16 : decode cX10_isWordOf 16 = .ok (.invokevirtual 138, 3) := by decide +kernel
theorem dX10_isWordOf_19 : decode cX10_isWordOf 19 = .ok (.iconst 1, 1) := by decide +kernel
theorem dX10_isWordOf_20 : decode cX10_isWordOf 20 = .ok (.isub, 1) := by decide +kernel
theorem dX10_isWordOf_21 : decode cX10_isWordOf 21 = .ok (.invokestatic 69, 3) := by decide +kernel
theorem dX10_isWordOf_24 : decode cX10_isWordOf 24 = .ok (.ifCond .eq 7, 3) := by decide +kernel
theorem dX10_isWordOf_27 : decode cX10_isWordOf 27 = .ok (.iconst 1, 1) := by decide +kernel
theorem dX10_isWordOf_28 : decode cX10_isWordOf 28 = .ok (.goto 4, 3) := by decide +kernel
theorem dX10_isWordOf_31 : decode cX10_isWordOf 31 = .ok (.iconst 0, 1) := by decide +kernel
theorem dX10_isWordOf_32 : decode cX10_isWordOf 32 = .ok (.ireturn, 1) := by decide +kernel
theorem dX10_isLeaf_0 : decode cX10_isLeaf 0 = .ok (.aload_n 0, 1) := by decide +kernel
theorem dX10_isLeaf_1 : decode cX10_isLeaf 1 = .ok (.getfield 48, 3) := by decide +kernel
theorem dX10_isLeaf_4 : decode cX10_isLeaf 4 = .ok (.ifCond .eq 21, 3) := by decide +kernel
theorem dX10_isLeaf_7 : decode cX10_isLeaf 7 = .ok (.iload_n 1, 1) := by decide +kernel
theorem dX10_isLeaf_8 : decode cX10_isLeaf 8 = .ok (.iconst 0, 1) := by decide +kernel
theorem dX10_isLeaf_9 : decode cX10_isLeaf 9 = .ok (.aload_n 0, 1) := by decide +kernel
theorem dX10_isLeaf_10 : decode cX10_isLeaf 10 = .ok (.invokevirtual 231, 3) := by decide +kernel
theorem dX10_isLeaf_13 : decode cX10_isLeaf 13 = .ok (.iconst 1, 1) := by decide +kernel
theorem dX10_isLeaf_14 : decode cX10_isLeaf 14 = .ok (.isub, 1) := by decide +kernel
theorem dX10_isLeaf_15 : decode cX10_isLeaf 15 = .ok (.invokestatic 69, 3) := by decide +kernel
theorem dX10_isLeaf_18 : decode cX10_isLeaf 18 = .ok (.ifCond .eq 7, 3) := by decide +kernel
theorem dX10_isLeaf_21 : decode cX10_isLeaf 21 = .ok (.iconst 1, 1) := by decide +kernel
theorem dX10_isLeaf_22 : decode cX10_isLeaf 22 = .ok (.goto 4, 3) := by decide +kernel
theorem dX10_isLeaf_25 : decode cX10_isLeaf 25 = .ok (.iconst 0, 1) := by decide +kernel
theorem dX10_isLeaf_26 : decode cX10_isLeaf 26 = .ok (.ireturn, 1) := by decide +kernel
theorem dX10_isCopy_0 : decode cX10_isCopy 0 = .ok (.aload_n 0, 1) := by decide +kernel
theorem dX10_isCopy_1 : decode cX10_isCopy 1 = .ok (.getfield 48, 3) := by decide +kernel
theorem dX10_isCopy_4 : decode cX10_isCopy 4 = .ok (.ifCond .eq 24, 3) := by decide +kernel
theorem dX10_isCopy_7 : decode cX10_isCopy 7 = .ok (.iload_n 1, 1) := by decide +kernel
theorem dX10_isCopy_8 : decode cX10_isCopy 8 = .ok (.iconst 0, 1) := by decide +kernel
theorem dX10_isCopy_9 : decode cX10_isCopy 9 = .ok (.aload_n 0, 1) := by decide +kernel
theorem dX10_isCopy_10 : decode cX10_isCopy 10 = .ok (.getfield 9, 3) := by decide +kernel
theorem dX10_isCopy_13 : decode cX10_isCopy 13 = .ok (.bipush 6, 2) := by decide +kernel
theorem dX10_isCopy_15 : decode cX10_isCopy 15 = .ok (.iaload, 1) := by decide +kernel
theorem dX10_isCopy_16 : decode cX10_isCopy 16 = .ok (.iconst 1, 1) := by decide +kernel
theorem dX10_isCopy_17 : decode cX10_isCopy 17 = .ok (.isub, 1) := by decide +kernel
theorem dX10_isCopy_18 : decode cX10_isCopy 18 = .ok (.invokestatic 69, 3) := by decide +kernel
theorem dX10_isCopy_21 : decode cX10_isCopy 21 = .ok (.ifCond .eq 7, 3) := by decide +kernel
theorem dX10_isCopy_24 : decode cX10_isCopy 24 = .ok (.iconst 1, 1) := by decide +kernel
theorem dX10_isCopy_25 : decode cX10_isCopy 25 = .ok (.goto 4, 3) := by decide +kernel
theorem dX10_isCopy_28 : decode cX10_isCopy 28 = .ok (.iconst 0, 1) := by decide +kernel
theorem dX10_isCopy_29 : decode cX10_isCopy 29 = .ok (.ireturn, 1) := by decide +kernel
theorem dX10_isGrade_0 : decode cX10_isGrade 0 = .ok (.iload_n 0, 1) := by decide +kernel
theorem dX10_isGrade_1 : decode cX10_isGrade 1 = .ok (.iconst 0, 1) := by decide +kernel
theorem dX10_isGrade_2 : decode cX10_isGrade 2 = .ok (.iconst 2, 1) := by decide +kernel
theorem dX10_isGrade_3 : decode cX10_isGrade 3 = .ok (.invokestatic 69, 3) := by decide +kernel
theorem dX10_isGrade_6 : decode cX10_isGrade 6 = .ok (.ireturn, 1) := by decide +kernel
theorem dX10_mayAct_0 : decode cX10_mayAct 0 = .ok (.aload_n 0, 1) := by decide +kernel
theorem dX10_mayAct_1 : decode cX10_mayAct 1 = .ok (.aload_n 0, 1) := by decide +kernel
theorem dX10_mayAct_2 : decode cX10_mayAct 2 = .ok (.getfield 48, 3) := by decide +kernel
theorem dX10_mayAct_5 : decode cX10_mayAct 5 = .ok (.aload_n 0, 1) := by decide +kernel
theorem dX10_mayAct_6 : decode cX10_mayAct 6 = .ok (.iload_n 1, 1) := by decide +kernel
theorem dX10_mayAct_7 : decode cX10_mayAct 7 = .ok (.invokevirtual 399, 3) := by decide +kernel
theorem dX10_mayAct_10 : decode cX10_mayAct 10 = .ok (.invokevirtual 380, 3) := by decide +kernel
theorem dX10_mayAct_13 : decode cX10_mayAct 13 = .ok (.ireturn, 1) := by decide +kernel
theorem dX10_mayLeaf_0 : decode cX10_mayLeaf 0 = .ok (.aload_n 0, 1) := by decide +kernel
theorem dX10_mayLeaf_1 : decode cX10_mayLeaf 1 = .ok (.aload_n 0, 1) := by decide +kernel
theorem dX10_mayLeaf_2 : decode cX10_mayLeaf 2 = .ok (.getfield 48, 3) := by decide +kernel
theorem dX10_mayLeaf_5 : decode cX10_mayLeaf 5 = .ok (.aload_n 0, 1) := by decide +kernel
theorem dX10_mayLeaf_6 : decode cX10_mayLeaf 6 = .ok (.iload_n 1, 1) := by decide +kernel
theorem dX10_mayLeaf_7 : decode cX10_mayLeaf 7 = .ok (.invokevirtual 402, 3) := by decide +kernel
theorem dX10_mayLeaf_10 : decode cX10_mayLeaf 10 = .ok (.invokevirtual 380, 3) := by decide +kernel
theorem dX10_mayLeaf_13 : decode cX10_mayLeaf 13 = .ok (.ireturn, 1) := by decide +kernel
theorem dX10_mayCopy_0 : decode cX10_mayCopy 0 = .ok (.aload_n 0, 1) := by decide +kernel
theorem dX10_mayCopy_1 : decode cX10_mayCopy 1 = .ok (.aload_n 0, 1) := by decide +kernel
theorem dX10_mayCopy_2 : decode cX10_mayCopy 2 = .ok (.getfield 48, 3) := by decide +kernel
theorem dX10_mayCopy_5 : decode cX10_mayCopy 5 = .ok (.aload_n 0, 1) := by decide +kernel
theorem dX10_mayCopy_6 : decode cX10_mayCopy 6 = .ok (.iload_n 1, 1) := by decide +kernel
theorem dX10_mayCopy_7 : decode cX10_mayCopy 7 = .ok (.invokevirtual 405, 3) := by decide +kernel
theorem dX10_mayCopy_10 : decode cX10_mayCopy 10 = .ok (.invokevirtual 380, 3) := by decide +kernel
theorem dX10_mayCopy_13 : decode cX10_mayCopy 13 = .ok (.ireturn, 1) := by decide +kernel
theorem dX10_globalOf_0 : decode cX10_globalOf 0 = .ok (.aload_n 0, 1) := by decide +kernel
theorem dX10_globalOf_1 : decode cX10_globalOf 1 = .ok (.iload_n 1, 1) := by decide +kernel
theorem dX10_globalOf_2 : decode cX10_globalOf 2 = .ok (.iconst 1, 1) := by decide +kernel
theorem dX10_globalOf_3 : decode cX10_globalOf 3 = .ok (.isub, 1) := by decide +kernel
theorem dX10_globalOf_4 : decode cX10_globalOf 4 = .ok (.iconst 5, 1) := by decide +kernel
theorem dX10_globalOf_5 : decode cX10_globalOf 5 = .ok (.invokevirtual 138, 3) := by decide +kernel
theorem dX10_globalOf_8 : decode cX10_globalOf 8 = .ok (.iload_n 2, 1) := by decide +kernel
theorem dX10_globalOf_9 : decode cX10_globalOf 9 = .ok (.iadd, 1) := by decide +kernel
theorem dX10_globalOf_10 : decode cX10_globalOf 10 = .ok (.ireturn, 1) := by decide +kernel
theorem dX10_deepest_0 : decode cX10_deepest 0 = .ok (.iconst 0, 1) := by decide +kernel
theorem dX10_deepest_1 : decode cX10_deepest 1 = .ok (.istore_n 2, 1) := by decide +kernel
theorem dX10_deepest_2 : decode cX10_deepest 2 = .ok (.aload_n 0, 1) := by decide +kernel
theorem dX10_deepest_3 : decode cX10_deepest 3 = .ok (.iload_n 1, 1) := by decide +kernel
theorem dX10_deepest_4 : decode cX10_deepest 4 = .ok (.iconst 5, 1) := by decide +kernel
theorem dX10_deepest_5 : decode cX10_deepest 5 = .ok (.invokevirtual 138, 3) := by decide +kernel
theorem dX10_deepest_8 : decode cX10_deepest 8 = .ok (.istore_n 3, 1) := by decide +kernel
theorem dX10_deepest_9 : decode cX10_deepest 9 = .ok (.iload_n 3, 1) := by decide +kernel
theorem dX10_deepest_10 : decode cX10_deepest 10 = .ok (.aload_n 0, 1) := by decide +kernel
theorem dX10_deepest_11 : decode cX10_deepest 11 = .ok (.iload_n 1, 1) := by decide +kernel
theorem dX10_deepest_12 : decode cX10_deepest 12 = .ok (.invokevirtual 327, 3) := by decide +kernel
theorem dX10_deepest_15 : decode cX10_deepest 15 = .ok (.if_icmp .gt 23, 3) := by decide +kernel
theorem dX10_deepest_18 : decode cX10_deepest 18 = .ok (.iload_n 2, 1) := by decide +kernel
theorem dX10_deepest_19 : decode cX10_deepest 19 = .ok (.aload_n 0, 1) := by decide +kernel
theorem dX10_deepest_20 : decode cX10_deepest 20 = .ok (.aload_n 0, 1) := by decide +kernel
theorem dX10_deepest_21 : decode cX10_deepest 21 = .ok (.iload_n 3, 1) := by decide +kernel
theorem dX10_deepest_22 : decode cX10_deepest 22 = .ok (.invokevirtual 203, 3) := by decide +kernel
theorem dX10_deepest_25 : decode cX10_deepest 25 = .ok (.invokevirtual 408, 3) := by decide +kernel
theorem dX10_deepest_28 : decode cX10_deepest 28 = .ok (.invokestatic 411, 3) := by decide +kernel
theorem dX10_deepest_31 : decode cX10_deepest 31 = .ok (.istore_n 2, 1) := by decide +kernel
theorem dX10_deepest_32 : decode cX10_deepest 32 = .ok (.iinc 3 1, 3) := by decide +kernel
theorem dX10_deepest_35 : decode cX10_deepest 35 = .ok (.goto (-26), 3) := by decide +kernel
theorem dX10_deepest_38 : decode cX10_deepest 38 = .ok (.iload_n 2, 1) := by decide +kernel
theorem dX10_deepest_39 : decode cX10_deepest 39 = .ok (.ireturn, 1) := by decide +kernel
theorem dX10_copiesOf_0 : decode cX10_copiesOf 0 = .ok (.iconst 0, 1) := by decide +kernel
theorem dX10_copiesOf_1 : decode cX10_copiesOf 1 = .ok (.istore_n 2, 1) := by decide +kernel
theorem dX10_copiesOf_2 : decode cX10_copiesOf 2 = .ok (.iconst 0, 1) := by decide +kernel
theorem dX10_copiesOf_3 : decode cX10_copiesOf 3 = .ok (.istore_n 3, 1) := by decide +kernel
theorem dX10_copiesOf_4 : decode cX10_copiesOf 4 = .ok (.iload_n 3, 1) := by decide +kernel
theorem dX10_copiesOf_5 : decode cX10_copiesOf 5 = .ok (.aload_n 0, 1) := by decide +kernel
theorem dX10_copiesOf_6 : decode cX10_copiesOf 6 = .ok (.getfield 9, 3) := by decide +kernel
theorem dX10_copiesOf_9 : decode cX10_copiesOf 9 = .ok (.bipush 6, 2) := by decide +kernel
theorem dX10_copiesOf_11 : decode cX10_copiesOf 11 = .ok (.iaload, 1) := by decide +kernel
theorem dX10_copiesOf_12 : decode cX10_copiesOf 12 = .ok (.if_icmp .ge 30, 3) := by decide +kernel
theorem dX10_copiesOf_15 : decode cX10_copiesOf 15 = .ok (.iload_n 2, 1) := by decide +kernel
theorem dX10_copiesOf_16 : decode cX10_copiesOf 16 = .ok (.aload_n 0, 1) := by decide +kernel
theorem dX10_copiesOf_17 : decode cX10_copiesOf 17 = .ok (.iload_n 3, 1) := by decide +kernel
theorem dX10_copiesOf_18 : decode cX10_copiesOf 18 = .ok (.iconst 0, 1) := by decide +kernel
theorem dX10_copiesOf_19 : decode cX10_copiesOf 19 = .ok (.invokevirtual 355, 3) := by decide +kernel
theorem dX10_copiesOf_22 : decode cX10_copiesOf 22 = .ok (.iload_n 1, 1) := by decide +kernel
theorem dX10_copiesOf_23 : decode cX10_copiesOf 23 = .ok (.if_icmp .ne 7, 3) := by decide +kernel
theorem dX10_copiesOf_26 : decode cX10_copiesOf 26 = .ok (.iconst 1, 1) := by decide +kernel
theorem dX10_copiesOf_27 : decode cX10_copiesOf 27 = .ok (.goto 4, 3) := by decide +kernel
theorem dX10_copiesOf_30 : decode cX10_copiesOf 30 = .ok (.iconst 0, 1) := by decide +kernel
theorem dX10_copiesOf_31 : decode cX10_copiesOf 31 = .ok (.invokestatic 333, 3) := by decide +kernel
theorem dX10_copiesOf_34 : decode cX10_copiesOf 34 = .ok (.iadd, 1) := by decide +kernel
theorem dX10_copiesOf_35 : decode cX10_copiesOf 35 = .ok (.istore_n 2, 1) := by decide +kernel
theorem dX10_copiesOf_36 : decode cX10_copiesOf 36 = .ok (.iinc 3 1, 3) := by decide +kernel
theorem dX10_copiesOf_39 : decode cX10_copiesOf 39 = .ok (.goto (-35), 3) := by decide +kernel
theorem dX10_copiesOf_42 : decode cX10_copiesOf 42 = .ok (.iload_n 2, 1) := by decide +kernel
theorem dX10_copiesOf_43 : decode cX10_copiesOf 43 = .ok (.ireturn, 1) := by decide +kernel
theorem dX10_act_0 : decode cX10_act 0 = .ok (.aload_n 0, 1) := by decide +kernel
theorem dX10_act_1 : decode cX10_act 1 = .ok (.aload_n 0, 1) := by decide +kernel
theorem dX10_act_2 : decode cX10_act 2 = .ok (.getfield 48, 3) := by decide +kernel
theorem dX10_act_5 : decode cX10_act 5 = .ok (.aload_n 0, 1) := by decide +kernel
theorem dX10_act_6 : decode cX10_act 6 = .ok (.iload_n 1, 1) := by decide +kernel
theorem dX10_act_7 : decode cX10_act 7 = .ok (.invokevirtual 399, 3) := by decide +kernel
theorem dX10_act_10 : decode cX10_act 10 = .ok (.iload_n 2, 1) := by decide +kernel
theorem dX10_act_11 : decode cX10_act 11 = .ok (.iconst 0, 1) := by decide +kernel
theorem dX10_act_12 : decode cX10_act 12 = .ok (.bipush 11, 2) := by decide +kernel
theorem dX10_act_14 : decode cX10_act 14 = .ok (.invokestatic 69, 3) := by decide +kernel
theorem dX10_act_17 : decode cX10_act 17 = .ok (.invokevirtual 44, 3) := by decide +kernel
theorem dX10_act_20 : decode cX10_act 20 = .ok (.ifCond .ne 5, 3) := by decide +kernel
theorem dX10_act_23 : decode cX10_act 23 = .ok (.iconst 0, 1) := by decide +kernel
theorem dX10_act_24 : decode cX10_act 24 = .ok (.ireturn, 1) := by decide +kernel
theorem dX10_act_25 : decode cX10_act 25 = .ok (.iload_n 1, 1) := by decide +kernel
theorem dX10_act_26 : decode cX10_act 26 = .ok (.iconst 1, 1) := by decide +kernel
theorem dX10_act_27 : decode cX10_act 27 = .ok (.isub, 1) := by decide +kernel
theorem dX10_act_28 : decode cX10_act 28 = .ok (.istore_n 3, 1) := by decide +kernel
theorem dX10_act_29 : decode cX10_act 29 = .ok (.iload_n 2, 1) := by decide +kernel
theorem dX10_act_30 : decode cX10_act 30 = .ok (.tableswitch 114 4 11 #[46, 54, 60, 68, 74, 88, 101, 108], 46) := by decide +kernel
theorem dX10_act_76 : decode cX10_act 76 = .ok (.aload_n 0, 1) := by decide +kernel
theorem dX10_act_77 : decode cX10_act 77 = .ok (.iload_n 3, 1) := by decide +kernel
theorem dX10_act_78 : decode cX10_act 78 = .ok (.bipush 6, 2) := by decide +kernel
theorem dX10_act_80 : decode cX10_act 80 = .ok (.invokevirtual 138, 3) := by decide +kernel
theorem dX10_act_83 : decode cX10_act 83 = .ok (.ireturn, 1) := by decide +kernel
theorem dX10_act_84 : decode cX10_act 84 = .ok (.aload_n 0, 1) := by decide +kernel
theorem dX10_act_85 : decode cX10_act 85 = .ok (.iload_n 3, 1) := by decide +kernel
theorem dX10_act_86 : decode cX10_act 86 = .ok (.invokevirtual 343, 3) := by decide +kernel
theorem dX10_act_89 : decode cX10_act 89 = .ok (.ireturn, 1) := by decide +kernel
theorem dX10_act_90 : decode cX10_act 90 = .ok (.aload_n 0, 1) := by decide +kernel
theorem dX10_act_91 : decode cX10_act 91 = .ok (.iload_n 3, 1) := by decide +kernel
theorem dX10_act_92 : decode cX10_act 92 = .ok (.bipush 8, 2) := by decide +kernel
theorem dX10_act_94 : decode cX10_act 94 = .ok (.invokevirtual 138, 3) := by decide +kernel
theorem dX10_act_97 : decode cX10_act 97 = .ok (.ireturn, 1) := by decide +kernel
theorem dX10_act_98 : decode cX10_act 98 = .ok (.aload_n 0, 1) := by decide +kernel
theorem dX10_act_99 : decode cX10_act 99 = .ok (.iload_n 3, 1) := by decide +kernel
theorem dX10_act_100 : decode cX10_act 100 = .ok (.invokevirtual 416, 3) := by decide +kernel
theorem dX10_act_103 : decode cX10_act 103 = .ok (.ireturn, 1) := by decide +kernel
theorem dX10_act_104 : decode cX10_act 104 = .ok (.aload_n 0, 1) := by decide +kernel
theorem dX10_act_105 : decode cX10_act 105 = .ok (.iload_n 3, 1) := by decide +kernel
theorem dX10_act_106 : decode cX10_act 106 = .ok (.iconst 5, 1) := by decide +kernel
theorem dX10_act_107 : decode cX10_act 107 = .ok (.invokevirtual 138, 3) := by decide +kernel
theorem dX10_act_110 : decode cX10_act 110 = .ok (.aload_n 0, 1) := by decide +kernel
theorem dX10_act_111 : decode cX10_act 111 = .ok (.getfield 9, 3) := by decide +kernel
theorem dX10_act_114 : decode cX10_act 114 = .ok (.iconst 0, 1) := by decide +kernel
theorem dX10_act_115 : decode cX10_act 115 = .ok (.iaload, 1) := by decide +kernel
theorem dX10_act_116 : decode cX10_act 116 = .ok (.idiv, 1) := by decide +kernel
theorem dX10_act_117 : decode cX10_act 117 = .ok (.ireturn, 1) := by decide +kernel
theorem dX10_act_118 : decode cX10_act 118 = .ok (.aload_n 0, 1) := by decide +kernel
theorem dX10_act_119 : decode cX10_act 119 = .ok (.iload_n 3, 1) := by decide +kernel
theorem dX10_act_120 : decode cX10_act 120 = .ok (.invokevirtual 327, 3) := by decide +kernel
theorem dX10_act_123 : decode cX10_act 123 = .ok (.aload_n 0, 1) := by decide +kernel
theorem dX10_act_124 : decode cX10_act 124 = .ok (.getfield 9, 3) := by decide +kernel
theorem dX10_act_127 : decode cX10_act 127 = .ok (.iconst 0, 1) := by decide +kernel
theorem dX10_act_128 : decode cX10_act 128 = .ok (.iaload, 1) := by decide +kernel
theorem dX10_act_129 : decode cX10_act 129 = .ok (.idiv, 1) := by decide +kernel
theorem dX10_act_130 : decode cX10_act 130 = .ok (.ireturn, 1) := by decide +kernel
theorem dX10_act_131 : decode cX10_act 131 = .ok (.aload_n 0, 1) := by decide +kernel
theorem dX10_act_132 : decode cX10_act 132 = .ok (.iload_n 3, 1) := by decide +kernel
theorem dX10_act_133 : decode cX10_act 133 = .ok (.iconst 4, 1) := by decide +kernel
theorem dX10_act_134 : decode cX10_act 134 = .ok (.invokevirtual 138, 3) := by decide +kernel
theorem dX10_act_137 : decode cX10_act 137 = .ok (.ireturn, 1) := by decide +kernel
theorem dX10_act_138 : decode cX10_act 138 = .ok (.aload_n 0, 1) := by decide +kernel
theorem dX10_act_139 : decode cX10_act 139 = .ok (.iload_n 3, 1) := by decide +kernel
theorem dX10_act_140 : decode cX10_act 140 = .ok (.invokevirtual 419, 3) := by decide +kernel
theorem dX10_act_143 : decode cX10_act 143 = .ok (.ireturn, 1) := by decide +kernel
theorem dX10_act_144 : decode cX10_act 144 = .ok (.aload_n 0, 1) := by decide +kernel
theorem dX10_act_145 : decode cX10_act 145 = .ok (.iload_n 3, 1) := by decide +kernel
theorem dX10_act_146 : decode cX10_act 146 = .ok (.iload_n 2, 1) := by decide +kernel
theorem dX10_act_147 : decode cX10_act 147 = .ok (.invokevirtual 138, 3) := by decide +kernel
theorem dX10_act_150 : decode cX10_act 150 = .ok (.ireturn, 1) := by decide +kernel
theorem dX10_clauseNumber_0 : decode cX10_clauseNumber 0 = .ok (.aload_n 0, 1) := by decide +kernel
theorem dX10_clauseNumber_1 : decode cX10_clauseNumber 1 = .ok (.iload_n 1, 1) := by decide +kernel
theorem dX10_clauseNumber_2 : decode cX10_clauseNumber 2 = .ok (.invokevirtual 203, 3) := by decide +kernel
theorem dX10_clauseNumber_5 : decode cX10_clauseNumber 5 = .ok (.iconst (-1), 1) := by decide +kernel
theorem dX10_clauseNumber_6 : decode cX10_clauseNumber 6 = .ok (.if_icmp .ne 7, 3) := by decide +kernel
theorem dX10_clauseNumber_9 : decode cX10_clauseNumber 9 = .ok (.iconst (-1), 1) := by decide +kernel
theorem dX10_clauseNumber_10 : decode cX10_clauseNumber 10 = .ok (.goto 20, 3) := by decide +kernel
theorem dX10_clauseNumber_13 : decode cX10_clauseNumber 13 = .ok (.aload_n 0, 1) := by decide +kernel
theorem dX10_clauseNumber_14 : decode cX10_clauseNumber 14 = .ok (.iload_n 1, 1) := by decide +kernel
theorem dX10_clauseNumber_15 : decode cX10_clauseNumber 15 = .ok (.invokevirtual 203, 3) := by decide +kernel
theorem dX10_clauseNumber_18 : decode cX10_clauseNumber 18 = .ok (.aload_n 0, 1) := by decide +kernel
theorem dX10_clauseNumber_19 : decode cX10_clauseNumber 19 = .ok (.aload_n 0, 1) := by decide +kernel
theorem dX10_clauseNumber_20 : decode cX10_clauseNumber 20 = .ok (.iload_n 1, 1) := by decide +kernel
theorem dX10_clauseNumber_21 : decode cX10_clauseNumber 21 = .ok (.invokevirtual 358, 3) := by decide +kernel
theorem dX10_clauseNumber_24 : decode cX10_clauseNumber 24 = .ok (.bipush 7, 2) := by decide +kernel
theorem dX10_clauseNumber_26 : decode cX10_clauseNumber 26 = .ok (.invokevirtual 138, 3) := by decide +kernel
theorem dX10_clauseNumber_29 : decode cX10_clauseNumber 29 = .ok (.isub, 1) := by decide +kernel
theorem dX10_clauseNumber_30 : decode cX10_clauseNumber 30 = .ok (.ireturn, 1) := by decide +kernel
theorem dX10_word_0 : decode cX10_word 0 = .ok (.aload_n 0, 1) := by decide +kernel
theorem dX10_word_1 : decode cX10_word 1 = .ok (.aload_n 0, 1) := by decide +kernel
theorem dX10_word_2 : decode cX10_word 2 = .ok (.getfield 48, 3) := by decide +kernel
theorem dX10_word_5 : decode cX10_word 5 = .ok (.aload_n 0, 1) := by decide +kernel
theorem dX10_word_6 : decode cX10_word 6 = .ok (.iload_n 1, 1) := by decide +kernel
theorem dX10_word_7 : decode cX10_word 7 = .ok (.iload_n 2, 1) := by decide +kernel
theorem dX10_word_8 : decode cX10_word 8 = .ok (.invokevirtual 422, 3) := by decide +kernel
theorem dX10_word_11 : decode cX10_word 11 = .ok (.iload_n 3, 1) := by decide +kernel
theorem dX10_word_12 : decode cX10_word 12 = .ok (.iconst 0, 1) := by decide +kernel
theorem dX10_word_13 : decode cX10_word 13 = .ok (.bipush 7, 2) := by decide +kernel
theorem dX10_word_15 : decode cX10_word 15 = .ok (.invokestatic 69, 3) := by decide +kernel
theorem dX10_word_18 : decode cX10_word 18 = .ok (.invokevirtual 44, 3) := by decide +kernel
theorem dX10_word_21 : decode cX10_word 21 = .ok (.ifCond .ne 5, 3) := by decide +kernel
theorem dX10_word_24 : decode cX10_word 24 = .ok (.iconst 0, 1) := by decide +kernel
theorem dX10_word_25 : decode cX10_word 25 = .ok (.ireturn, 1) := by decide +kernel
theorem dX10_word_26 : decode cX10_word 26 = .ok (.aload_n 0, 1) := by decide +kernel
theorem dX10_word_27 : decode cX10_word 27 = .ok (.iload_n 1, 1) := by decide +kernel
theorem dX10_word_28 : decode cX10_word 28 = .ok (.iload_n 2, 1) := by decide +kernel
theorem dX10_word_29 : decode cX10_word 29 = .ok (.invokevirtual 425, 3) := by decide +kernel
theorem dX10_word_32 : decode cX10_word 32 = .ok (.istore 4, 2) := by decide +kernel
theorem dX10_word_34 : decode cX10_word 34 = .ok (.iload_n 3, 1) := by decide +kernel
theorem dX10_word_35 : decode cX10_word 35 = .ok (.tableswitch 113 0 6 #[41, 51, 59, 70, 78, 96, 106], 41) := by decide +kernel
theorem dX10_word_76 : decode cX10_word 76 = .ok (.iload 4, 2) := by decide +kernel
theorem dX10_word_78 : decode cX10_word 78 = .ok (.aload_n 0, 1) := by decide +kernel
theorem dX10_word_79 : decode cX10_word 79 = .ok (.getfield 9, 3) := by decide +kernel
theorem dX10_word_82 : decode cX10_word 82 = .ok (.iconst 0, 1) := by decide +kernel
theorem dX10_word_83 : decode cX10_word 83 = .ok (.iaload, 1) := by decide +kernel
theorem dX10_word_84 : decode cX10_word 84 = .ok (.idiv, 1) := by decide +kernel
theorem dX10_word_85 : decode cX10_word 85 = .ok (.ireturn, 1) := by decide +kernel
theorem dX10_word_86 : decode cX10_word 86 = .ok (.aload_n 0, 1) := by decide +kernel
theorem dX10_word_87 : decode cX10_word 87 = .ok (.iload 4, 2) := by decide +kernel
theorem dX10_word_89 : decode cX10_word 89 = .ok (.iconst 2, 1) := by decide +kernel
theorem dX10_word_90 : decode cX10_word 90 = .ok (.invokevirtual 209, 3) := by decide +kernel
theorem dX10_word_93 : decode cX10_word 93 = .ok (.ireturn, 1) := by decide +kernel
theorem dX10_word_94 : decode cX10_word 94 = .ok (.aload_n 0, 1) := by decide +kernel
theorem dX10_word_95 : decode cX10_word 95 = .ok (.aload_n 0, 1) := by decide +kernel
theorem dX10_word_96 : decode cX10_word 96 = .ok (.iload 4, 2) := by decide +kernel
theorem dX10_word_98 : decode cX10_word 98 = .ok (.invokevirtual 203, 3) := by decide +kernel
theorem dX10_word_101 : decode cX10_word 101 = .ok (.invokevirtual 408, 3) := by decide +kernel
theorem dX10_word_104 : decode cX10_word 104 = .ok (.ireturn, 1) := by decide +kernel
theorem dX10_word_105 : decode cX10_word 105 = .ok (.aload_n 0, 1) := by decide +kernel
theorem dX10_word_106 : decode cX10_word 106 = .ok (.iload 4, 2) := by decide +kernel
theorem dX10_word_108 : decode cX10_word 108 = .ok (.iconst 4, 1) := by decide +kernel
theorem dX10_word_109 : decode cX10_word 109 = .ok (.invokevirtual 209, 3) := by decide +kernel
theorem dX10_word_112 : decode cX10_word 112 = .ok (.ireturn, 1) := by decide +kernel
theorem dX10_word_113 : decode cX10_word 113 = .ok (.aload_n 0, 1) := by decide +kernel
theorem dX10_word_114 : decode cX10_word 114 = .ok (.iload 4, 2) := by decide +kernel
theorem dX10_word_116 : decode cX10_word 116 = .ok (.iconst 0, 1) := by decide +kernel
theorem dX10_word_117 : decode cX10_word 117 = .ok (.invokevirtual 209, 3) := by decide +kernel
theorem dX10_word_120 : decode cX10_word 120 = .ok (.aload_n 0, 1) := by decide +kernel
theorem dX10_word_121 : decode cX10_word 121 = .ok (.iload 4, 2) := by decide +kernel
theorem dX10_word_123 : decode cX10_word 123 = .ok (.iconst 1, 1) := by decide +kernel
theorem dX10_word_124 : decode cX10_word 124 = .ok (.invokevirtual 209, 3) := by decide +kernel
theorem dX10_word_127 : decode cX10_word 127 = .ok (.invokestatic 428, 3) := by decide +kernel
theorem dX10_word_130 : decode cX10_word 130 = .ok (.ireturn, 1) := by decide +kernel
theorem dX10_word_131 : decode cX10_word 131 = .ok (.aload_n 0, 1) := by decide +kernel
theorem dX10_word_132 : decode cX10_word 132 = .ok (.iload 4, 2) := by decide +kernel
theorem dX10_word_134 : decode cX10_word 134 = .ok (.invokevirtual 374, 3) := by decide +kernel
theorem dX10_word_137 : decode cX10_word 137 = .ok (.invokestatic 333, 3) := by decide +kernel
theorem dX10_word_140 : decode cX10_word 140 = .ok (.ireturn, 1) := by decide +kernel
theorem dX10_word_141 : decode cX10_word 141 = .ok (.aload_n 0, 1) := by decide +kernel
theorem dX10_word_142 : decode cX10_word 142 = .ok (.iload 4, 2) := by decide +kernel
theorem dX10_word_144 : decode cX10_word 144 = .ok (.invokevirtual 431, 3) := by decide +kernel
theorem dX10_word_147 : decode cX10_word 147 = .ok (.ireturn, 1) := by decide +kernel
theorem dX10_word_148 : decode cX10_word 148 = .ok (.aload_n 0, 1) := by decide +kernel
theorem dX10_word_149 : decode cX10_word 149 = .ok (.iload 4, 2) := by decide +kernel
theorem dX10_word_151 : decode cX10_word 151 = .ok (.invokevirtual 371, 3) := by decide +kernel
theorem dX10_word_154 : decode cX10_word 154 = .ok (.ireturn, 1) := by decide +kernel
theorem dX10_letter_0 : decode cX10_letter 0 = .ok (.aload_n 0, 1) := by decide +kernel
theorem dX10_letter_1 : decode cX10_letter 1 = .ok (.aload_n 0, 1) := by decide +kernel
theorem dX10_letter_2 : decode cX10_letter 2 = .ok (.getfield 48, 3) := by decide +kernel
theorem dX10_letter_5 : decode cX10_letter 5 = .ok (.aload_n 0, 1) := by decide +kernel
theorem dX10_letter_6 : decode cX10_letter 6 = .ok (.iload_n 1, 1) := by decide +kernel
theorem dX10_letter_7 : decode cX10_letter 7 = .ok (.iload_n 2, 1) := by decide +kernel
theorem dX10_letter_8 : decode cX10_letter 8 = .ok (.invokevirtual 422, 3) := by decide +kernel
theorem dX10_letter_11 : decode cX10_letter 11 = .ok (.invokevirtual 380, 3) := by decide +kernel
theorem dX10_letter_14 : decode cX10_letter 14 = .ok (.ifCond .ne 5, 3) := by decide +kernel
theorem dX10_letter_17 : decode cX10_letter 17 = .ok (.iconst 0, 1) := by decide +kernel
theorem dX10_letter_18 : decode cX10_letter 18 = .ok (.ireturn, 1) := by decide +kernel
theorem dX10_letter_19 : decode cX10_letter 19 = .ok (.aload_n 0, 1) := by decide +kernel
theorem dX10_letter_20 : decode cX10_letter 20 = .ok (.iload_n 1, 1) := by decide +kernel
theorem dX10_letter_21 : decode cX10_letter 21 = .ok (.iload_n 2, 1) := by decide +kernel
theorem dX10_letter_22 : decode cX10_letter 22 = .ok (.invokevirtual 425, 3) := by decide +kernel
theorem dX10_letter_25 : decode cX10_letter 25 = .ok (.istore 4, 2) := by decide +kernel
theorem dX10_letter_27 : decode cX10_letter 27 = .ok (.aload_n 0, 1) := by decide +kernel
theorem dX10_letter_28 : decode cX10_letter 28 = .ok (.iload 4, 2) := by decide +kernel
theorem dX10_letter_30 : decode cX10_letter 30 = .ok (.iconst 0, 1) := by decide +kernel
theorem dX10_letter_31 : decode cX10_letter 31 = .ok (.invokevirtual 209, 3) := by decide +kernel
theorem dX10_letter_34 : decode cX10_letter 34 = .ok (.aload_n 0, 1) := by decide +kernel
theorem dX10_letter_35 : decode cX10_letter 35 = .ok (.iload 4, 2) := by decide +kernel
theorem dX10_letter_37 : decode cX10_letter 37 = .ok (.iconst 1, 1) := by decide +kernel
theorem dX10_letter_38 : decode cX10_letter 38 = .ok (.invokevirtual 209, 3) := by decide +kernel
theorem dX10_letter_41 : decode cX10_letter 41 = .ok (.iload_n 3, 1) := by decide +kernel
theorem dX10_letter_42 : decode cX10_letter 42 = .ok (.invokestatic 128, 3) := by decide +kernel
theorem dX10_letter_45 : decode cX10_letter 45 = .ok (.ireturn, 1) := by decide +kernel
theorem dX10_innerLetter_0 : decode cX10_innerLetter 0 = .ok (.aload_n 0, 1) := by decide +kernel
theorem dX10_innerLetter_1 : decode cX10_innerLetter 1 = .ok (.aload_n 0, 1) := by decide +kernel
theorem dX10_innerLetter_2 : decode cX10_innerLetter 2 = .ok (.getfield 48, 3) := by decide +kernel
theorem dX10_innerLetter_5 : decode cX10_innerLetter 5 = .ok (.aload_n 0, 1) := by decide +kernel
theorem dX10_innerLetter_6 : decode cX10_innerLetter 6 = .ok (.iload_n 1, 1) := by decide +kernel
theorem dX10_innerLetter_7 : decode cX10_innerLetter 7 = .ok (.iload_n 2, 1) := by decide +kernel
theorem dX10_innerLetter_8 : decode cX10_innerLetter 8 = .ok (.invokevirtual 422, 3) := by decide +kernel
theorem dX10_innerLetter_11 : decode cX10_innerLetter 11 = .ok (.invokevirtual 380, 3) := by decide +kernel
theorem dX10_innerLetter_14 : decode cX10_innerLetter 14 = .ok (.ifCond .ne 5, 3) := by decide +kernel
theorem dX10_innerLetter_17 : decode cX10_innerLetter 17 = .ok (.iconst 0, 1) := by decide +kernel
theorem dX10_innerLetter_18 : decode cX10_innerLetter 18 = .ok (.ireturn, 1) := by decide +kernel
theorem dX10_innerLetter_19 : decode cX10_innerLetter 19 = .ok (.aload_n 0, 1) := by decide +kernel
theorem dX10_innerLetter_20 : decode cX10_innerLetter 20 = .ok (.iload_n 1, 1) := by decide +kernel
theorem dX10_innerLetter_21 : decode cX10_innerLetter 21 = .ok (.iload_n 2, 1) := by decide +kernel
theorem dX10_innerLetter_22 : decode cX10_innerLetter 22 = .ok (.invokevirtual 425, 3) := by decide +kernel
theorem dX10_innerLetter_25 : decode cX10_innerLetter 25 = .ok (.istore 5, 2) := by decide +kernel
theorem dX10_innerLetter_27 : decode cX10_innerLetter 27 = .ok (.iload_n 3, 1) := by decide +kernel
theorem dX10_innerLetter_28 : decode cX10_innerLetter 28 = .ok (.iconst 0, 1) := by decide +kernel
theorem dX10_innerLetter_29 : decode cX10_innerLetter 29 = .ok (.aload_n 0, 1) := by decide +kernel
theorem dX10_innerLetter_30 : decode cX10_innerLetter 30 = .ok (.iload 5, 2) := by decide +kernel
theorem dX10_innerLetter_32 : decode cX10_innerLetter 32 = .ok (.iconst 4, 1) := by decide +kernel
theorem dX10_innerLetter_33 : decode cX10_innerLetter 33 = .ok (.invokevirtual 209, 3) := by decide +kernel
theorem dX10_innerLetter_36 : decode cX10_innerLetter 36 = .ok (.iconst 1, 1) := by decide +kernel
theorem dX10_innerLetter_37 : decode cX10_innerLetter 37 = .ok (.isub, 1) := by decide +kernel
theorem dX10_innerLetter_38 : decode cX10_innerLetter 38 = .ok (.invokestatic 69, 3) := by decide +kernel
theorem dX10_innerLetter_41 : decode cX10_innerLetter 41 = .ok (.ifCond .eq 35, 3) := by decide +kernel
theorem dX10_innerLetter_44 : decode cX10_innerLetter 44 = .ok (.aload_n 0, 1) := by decide +kernel
theorem dX10_innerLetter_45 : decode cX10_innerLetter 45 = .ok (.iload 5, 2) := by decide +kernel
theorem dX10_innerLetter_47 : decode cX10_innerLetter 47 = .ok (.iconst 5, 1) := by decide +kernel
theorem dX10_innerLetter_48 : decode cX10_innerLetter 48 = .ok (.iconst 2, 1) := by decide +kernel
theorem dX10_innerLetter_49 : decode cX10_innerLetter 49 = .ok (.iload_n 3, 1) := by decide +kernel
theorem dX10_innerLetter_50 : decode cX10_innerLetter 50 = .ok (.imul, 1) := by decide +kernel
theorem dX10_innerLetter_51 : decode cX10_innerLetter 51 = .ok (.iadd, 1) := by decide +kernel
theorem dX10_innerLetter_52 : decode cX10_innerLetter 52 = .ok (.invokevirtual 209, 3) := by decide +kernel
theorem dX10_innerLetter_55 : decode cX10_innerLetter 55 = .ok (.aload_n 0, 1) := by decide +kernel
theorem dX10_innerLetter_56 : decode cX10_innerLetter 56 = .ok (.iload 5, 2) := by decide +kernel
theorem dX10_innerLetter_58 : decode cX10_innerLetter 58 = .ok (.iconst 5, 1) := by decide +kernel
theorem dX10_innerLetter_59 : decode cX10_innerLetter 59 = .ok (.iconst 2, 1) := by decide +kernel
theorem dX10_innerLetter_60 : decode cX10_innerLetter 60 = .ok (.iload_n 3, 1) := by decide +kernel
theorem dX10_innerLetter_61 : decode cX10_innerLetter 61 = .ok (.imul, 1) := by decide +kernel
theorem dX10_innerLetter_62 : decode cX10_innerLetter 62 = .ok (.iadd, 1) := by decide +kernel
theorem dX10_innerLetter_63 : decode cX10_innerLetter 63 = .ok (.iconst 1, 1) := by decide +kernel
theorem dX10_innerLetter_64 : decode cX10_innerLetter 64 = .ok (.iadd, 1) := by decide +kernel
theorem dX10_innerLetter_65 : decode cX10_innerLetter 65 = .ok (.invokevirtual 209, 3) := by decide +kernel
theorem dX10_innerLetter_68 : decode cX10_innerLetter 68 = .ok (.iload 4, 2) := by decide +kernel
theorem dX10_innerLetter_70 : decode cX10_innerLetter 70 = .ok (.invokestatic 128, 3) := by decide +kernel
theorem dX10_innerLetter_73 : decode cX10_innerLetter 73 = .ok (.goto 4, 3) := by decide +kernel
theorem dX10_innerLetter_76 : decode cX10_innerLetter 76 = .ok (.iconst (-1), 1) := by decide +kernel
theorem dX10_innerLetter_77 : decode cX10_innerLetter 77 = .ok (.ireturn, 1) := by decide +kernel
theorem dX10_standingWritten_0 : decode cX10_standingWritten 0 = .ok (.iconst 0, 1) := by decide +kernel
theorem dX10_standingWritten_1 : decode cX10_standingWritten 1 = .ok (.istore_n 3, 1) := by decide +kernel
theorem dX10_standingWritten_2 : decode cX10_standingWritten 2 = .ok (.iload_n 1, 1) := by decide +kernel
theorem dX10_standingWritten_3 : decode cX10_standingWritten 3 = .ok (.istore 4, 2) := by decide +kernel
theorem dX10_standingWritten_5 : decode cX10_standingWritten 5 = .ok (.iload 4, 2) := by decide +kernel
theorem dX10_standingWritten_7 : decode cX10_standingWritten 7 = .ok (.iload_n 2, 1) := by decide +kernel
theorem dX10_standingWritten_8 : decode cX10_standingWritten 8 = .ok (.if_icmp .gt 21, 3) := by decide +kernel
theorem dX10_standingWritten_11 : decode cX10_standingWritten 11 = .ok (.iload_n 3, 1) := by decide +kernel
theorem dX10_standingWritten_12 : decode cX10_standingWritten 12 = .ok (.aload_n 0, 1) := by decide +kernel
theorem dX10_standingWritten_13 : decode cX10_standingWritten 13 = .ok (.iload 4, 2) := by decide +kernel
theorem dX10_standingWritten_15 : decode cX10_standingWritten 15 = .ok (.invokevirtual 330, 3) := by decide +kernel
theorem dX10_standingWritten_18 : decode cX10_standingWritten 18 = .ok (.invokestatic 333, 3) := by decide +kernel
theorem dX10_standingWritten_21 : decode cX10_standingWritten 21 = .ok (.iadd, 1) := by decide +kernel
theorem dX10_standingWritten_22 : decode cX10_standingWritten 22 = .ok (.istore_n 3, 1) := by decide +kernel
theorem dX10_standingWritten_23 : decode cX10_standingWritten 23 = .ok (.iinc 4 1, 3) := by decide +kernel
theorem dX10_standingWritten_26 : decode cX10_standingWritten 26 = .ok (.goto (-21), 3) := by decide +kernel
theorem dX10_standingWritten_29 : decode cX10_standingWritten 29 = .ok (.iload_n 3, 1) := by decide +kernel
theorem dX10_standingWritten_30 : decode cX10_standingWritten 30 = .ok (.ireturn, 1) := by decide +kernel
theorem dX10_clausesIn_0 : decode cX10_clausesIn 0 = .ok (.iconst 0, 1) := by decide +kernel
theorem dX10_clausesIn_1 : decode cX10_clausesIn 1 = .ok (.istore_n 3, 1) := by decide +kernel
theorem dX10_clausesIn_2 : decode cX10_clausesIn 2 = .ok (.iconst 0, 1) := by decide +kernel
theorem dX10_clausesIn_3 : decode cX10_clausesIn 3 = .ok (.istore 4, 2) := by decide +kernel
theorem dX10_clausesIn_5 : decode cX10_clausesIn 5 = .ok (.iload 4, 2) := by decide +kernel
theorem dX10_clausesIn_7 : decode cX10_clausesIn 7 = .ok (.aload_n 0, 1) := by decide +kernel
theorem dX10_clausesIn_8 : decode cX10_clausesIn 8 = .ok (.iload_n 1, 1) := by decide +kernel
theorem dX10_clausesIn_9 : decode cX10_clausesIn 9 = .ok (.bipush 8, 2) := by decide +kernel
theorem dX10_clausesIn_11 : decode cX10_clausesIn 11 = .ok (.invokevirtual 138, 3) := by decide +kernel
theorem dX10_clausesIn_14 : decode cX10_clausesIn 14 = .ok (.if_icmp .ge 41, 3) := by decide +kernel
theorem dX10_clausesIn_17 : decode cX10_clausesIn 17 = .ok (.iload_n 3, 1) := by decide +kernel
theorem dX10_clausesIn_18 : decode cX10_clausesIn 18 = .ok (.aload_n 0, 1) := by decide +kernel
theorem dX10_clausesIn_19 : decode cX10_clausesIn 19 = .ok (.aload_n 0, 1) := by decide +kernel
theorem dX10_clausesIn_20 : decode cX10_clausesIn 20 = .ok (.iload_n 1, 1) := by decide +kernel
theorem dX10_clausesIn_21 : decode cX10_clausesIn 21 = .ok (.bipush 7, 2) := by decide +kernel
theorem dX10_clausesIn_23 : decode cX10_clausesIn 23 = .ok (.invokevirtual 138, 3) := by decide +kernel
theorem dX10_clausesIn_26 : decode cX10_clausesIn 26 = .ok (.iload 4, 2) := by decide +kernel
theorem dX10_clausesIn_28 : decode cX10_clausesIn 28 = .ok (.iadd, 1) := by decide +kernel
theorem dX10_clausesIn_29 : decode cX10_clausesIn 29 = .ok (.iconst 2, 1) := by decide +kernel
theorem dX10_clausesIn_30 : decode cX10_clausesIn 30 = .ok (.invokevirtual 145, 3) := by decide +kernel
theorem dX10_clausesIn_33 : decode cX10_clausesIn 33 = .ok (.iload_n 2, 1) := by decide +kernel
theorem dX10_clausesIn_34 : decode cX10_clausesIn 34 = .ok (.iconst 1, 1) := by decide +kernel
theorem dX10_clausesIn_35 : decode cX10_clausesIn 35 = .ok (.iadd, 1) := by decide +kernel
theorem dX10_clausesIn_36 : decode cX10_clausesIn 36 = .ok (.if_icmp .ne 7, 3) := by decide +kernel
theorem dX10_clausesIn_39 : decode cX10_clausesIn 39 = .ok (.iconst 1, 1) := by decide +kernel
theorem dX10_clausesIn_40 : decode cX10_clausesIn 40 = .ok (.goto 4, 3) := by decide +kernel
theorem dX10_clausesIn_43 : decode cX10_clausesIn 43 = .ok (.iconst 0, 1) := by decide +kernel
theorem dX10_clausesIn_44 : decode cX10_clausesIn 44 = .ok (.invokestatic 333, 3) := by decide +kernel
theorem dX10_clausesIn_47 : decode cX10_clausesIn 47 = .ok (.iadd, 1) := by decide +kernel
theorem dX10_clausesIn_48 : decode cX10_clausesIn 48 = .ok (.istore_n 3, 1) := by decide +kernel
theorem dX10_clausesIn_49 : decode cX10_clausesIn 49 = .ok (.iinc 4 1, 3) := by decide +kernel
theorem dX10_clausesIn_52 : decode cX10_clausesIn 52 = .ok (.goto (-47), 3) := by decide +kernel
theorem dX10_clausesIn_55 : decode cX10_clausesIn 55 = .ok (.iload_n 3, 1) := by decide +kernel
theorem dX10_clausesIn_56 : decode cX10_clausesIn 56 = .ok (.ireturn, 1) := by decide +kernel
theorem dX10_clause_0 : decode cX10_clause 0 = .ok (.aload_n 0, 1) := by decide +kernel
theorem dX10_clause_1 : decode cX10_clause 1 = .ok (.iload_n 1, 1) := by decide +kernel
theorem dX10_clause_2 : decode cX10_clause 2 = .ok (.invokevirtual 399, 3) := by decide +kernel
theorem dX10_clause_5 : decode cX10_clause 5 = .ok (.ifCond .eq 26, 3) := by decide +kernel
theorem dX10_clause_8 : decode cX10_clause 8 = .ok (.iload_n 2, 1) := by decide +kernel
theorem dX10_clause_9 : decode cX10_clause 9 = .ok (.iconst 0, 1) := by decide +kernel
theorem dX10_clause_10 : decode cX10_clause 10 = .ok (.aload_n 0, 1) := by decide +kernel
theorem dX10_clause_11 : decode cX10_clause 11 = .ok (.iload_n 1, 1) := by decide +kernel
theorem dX10_clause_12 : decode cX10_clause 12 = .ok (.iconst 1, 1) := by decide +kernel
theorem dX10_clause_13 : decode cX10_clause 13 = .ok (.isub, 1) := by decide +kernel
theorem dX10_clause_14 : decode cX10_clause 14 = .ok (.bipush 8, 2) := by decide +kernel
theorem dX10_clause_16 : decode cX10_clause 16 = .ok (.invokevirtual 138, 3) := by decide +kernel
theorem dX10_clause_19 : decode cX10_clause 19 = .ok (.iconst 1, 1) := by decide +kernel
theorem dX10_clause_20 : decode cX10_clause 20 = .ok (.isub, 1) := by decide +kernel
theorem dX10_clause_21 : decode cX10_clause 21 = .ok (.invokestatic 69, 3) := by decide +kernel
theorem dX10_clause_24 : decode cX10_clause 24 = .ok (.ifCond .eq 7, 3) := by decide +kernel
theorem dX10_clause_27 : decode cX10_clause 27 = .ok (.iconst 1, 1) := by decide +kernel
theorem dX10_clause_28 : decode cX10_clause 28 = .ok (.goto 4, 3) := by decide +kernel
theorem dX10_clause_31 : decode cX10_clause 31 = .ok (.iconst 0, 1) := by decide +kernel
theorem dX10_clause_32 : decode cX10_clause 32 = .ok (.istore 4, 2) := by decide +kernel
theorem dX10_clause_34 : decode cX10_clause 34 = .ok (.aload_n 0, 1) := by decide +kernel
theorem dX10_clause_35 : decode cX10_clause 35 = .ok (.aload_n 0, 1) := by decide +kernel
theorem dX10_clause_36 : decode cX10_clause 36 = .ok (.getfield 48, 3) := by decide +kernel
theorem dX10_clause_39 : decode cX10_clause 39 = .ok (.iload 4, 2) := by decide +kernel
theorem dX10_clause_41 : decode cX10_clause 41 = .ok (.iload_n 3, 1) := by decide +kernel
theorem dX10_clause_42 : decode cX10_clause 42 = .ok (.iconst 0, 1) := by decide +kernel
theorem dX10_clause_43 : decode cX10_clause 43 = .ok (.iconst 5, 1) := by decide +kernel
theorem dX10_clause_44 : decode cX10_clause 44 = .ok (.invokestatic 69, 3) := by decide +kernel
theorem dX10_clause_47 : decode cX10_clause 47 = .ok (.invokevirtual 44, 3) := by decide +kernel
theorem dX10_clause_50 : decode cX10_clause 50 = .ok (.ifCond .ne 5, 3) := by decide +kernel
theorem dX10_clause_53 : decode cX10_clause 53 = .ok (.iconst 0, 1) := by decide +kernel
theorem dX10_clause_54 : decode cX10_clause 54 = .ok (.ireturn, 1) := by decide +kernel
theorem dX10_clause_55 : decode cX10_clause 55 = .ok (.aload_n 0, 1) := by decide +kernel
theorem dX10_clause_56 : decode cX10_clause 56 = .ok (.iload_n 1, 1) := by decide +kernel
theorem dX10_clause_57 : decode cX10_clause 57 = .ok (.iconst 1, 1) := by decide +kernel
theorem dX10_clause_58 : decode cX10_clause 58 = .ok (.isub, 1) := by decide +kernel
theorem dX10_clause_59 : decode cX10_clause 59 = .ok (.bipush 7, 2) := by decide +kernel
theorem dX10_clause_61 : decode cX10_clause 61 = .ok (.invokevirtual 138, 3) := by decide +kernel
theorem dX10_clause_64 : decode cX10_clause 64 = .ok (.iload_n 2, 1) := by decide +kernel
theorem dX10_clause_65 : decode cX10_clause 65 = .ok (.iadd, 1) := by decide +kernel
theorem dX10_clause_66 : decode cX10_clause 66 = .ok (.istore 5, 2) := by decide +kernel
theorem dX10_clause_68 : decode cX10_clause 68 = .ok (.aload_n 0, 1) := by decide +kernel
theorem dX10_clause_69 : decode cX10_clause 69 = .ok (.iload 5, 2) := by decide +kernel
theorem dX10_clause_71 : decode cX10_clause 71 = .ok (.iconst 0, 1) := by decide +kernel
theorem dX10_clause_72 : decode cX10_clause 72 = .ok (.invokevirtual 145, 3) := by decide +kernel
theorem dX10_clause_75 : decode cX10_clause 75 = .ok (.istore 6, 2) := by decide +kernel
theorem dX10_clause_77 : decode cX10_clause 77 = .ok (.aload_n 0, 1) := by decide +kernel
theorem dX10_clause_78 : decode cX10_clause 78 = .ok (.iload 5, 2) := by decide +kernel
theorem dX10_clause_80 : decode cX10_clause 80 = .ok (.iconst 1, 1) := by decide +kernel
theorem dX10_clause_81 : decode cX10_clause 81 = .ok (.invokevirtual 145, 3) := by decide +kernel
theorem dX10_clause_84 : decode cX10_clause 84 = .ok (.istore 7, 2) := by decide +kernel
theorem dX10_clause_86 : decode cX10_clause 86 = .ok (.iload_n 3, 1) := by decide +kernel
theorem dX10_clause_87 : decode cX10_clause 87 = .ok (.tableswitch 81 0 4 #[33, 45, 57, 65, 74], 33) := by decide +kernel
theorem dX10_clause_120 : decode cX10_clause 120 = .ok (.iload 6, 2) := by decide +kernel
theorem dX10_clause_122 : decode cX10_clause 122 = .ok (.aload_n 0, 1) := by decide +kernel
theorem dX10_clause_123 : decode cX10_clause 123 = .ok (.iload_n 1, 1) := by decide +kernel
theorem dX10_clause_124 : decode cX10_clause 124 = .ok (.iconst 1, 1) := by decide +kernel
theorem dX10_clause_125 : decode cX10_clause 125 = .ok (.isub, 1) := by decide +kernel
theorem dX10_clause_126 : decode cX10_clause 126 = .ok (.iconst 5, 1) := by decide +kernel
theorem dX10_clause_127 : decode cX10_clause 127 = .ok (.invokevirtual 138, 3) := by decide +kernel
theorem dX10_clause_130 : decode cX10_clause 130 = .ok (.isub, 1) := by decide +kernel
theorem dX10_clause_131 : decode cX10_clause 131 = .ok (.ireturn, 1) := by decide +kernel
theorem dX10_clause_132 : decode cX10_clause 132 = .ok (.iload 7, 2) := by decide +kernel
theorem dX10_clause_134 : decode cX10_clause 134 = .ok (.aload_n 0, 1) := by decide +kernel
theorem dX10_clause_135 : decode cX10_clause 135 = .ok (.iload_n 1, 1) := by decide +kernel
theorem dX10_clause_136 : decode cX10_clause 136 = .ok (.iconst 1, 1) := by decide +kernel
theorem dX10_clause_137 : decode cX10_clause 137 = .ok (.isub, 1) := by decide +kernel
theorem dX10_clause_138 : decode cX10_clause 138 = .ok (.iconst 5, 1) := by decide +kernel
theorem dX10_clause_139 : decode cX10_clause 139 = .ok (.invokevirtual 138, 3) := by decide +kernel
theorem dX10_clause_142 : decode cX10_clause 142 = .ok (.isub, 1) := by decide +kernel
theorem dX10_clause_143 : decode cX10_clause 143 = .ok (.ireturn, 1) := by decide +kernel
theorem dX10_clause_144 : decode cX10_clause 144 = .ok (.iload 7, 2) := by decide +kernel
theorem dX10_clause_146 : decode cX10_clause 146 = .ok (.iload 6, 2) := by decide +kernel
theorem dX10_clause_148 : decode cX10_clause 148 = .ok (.isub, 1) := by decide +kernel
theorem dX10_clause_149 : decode cX10_clause 149 = .ok (.iconst 1, 1) := by decide +kernel
theorem dX10_clause_150 : decode cX10_clause 150 = .ok (.iadd, 1) := by decide +kernel
theorem dX10_clause_151 : decode cX10_clause 151 = .ok (.ireturn, 1) := by decide +kernel
theorem dX10_clause_152 : decode cX10_clause 152 = .ok (.aload_n 0, 1) := by decide +kernel
theorem dX10_clause_153 : decode cX10_clause 153 = .ok (.iload 6, 2) := by decide +kernel
theorem dX10_clause_155 : decode cX10_clause 155 = .ok (.iload 7, 2) := by decide +kernel
theorem dX10_clause_157 : decode cX10_clause 157 = .ok (.invokevirtual 434, 3) := by decide +kernel
theorem dX10_clause_160 : decode cX10_clause 160 = .ok (.ireturn, 1) := by decide +kernel
theorem dX10_clause_161 : decode cX10_clause 161 = .ok (.aload_n 0, 1) := by decide +kernel
theorem dX10_clause_162 : decode cX10_clause 162 = .ok (.iload 5, 2) := by decide +kernel
theorem dX10_clause_164 : decode cX10_clause 164 = .ok (.invokevirtual 408, 3) := by decide +kernel
theorem dX10_clause_167 : decode cX10_clause 167 = .ok (.ireturn, 1) := by decide +kernel
theorem dX10_clause_168 : decode cX10_clause 168 = .ok (.aload_n 0, 1) := by decide +kernel
theorem dX10_clause_169 : decode cX10_clause 169 = .ok (.iload_n 1, 1) := by decide +kernel
theorem dX10_clause_170 : decode cX10_clause 170 = .ok (.iconst 1, 1) := by decide +kernel
theorem dX10_clause_171 : decode cX10_clause 171 = .ok (.isub, 1) := by decide +kernel
theorem dX10_clause_172 : decode cX10_clause 172 = .ok (.iload 5, 2) := by decide +kernel
theorem dX10_clause_174 : decode cX10_clause 174 = .ok (.invokevirtual 437, 3) := by decide +kernel
theorem dX10_clause_177 : decode cX10_clause 177 = .ok (.ireturn, 1) := by decide +kernel
theorem dX10_firstOn_0 : decode cX10_firstOn 0 = .ok (.iload_n 1, 1) := by decide +kernel
theorem dX10_firstOn_1 : decode cX10_firstOn 1 = .ok (.aload_n 0, 1) := by decide +kernel
theorem dX10_firstOn_2 : decode cX10_firstOn 2 = .ok (.getfield 9, 3) := by decide +kernel
theorem dX10_firstOn_5 : decode cX10_firstOn 5 = .ok (.iconst 0, 1) := by decide +kernel
theorem dX10_firstOn_6 : decode cX10_firstOn 6 = .ok (.iaload, 1) := by decide +kernel
theorem dX10_firstOn_7 : decode cX10_firstOn 7 = .ok (.imul, 1) := by decide +kernel
theorem dX10_firstOn_8 : decode cX10_firstOn 8 = .ok (.ireturn, 1) := by decide +kernel
set_option maxRecDepth 100000 in
set_option maxHeartbeats 4000000 in
theorem cX10_withStatusc {l : Launch} {v0 : Option Nat} {v1 : Int32} {σ : HpT} {r : Int32} (h : fX10_withStatus v0 v1 σ = some r) : IsK σ v0 10 ∧ Ct l yX10_withStatus cX10_withStatus 4 (some .int) 1 21 [va_rf v0, .int v1] σ (.ok (some (.int r))) σ 0 0 := by
  unfold fX10_withStatus at h
  replace h := bnP_s h
  obtain ⟨u, hk, h⟩ := h
  replace hk := isK_s hk
  refine ⟨hk, ?_⟩
  refine ct_start mi_X10_withStatus.1 rfl (al_le (al_1 (rf_cat _) (al_1 rfl al_n)) (Nat.le_of_ble_eq_true rfl)) (ag_1 (rf_cat _) (ag_1 rfl ag_n)) (fun Δ Γ B hE hnm => ?_)
  refine g_iconst (v := 0) B dX10_withStatus_0 (by decide) ?_
  refine g_istore_n B dX10_withStatus_1 rfl (Nat.le_of_ble_eq_true rfl) (s1_c (f1_k rfl (f1_1 rfl rfl f1_n))) ?_
  refine g_iconst (v := 0) B dX10_withStatus_2 (by decide) ?_
  refine g_istore_n B dX10_withStatus_3 rfl (Nat.le_of_ble_eq_true rfl) (s1_c (f1_1 rfl rfl (f1_k rfl (f1_k rfl f1_n)))) ?_
  replace h := bnP_s h
  obtain ⟨r2, h3, h⟩ := h
  have kE4 : GW Δ Γ (0) (0) 38 [(2, .int r2)] [] σ := by
    refine g_iload_n B 0 dX10_withStatus_38 rfl rfl ?_
    replace h := Option.some.inj h
    subst h
    exact g_iret B hE (Nat.zero_le _) (Nat.zero_le _) dX10_withStatus_39
  clear h
  refine g_sub [2, 3, 1, 0] rfl ?_
  refine lpP_w (I := fun q1 => GW Δ Γ (0) (0) 4 [(0, va_rf v0), (1, .int v1), (2, .int q1.1), (3, .int q1.2)] [] σ) (r := r2) ?_ FUEL (0, 0) h3
  intro q1 x8 h hI6 hR7
  unfold fX10_withStatus_l1 at h
  refine g_iload_n B 3 dX10_withStatus_4 rfl rfl ?_
  refine g_aload_n B 0 dX10_withStatus_5 rfl rfl ?_
  replace h := bnP_s h
  obtain ⟨x10, h11, h⟩ := h
  refine g_callVs0 (st := [.int q1.2]) B (cX10_leavesc h11) (Nat.le_of_ble_eq_true rfl) rfl rfl mi_X10_leaves lk_RX10_231 ⟨Nat.le_of_ble_eq_true rfl, Nat.le_of_ble_eq_true rfl⟩ rfl rfl (Nat.le_of_ble_eq_true rfl) dX10_withStatus_6 (Nat.zero_le _) (Nat.zero_le _) ?_
  refine g_icmp_ge B 38 dX10_withStatus_9 (by decide) (fun hc => ?_) (fun hc => ?_)
  · replace h := ifp hc h
    replace h := Option.some.inj h
    subst h
    have e8 := hR7 _ rfl
    subst e8
    exact g_sub [2] rfl kE4
  · replace h := ifn hc h
    refine g_iload_n B 2 dX10_withStatus_12 rfl rfl ?_
    refine g_aload_n B 0 dX10_withStatus_13 rfl rfl ?_
    refine g_iload_n B 3 dX10_withStatus_14 rfl rfl ?_
    replace h := bnP_s h
    obtain ⟨x12, h13, h⟩ := h
    refine g_callVs0 (st := [.int q1.1]) B (cX10_statusOfc h13) (Nat.le_of_ble_eq_true rfl) rfl rfl mi_X10_statusOf lk_RX10_237 ⟨Nat.le_of_ble_eq_true rfl, Nat.le_of_ble_eq_true rfl⟩ rfl rfl (Nat.le_of_ble_eq_true rfl) dX10_withStatus_15 (Nat.zero_le _) (Nat.zero_le _) ?_
    refine g_iload_n B 1 dX10_withStatus_18 rfl rfl ?_
    replace h := bnP_s h
    obtain ⟨j14, h15, h⟩ := h
    have k17 : GW Δ Γ (0) (0) 27 [(0, va_rf v0), (1, .int v1), (3, .int q1.2)] [.int j14.2, .int j14.1] σ := by
      replace h := bnP_s h
      obtain ⟨x19, h20, h⟩ := h
      refine g_callSs0 (st := [.int j14.1]) B (cX10_onec h20) mi_X10_one lk_RX10_333 ⟨Nat.le_of_ble_eq_true rfl, Nat.le_of_ble_eq_true rfl⟩ rfl rfl (Nat.le_of_ble_eq_true rfl) dX10_withStatus_27 (Nat.zero_le _) (Nat.zero_le _) ?_
      refine g_iadd B dX10_withStatus_30 ?_
      refine g_istore_n B dX10_withStatus_31 rfl (Nat.le_of_ble_eq_true rfl) (s1_c (f1_k rfl (f1_1 rfl rfl (f1_k rfl f1_n)))) ?_
      refine g_iinc (v := (q1.2 + 1)) B 3 dX10_withStatus_32 rfl (by first | rfl | (congr 1; decide)) (Nat.le_of_ble_eq_true rfl) (s1_c (f1_1 rfl rfl (f1_k rfl (f1_k rfl (f1_x f1_n))))) ?_
      refine g_goto B 4 dX10_withStatus_35 (by decide) ?_
      replace h := Option.some.inj h
      subst h
      exact g_sub [2, 3, 1, 0] rfl (hI6 _ rfl)
    clear h
    have h := h15
    clear h15
    refine g_icmp_ne B 26 dX10_withStatus_19 (by decide) (fun hc => ?_) (fun hc => ?_)
    · replace h := ifn hc h
      refine g_iconst (v := 0) B dX10_withStatus_26 (by decide) ?_
      replace h := Option.some.inj h
      subst h
      exact g_sub [0, 1, 3] rfl k17
    · replace h := ifp hc h
      refine g_iconst (v := 1) B dX10_withStatus_22 (by decide) ?_
      refine g_goto B 27 dX10_withStatus_23 (by decide) ?_
      replace h := Option.some.inj h
      subst h
      exact g_sub [0, 1, 3] rfl k17
set_option maxRecDepth 100000 in
set_option maxHeartbeats 4000000 in
theorem cX10_unknownc {l : Launch} {v0 : Option Nat} {σ : HpT} {r : Int32} (h : fX10_unknown v0 σ = some r) : IsK σ v0 10 ∧ Ct l yX10_unknown cX10_unknown 3 (some .int) 7 154 [va_rf v0] σ (.ok (some (.int r))) σ 0 0 := by
  unfold fX10_unknown at h
  replace h := bnP_s h
  obtain ⟨u, hk, h⟩ := h
  replace hk := isK_s hk
  refine ⟨hk, ?_⟩
  refine ct_start mi_X10_unknown.1 rfl (al_le (al_1 (rf_cat _) al_n) (Nat.le_of_ble_eq_true rfl)) (ag_1 (rf_cat _) ag_n) (fun Δ Γ B hE hnm => ?_)
  refine g_iconst (v := 0) B dX10_unknown_0 (by decide) ?_
  refine g_istore_n B dX10_unknown_1 rfl (Nat.le_of_ble_eq_true rfl) (s1_c (f1_1 rfl (rf_cat _) f1_n)) ?_
  refine g_iconst (v := 0) B dX10_unknown_2 (by decide) ?_
  refine g_istore_n B dX10_unknown_3 rfl (Nat.le_of_ble_eq_true rfl) (s1_c (f1_1 rfl rfl (f1_k rfl f1_n))) ?_
  replace h := bnP_s h
  obtain ⟨r2, h3, h⟩ := h
  have kE4 : GW Δ Γ (0) (0) 39 [(1, .int r2)] [] σ := by
    refine g_iload_n B 0 dX10_unknown_39 rfl rfl ?_
    replace h := Option.some.inj h
    subst h
    exact g_iret B hE (Nat.zero_le _) (Nat.zero_le _) dX10_unknown_40
  clear h
  refine g_sub [2, 1, 0] rfl ?_
  refine lpP_w (I := fun q1 => GW Δ Γ (0) (0) 4 [(0, va_rf v0), (1, .int q1.1), (2, .int q1.2)] [] σ) (r := r2) ?_ FUEL (0, 0) h3
  intro q1 x8 h hI6 hR7
  unfold fX10_unknown_l1 at h
  refine g_iload_n B 2 dX10_unknown_4 rfl rfl ?_
  refine g_aload_n B 0 dX10_unknown_5 rfl rfl ?_
  replace h := bnP_s h
  obtain ⟨x10, h11, h⟩ := h
  refine g_getR B fl_RX10_9 (by decide) dX10_unknown_6 h11 ?_
  refine g_iconst (v := 4) B dX10_unknown_9 (by decide) ?_
  replace h := bnP_s h
  obtain ⟨x12, h13, h⟩ := h
  refine g_iald B dX10_unknown_10 h13 ?_
  refine g_icmp_ge B 39 dX10_unknown_11 (by decide) (fun hc => ?_) (fun hc => ?_)
  · replace h := ifp hc h
    replace h := Option.some.inj h
    subst h
    have e8 := hR7 _ rfl
    subst e8
    exact g_sub [1] rfl kE4
  · replace h := ifn hc h
    refine g_iload_n B 1 dX10_unknown_14 rfl rfl ?_
    refine g_aload_n B 0 dX10_unknown_15 rfl rfl ?_
    refine g_iload_n B 2 dX10_unknown_16 rfl rfl ?_
    replace h := bnP_s h
    obtain ⟨x14, h15, h⟩ := h
    refine g_callVs0 (st := [.int q1.1]) B (cX10_isKnownc h15) (Nat.le_of_ble_eq_true rfl) rfl rfl mi_X10_isKnown lk_RX10_374 ⟨Nat.le_of_ble_eq_true rfl, Nat.le_of_ble_eq_true rfl⟩ rfl rfl (Nat.le_of_ble_eq_true rfl) dX10_unknown_17 (Nat.zero_le _) (Nat.zero_le _) ?_
    replace h := bnP_s h
    obtain ⟨j16, h17, h⟩ := h
    have k19 : GW Δ Γ (0) (0) 28 [(0, va_rf v0), (2, .int q1.2)] [.int j16.2, .int j16.1] σ := by
      replace h := bnP_s h
      obtain ⟨x21, h22, h⟩ := h
      refine g_callSs0 (st := [.int j16.1]) B (cX10_onec h22) mi_X10_one lk_RX10_333 ⟨Nat.le_of_ble_eq_true rfl, Nat.le_of_ble_eq_true rfl⟩ rfl rfl (Nat.le_of_ble_eq_true rfl) dX10_unknown_28 (Nat.zero_le _) (Nat.zero_le _) ?_
      refine g_iadd B dX10_unknown_31 ?_
      refine g_istore_n B dX10_unknown_32 rfl (Nat.le_of_ble_eq_true rfl) (s1_c (f1_1 rfl (rf_cat _) (f1_k rfl f1_n))) ?_
      refine g_iinc (v := (q1.2 + 1)) B 2 dX10_unknown_33 rfl (by first | rfl | (congr 1; decide)) (Nat.le_of_ble_eq_true rfl) (s1_c (f1_1 rfl rfl (f1_k rfl (f1_x f1_n)))) ?_
      refine g_goto B 4 dX10_unknown_36 (by decide) ?_
      replace h := Option.some.inj h
      subst h
      exact g_sub [2, 1, 0] rfl (hI6 _ rfl)
    clear h
    have h := h17
    clear h17
    refine g_if_ne B 27 dX10_unknown_20 (by decide) (fun hc => ?_) (fun hc => ?_)
    · replace h := ifp (bI1 hc) h
      refine g_iconst (v := 0) B dX10_unknown_27 (by decide) ?_
      replace h := Option.some.inj h
      subst h
      exact g_sub [0, 2] rfl k19
    · replace h := ifn (bI0 hc) h
      refine g_iconst (v := 1) B dX10_unknown_23 (by decide) ?_
      refine g_goto B 28 dX10_unknown_24 (by decide) ?_
      replace h := Option.some.inj h
      subst h
      exact g_sub [0, 2] rfl k19
set_option maxRecDepth 100000 in
set_option maxHeartbeats 4000000 in
theorem cX10_wordsByc {l : Launch} {v0 : Option Nat} {v1 : Int32} {v2 : Int32} {σ : HpT} {r : Int32} (h : fX10_wordsBy v0 v1 v2 σ = some r) : IsK σ v0 10 ∧ Ct l yX10_wordsBy cX10_wordsBy 5 (some .int) 4 88 [va_rf v0, .int v1, .int v2] σ (.ok (some (.int r))) σ 0 0 := by
  unfold fX10_wordsBy at h
  replace h := bnP_s h
  obtain ⟨u, hk, h⟩ := h
  replace hk := isK_s hk
  refine ⟨hk, ?_⟩
  refine ct_start mi_X10_wordsBy.1 rfl (al_le (al_1 (rf_cat _) (al_1 rfl (al_1 rfl al_n))) (Nat.le_of_ble_eq_true rfl)) (ag_1 (rf_cat _) (ag_1 rfl (ag_1 rfl ag_n))) (fun Δ Γ B hE hnm => ?_)
  refine g_iconst (v := 0) B dX10_wordsBy_0 (by decide) ?_
  refine g_istore_n B dX10_wordsBy_1 rfl (Nat.le_of_ble_eq_true rfl) (s1_c (f1_k rfl (f1_k rfl (f1_1 rfl rfl f1_n)))) ?_
  refine g_aload_n B 1 dX10_wordsBy_2 rfl rfl ?_
  refine g_iload_n B 2 dX10_wordsBy_3 rfl rfl ?_
  refine g_iconst (v := 5) B dX10_wordsBy_4 (by decide) ?_
  replace h := bnP_s h
  obtain ⟨x1, h2, h⟩ := h
  refine g_callVs0 (st := []) B (cX10_ofActc h2) (Nat.le_of_ble_eq_true rfl) rfl rfl mi_X10_ofAct lk_RX10_138 ⟨Nat.le_of_ble_eq_true rfl, Nat.le_of_ble_eq_true rfl⟩ rfl rfl (Nat.le_of_ble_eq_true rfl) dX10_wordsBy_5 (Nat.zero_le _) (Nat.zero_le _) ?_
  refine g_istore B dX10_wordsBy_8 (Nat.le_of_ble_eq_true rfl) (s1_c (f1_1 rfl rfl (f1_k rfl (f1_k rfl (f1_k rfl f1_n))))) ?_
  replace h := bnP_s h
  obtain ⟨r4, h5, h⟩ := h
  have kE6 : GW Δ Γ (0) (0) 56 [(3, .int r4)] [] σ := by
    refine g_iload_n B 0 dX10_wordsBy_56 rfl rfl ?_
    replace h := Option.some.inj h
    subst h
    exact g_iret B hE (Nat.zero_le _) (Nat.zero_le _) dX10_wordsBy_57
  clear h
  refine g_sub [2, 3, 4, 1, 0] rfl ?_
  refine lpP_w (I := fun q3 => GW Δ Γ (0) (0) 10 [(0, va_rf v0), (1, .int v1), (2, .int v2), (3, .int q3.1), (4, .int q3.2)] [] σ) (r := r4) ?_ FUEL (0, x1) h5
  intro q3 x10 h hI8 hR9
  unfold fX10_wordsBy_l1 at h
  refine g_iload B 4 dX10_wordsBy_10 rfl ?_
  refine g_aload_n B 0 dX10_wordsBy_12 rfl rfl ?_
  refine g_iload_n B 1 dX10_wordsBy_13 rfl rfl ?_
  replace h := bnP_s h
  obtain ⟨x12, h13, h⟩ := h
  refine g_callVs0 (st := [.int q3.2]) B (cX10_lastOfc h13) (Nat.le_of_ble_eq_true rfl) rfl rfl mi_X10_lastOf lk_RX10_327 ⟨Nat.le_of_ble_eq_true rfl, Nat.le_of_ble_eq_true rfl⟩ rfl rfl (Nat.le_of_ble_eq_true rfl) dX10_wordsBy_14 (Nat.zero_le _) (Nat.zero_le _) ?_
  refine g_icmp_gt B 56 dX10_wordsBy_17 (by decide) (fun hc => ?_) (fun hc => ?_)
  · replace h := ifp hc h
    replace h := Option.some.inj h
    subst h
    have e8 := hR9 _ rfl
    subst e8
    exact g_sub [3] rfl kE6
  · replace h := ifn hc h
    refine g_iload_n B 3 dX10_wordsBy_20 rfl rfl ?_
    refine g_aload_n B 0 dX10_wordsBy_21 rfl rfl ?_
    refine g_iload_n B 1 dX10_wordsBy_22 rfl rfl ?_
    refine g_iload_n B 2 dX10_wordsBy_23 rfl rfl ?_
    refine g_iload B 4 dX10_wordsBy_24 rfl ?_
    replace h := bnP_s h
    obtain ⟨x14, h15, h⟩ := h
    refine g_callVs0 (st := [.int q3.1]) B (cX10_hasByc h15) (Nat.le_of_ble_eq_true rfl) rfl rfl mi_X10_hasBy lk_RX10_361 ⟨Nat.le_of_ble_eq_true rfl, Nat.le_of_ble_eq_true rfl⟩ rfl rfl (Nat.le_of_ble_eq_true rfl) dX10_wordsBy_26 (Nat.zero_le _) (Nat.zero_le _) ?_
    replace h := bnP_s h
    obtain ⟨x16, h17, h⟩ := h
    refine g_callSs0 (st := [.int q3.1]) B (cX10_onec h17) mi_X10_one lk_RX10_333 ⟨Nat.le_of_ble_eq_true rfl, Nat.le_of_ble_eq_true rfl⟩ rfl rfl (Nat.le_of_ble_eq_true rfl) dX10_wordsBy_29 (Nat.zero_le _) (Nat.zero_le _) ?_
    refine g_iload_n B 2 dX10_wordsBy_32 rfl rfl ?_
    refine g_if_ne B 46 dX10_wordsBy_33 (by decide) (fun hc => ?_) (fun hc => ?_)
    · replace h := ifn hc h
      refine g_iconst (v := 0) B dX10_wordsBy_46 (by decide) ?_
      refine g_iadd B dX10_wordsBy_47 ?_
      refine g_iadd B dX10_wordsBy_48 ?_
      refine g_istore_n B dX10_wordsBy_49 rfl (Nat.le_of_ble_eq_true rfl) (s1_c (f1_k rfl (f1_k rfl (f1_1 rfl rfl (f1_x (f1_k rfl f1_n)))))) ?_
      refine g_iinc (v := (q3.2 + 1)) B 4 dX10_wordsBy_50 rfl (by first | rfl | (congr 1; decide)) (Nat.le_of_ble_eq_true rfl) (s1_c (f1_1 rfl rfl (f1_k rfl (f1_k rfl (f1_k rfl (f1_x f1_n)))))) ?_
      refine g_goto B 10 dX10_wordsBy_53 (by decide) ?_
      replace h := Option.some.inj h
      subst h
      exact g_sub [2, 3, 4, 1, 0] rfl (hI8 _ rfl)
    · replace h := ifp hc h
      refine g_aload_n B 0 dX10_wordsBy_36 rfl rfl ?_
      refine g_iload B 4 dX10_wordsBy_37 rfl ?_
      refine g_iconst (v := 4) B dX10_wordsBy_39 (by decide) ?_
      replace h := bnP_s h
      obtain ⟨x18, h19, h⟩ := h
      refine g_callVs0 (st := [.int x16, .int q3.1]) B (cX10_ofWordc h19) (Nat.le_of_ble_eq_true rfl) rfl rfl mi_X10_ofWord lk_RX10_209 ⟨Nat.le_of_ble_eq_true rfl, Nat.le_of_ble_eq_true rfl⟩ rfl rfl (Nat.le_of_ble_eq_true rfl) dX10_wordsBy_40 (Nat.zero_le _) (Nat.zero_le _) ?_
      refine g_goto B 47 dX10_wordsBy_43 (by decide) ?_
      refine g_iadd B dX10_wordsBy_47 ?_
      refine g_iadd B dX10_wordsBy_48 ?_
      refine g_istore_n B dX10_wordsBy_49 rfl (Nat.le_of_ble_eq_true rfl) (s1_c (f1_k rfl (f1_k rfl (f1_1 rfl rfl (f1_x (f1_k rfl f1_n)))))) ?_
      refine g_iinc (v := (q3.2 + 1)) B 4 dX10_wordsBy_50 rfl (by first | rfl | (congr 1; decide)) (Nat.le_of_ble_eq_true rfl) (s1_c (f1_1 rfl rfl (f1_k rfl (f1_k rfl (f1_k rfl (f1_x f1_n)))))) ?_
      refine g_goto B 10 dX10_wordsBy_53 (by decide) ?_
      replace h := Option.some.inj h
      subst h
      exact g_sub [2, 3, 4, 1, 0] rfl (hI8 _ rfl)
set_option maxRecDepth 100000 in
set_option maxHeartbeats 4000000 in
theorem cX10_ofAllActsc {l : Launch} {v0 : Option Nat} {v1 : Int32} {σ : HpT} {r : Int32} (h : fX10_ofAllActs v0 v1 σ = some r) : IsK σ v0 10 ∧ Ct l yX10_ofAllActs cX10_ofAllActs 4 (some .int) 1 22 [va_rf v0, .int v1] σ (.ok (some (.int r))) σ 0 0 := by
  unfold fX10_ofAllActs at h
  replace h := bnP_s h
  obtain ⟨u, hk, h⟩ := h
  replace hk := isK_s hk
  refine ⟨hk, ?_⟩
  refine ct_start mi_X10_ofAllActs.1 rfl (al_le (al_1 (rf_cat _) (al_1 rfl al_n)) (Nat.le_of_ble_eq_true rfl)) (ag_1 (rf_cat _) (ag_1 rfl ag_n)) (fun Δ Γ B hE hnm => ?_)
  refine g_iconst (v := 0) B dX10_ofAllActs_0 (by decide) ?_
  refine g_istore_n B dX10_ofAllActs_1 rfl (Nat.le_of_ble_eq_true rfl) (s1_c (f1_k rfl (f1_1 rfl rfl f1_n))) ?_
  refine g_iconst (v := 0) B dX10_ofAllActs_2 (by decide) ?_
  refine g_istore_n B dX10_ofAllActs_3 rfl (Nat.le_of_ble_eq_true rfl) (s1_c (f1_1 rfl rfl (f1_k rfl (f1_k rfl f1_n)))) ?_
  replace h := bnP_s h
  obtain ⟨r2, h3, h⟩ := h
  have kE4 : GW Δ Γ (0) (0) 29 [(2, .int r2)] [] σ := by
    refine g_iload_n B 0 dX10_ofAllActs_29 rfl rfl ?_
    replace h := Option.some.inj h
    subst h
    exact g_iret B hE (Nat.zero_le _) (Nat.zero_le _) dX10_ofAllActs_30
  clear h
  refine g_sub [2, 3, 1, 0] rfl ?_
  refine lpP_w (I := fun q1 => GW Δ Γ (0) (0) 4 [(0, va_rf v0), (1, .int v1), (2, .int q1.1), (3, .int q1.2)] [] σ) (r := r2) ?_ FUEL (0, 0) h3
  intro q1 x8 h hI6 hR7
  unfold fX10_ofAllActs_l1 at h
  refine g_iload_n B 3 dX10_ofAllActs_4 rfl rfl ?_
  refine g_aload_n B 0 dX10_ofAllActs_5 rfl rfl ?_
  replace h := bnP_s h
  obtain ⟨x10, h11, h⟩ := h
  refine g_getR B fl_RX10_9 (by decide) dX10_ofAllActs_6 h11 ?_
  refine g_iconst (v := 3) B dX10_ofAllActs_9 (by decide) ?_
  replace h := bnP_s h
  obtain ⟨x12, h13, h⟩ := h
  refine g_iald B dX10_ofAllActs_10 h13 ?_
  refine g_icmp_ge B 29 dX10_ofAllActs_11 (by decide) (fun hc => ?_) (fun hc => ?_)
  · replace h := ifp hc h
    replace h := Option.some.inj h
    subst h
    have e8 := hR7 _ rfl
    subst e8
    exact g_sub [2] rfl kE4
  · replace h := ifn hc h
    refine g_iload_n B 2 dX10_ofAllActs_14 rfl rfl ?_
    refine g_aload_n B 0 dX10_ofAllActs_15 rfl rfl ?_
    refine g_iload_n B 3 dX10_ofAllActs_16 rfl rfl ?_
    refine g_iload_n B 1 dX10_ofAllActs_17 rfl rfl ?_
    replace h := bnP_s h
    obtain ⟨x14, h15, h⟩ := h
    refine g_callVs0 (st := [.int q1.1]) B (cX10_ofActc h15) (Nat.le_of_ble_eq_true rfl) rfl rfl mi_X10_ofAct lk_RX10_138 ⟨Nat.le_of_ble_eq_true rfl, Nat.le_of_ble_eq_true rfl⟩ rfl rfl (Nat.le_of_ble_eq_true rfl) dX10_ofAllActs_18 (Nat.zero_le _) (Nat.zero_le _) ?_
    refine g_iadd B dX10_ofAllActs_21 ?_
    refine g_istore_n B dX10_ofAllActs_22 rfl (Nat.le_of_ble_eq_true rfl) (s1_c (f1_k rfl (f1_1 rfl rfl (f1_x (f1_k rfl f1_n))))) ?_
    refine g_iinc (v := (q1.2 + 1)) B 3 dX10_ofAllActs_23 rfl (by first | rfl | (congr 1; decide)) (Nat.le_of_ble_eq_true rfl) (s1_c (f1_1 rfl rfl (f1_k rfl (f1_k rfl (f1_x f1_n))))) ?_
    refine g_goto B 4 dX10_ofAllActs_26 (by decide) ?_
    replace h := Option.some.inj h
    subst h
    exact g_sub [2, 3, 1, 0] rfl (hI6 _ rfl)
set_option maxRecDepth 100000 in
set_option maxHeartbeats 4000000 in
theorem cX10_standingAllc {l : Launch} {v0 : Option Nat} {v1 : Int32} {σ : HpT} {r : Int32} (h : fX10_standingAll v0 v1 σ = some r) : IsK σ v0 10 ∧ Ct l yX10_standingAll cX10_standingAll 4 (some .int) 3 66 [va_rf v0, .int v1] σ (.ok (some (.int r))) σ 0 0 := by
  unfold fX10_standingAll at h
  replace h := bnP_s h
  obtain ⟨u, hk, h⟩ := h
  replace hk := isK_s hk
  refine ⟨hk, ?_⟩
  refine ct_start mi_X10_standingAll.1 rfl (al_le (al_1 (rf_cat _) (al_1 rfl al_n)) (Nat.le_of_ble_eq_true rfl)) (ag_1 (rf_cat _) (ag_1 rfl ag_n)) (fun Δ Γ B hE hnm => ?_)
  refine g_iconst (v := 0) B dX10_standingAll_0 (by decide) ?_
  refine g_istore_n B dX10_standingAll_1 rfl (Nat.le_of_ble_eq_true rfl) (s1_c (f1_k rfl (f1_1 rfl rfl f1_n))) ?_
  refine g_iconst (v := 0) B dX10_standingAll_2 (by decide) ?_
  refine g_istore_n B dX10_standingAll_3 rfl (Nat.le_of_ble_eq_true rfl) (s1_c (f1_1 rfl rfl (f1_k rfl (f1_k rfl f1_n)))) ?_
  replace h := bnP_s h
  obtain ⟨r2, h3, h⟩ := h
  have kE4 : GW Δ Γ (0) (0) 46 [(2, .int r2)] [] σ := by
    refine g_iload_n B 0 dX10_standingAll_46 rfl rfl ?_
    replace h := Option.some.inj h
    subst h
    exact g_iret B hE (Nat.zero_le _) (Nat.zero_le _) dX10_standingAll_47
  clear h
  refine g_sub [2, 3, 1, 0] rfl ?_
  refine lpP_w (I := fun q1 => GW Δ Γ (0) (0) 4 [(0, va_rf v0), (1, .int v1), (2, .int q1.1), (3, .int q1.2)] [] σ) (r := r2) ?_ FUEL (0, 0) h3
  intro q1 x8 h hI6 hR7
  unfold fX10_standingAll_l1 at h
  refine g_iload_n B 3 dX10_standingAll_4 rfl rfl ?_
  refine g_aload_n B 0 dX10_standingAll_5 rfl rfl ?_
  replace h := bnP_s h
  obtain ⟨x10, h11, h⟩ := h
  refine g_getR B fl_RX10_9 (by decide) dX10_standingAll_6 h11 ?_
  refine g_iconst (v := 3) B dX10_standingAll_9 (by decide) ?_
  replace h := bnP_s h
  obtain ⟨x12, h13, h⟩ := h
  refine g_iald B dX10_standingAll_10 h13 ?_
  refine g_icmp_ge B 46 dX10_standingAll_11 (by decide) (fun hc => ?_) (fun hc => ?_)
  · replace h := ifp hc h
    replace h := Option.some.inj h
    subst h
    have e8 := hR7 _ rfl
    subst e8
    exact g_sub [2] rfl kE4
  · replace h := ifn hc h
    refine g_iload_n B 2 dX10_standingAll_14 rfl rfl ?_
    refine g_iload_n B 1 dX10_standingAll_15 rfl rfl ?_
    refine g_if_eq B 29 dX10_standingAll_16 (by decide) (fun hc => ?_) (fun hc => ?_)
    · replace h := ifp hc h
      refine g_aload_n B 0 dX10_standingAll_29 rfl rfl ?_
      refine g_iload_n B 3 dX10_standingAll_30 rfl rfl ?_
      replace h := bnP_s h
      obtain ⟨x14, h15, h⟩ := h
      refine g_callVs0 (st := [.int q1.1]) B (cX10_standingc h15) (Nat.le_of_ble_eq_true rfl) rfl rfl mi_X10_standing lk_RX10_343 ⟨Nat.le_of_ble_eq_true rfl, Nat.le_of_ble_eq_true rfl⟩ rfl rfl (Nat.le_of_ble_eq_true rfl) dX10_standingAll_31 (Nat.zero_le _) (Nat.zero_le _) ?_
      refine g_goto B 38 dX10_standingAll_34 (by decide) ?_
      refine g_iadd B dX10_standingAll_38 ?_
      refine g_istore_n B dX10_standingAll_39 rfl (Nat.le_of_ble_eq_true rfl) (s1_c (f1_k rfl (f1_1 rfl rfl (f1_x (f1_k rfl f1_n))))) ?_
      refine g_iinc (v := (q1.2 + 1)) B 3 dX10_standingAll_40 rfl (by first | rfl | (congr 1; decide)) (Nat.le_of_ble_eq_true rfl) (s1_c (f1_1 rfl rfl (f1_k rfl (f1_k rfl (f1_x f1_n))))) ?_
      refine g_goto B 4 dX10_standingAll_43 (by decide) ?_
      replace h := Option.some.inj h
      subst h
      exact g_sub [2, 3, 1, 0] rfl (hI6 _ rfl)
    · replace h := ifn hc h
      refine g_aload_n B 0 dX10_standingAll_19 rfl rfl ?_
      refine g_iload_n B 3 dX10_standingAll_20 rfl rfl ?_
      refine g_iconst (v := 1) B dX10_standingAll_21 (by decide) ?_
      replace h := bnP_s h
      obtain ⟨x16, h17, h⟩ := h
      refine g_callVs0 (st := [.int q1.1]) B (cX10_ofActc h17) (Nat.le_of_ble_eq_true rfl) rfl rfl mi_X10_ofAct lk_RX10_138 ⟨Nat.le_of_ble_eq_true rfl, Nat.le_of_ble_eq_true rfl⟩ rfl rfl (Nat.le_of_ble_eq_true rfl) dX10_standingAll_22 (Nat.zero_le _) (Nat.zero_le _) ?_
      refine g_iconst (v := 1) B dX10_standingAll_25 (by decide) ?_
      refine g_icmp_ne B 37 dX10_standingAll_26 (by decide) (fun hc => ?_) (fun hc => ?_)
      · replace h := ifn hc h
        refine g_iconst (v := 0) B dX10_standingAll_37 (by decide) ?_
        refine g_iadd B dX10_standingAll_38 ?_
        refine g_istore_n B dX10_standingAll_39 rfl (Nat.le_of_ble_eq_true rfl) (s1_c (f1_k rfl (f1_1 rfl rfl (f1_x (f1_k rfl f1_n))))) ?_
        refine g_iinc (v := (q1.2 + 1)) B 3 dX10_standingAll_40 rfl (by first | rfl | (congr 1; decide)) (Nat.le_of_ble_eq_true rfl) (s1_c (f1_1 rfl rfl (f1_k rfl (f1_k rfl (f1_x f1_n))))) ?_
        refine g_goto B 4 dX10_standingAll_43 (by decide) ?_
        replace h := Option.some.inj h
        subst h
        exact g_sub [2, 3, 1, 0] rfl (hI6 _ rfl)
      · replace h := ifp hc h
        refine g_aload_n B 0 dX10_standingAll_29 rfl rfl ?_
        refine g_iload_n B 3 dX10_standingAll_30 rfl rfl ?_
        replace h := bnP_s h
        obtain ⟨x18, h19, h⟩ := h
        refine g_callVs0 (st := [.int q1.1]) B (cX10_standingc h19) (Nat.le_of_ble_eq_true rfl) rfl rfl mi_X10_standing lk_RX10_343 ⟨Nat.le_of_ble_eq_true rfl, Nat.le_of_ble_eq_true rfl⟩ rfl rfl (Nat.le_of_ble_eq_true rfl) dX10_standingAll_31 (Nat.zero_le _) (Nat.zero_le _) ?_
        refine g_goto B 38 dX10_standingAll_34 (by decide) ?_
        refine g_iadd B dX10_standingAll_38 ?_
        refine g_istore_n B dX10_standingAll_39 rfl (Nat.le_of_ble_eq_true rfl) (s1_c (f1_k rfl (f1_1 rfl rfl (f1_x (f1_k rfl f1_n))))) ?_
        refine g_iinc (v := (q1.2 + 1)) B 3 dX10_standingAll_40 rfl (by first | rfl | (congr 1; decide)) (Nat.le_of_ble_eq_true rfl) (s1_c (f1_1 rfl rfl (f1_k rfl (f1_k rfl (f1_x f1_n))))) ?_
        refine g_goto B 4 dX10_standingAll_43 (by decide) ?_
        replace h := Option.some.inj h
        subst h
        exact g_sub [2, 3, 1, 0] rfl (hI6 _ rfl)
set_option maxRecDepth 100000 in
set_option maxHeartbeats 4000000 in
theorem cX10_actsWithc {l : Launch} {v0 : Option Nat} {v1 : Int32} {σ : HpT} {r : Int32} (h : fX10_actsWith v0 v1 σ = some r) : IsK σ v0 10 ∧ Ct l yX10_actsWith cX10_actsWith 4 (some .int) 1 22 [va_rf v0, .int v1] σ (.ok (some (.int r))) σ 0 0 := by
  unfold fX10_actsWith at h
  replace h := bnP_s h
  obtain ⟨u, hk, h⟩ := h
  replace hk := isK_s hk
  refine ⟨hk, ?_⟩
  refine ct_start mi_X10_actsWith.1 rfl (al_le (al_1 (rf_cat _) (al_1 rfl al_n)) (Nat.le_of_ble_eq_true rfl)) (ag_1 (rf_cat _) (ag_1 rfl ag_n)) (fun Δ Γ B hE hnm => ?_)
  refine g_iconst (v := 0) B dX10_actsWith_0 (by decide) ?_
  refine g_istore_n B dX10_actsWith_1 rfl (Nat.le_of_ble_eq_true rfl) (s1_c (f1_k rfl (f1_1 rfl rfl f1_n))) ?_
  refine g_iconst (v := 0) B dX10_actsWith_2 (by decide) ?_
  refine g_istore_n B dX10_actsWith_3 rfl (Nat.le_of_ble_eq_true rfl) (s1_c (f1_1 rfl rfl (f1_k rfl (f1_k rfl f1_n)))) ?_
  replace h := bnP_s h
  obtain ⟨r2, h3, h⟩ := h
  have kE4 : GW Δ Γ (0) (0) 41 [(2, .int r2)] [] σ := by
    refine g_iload_n B 0 dX10_actsWith_41 rfl rfl ?_
    replace h := Option.some.inj h
    subst h
    exact g_iret B hE (Nat.zero_le _) (Nat.zero_le _) dX10_actsWith_42
  clear h
  refine g_sub [2, 3, 1, 0] rfl ?_
  refine lpP_w (I := fun q1 => GW Δ Γ (0) (0) 4 [(0, va_rf v0), (1, .int v1), (2, .int q1.1), (3, .int q1.2)] [] σ) (r := r2) ?_ FUEL (0, 0) h3
  intro q1 x8 h hI6 hR7
  unfold fX10_actsWith_l1 at h
  refine g_iload_n B 3 dX10_actsWith_4 rfl rfl ?_
  refine g_aload_n B 0 dX10_actsWith_5 rfl rfl ?_
  replace h := bnP_s h
  obtain ⟨x10, h11, h⟩ := h
  refine g_getR B fl_RX10_9 (by decide) dX10_actsWith_6 h11 ?_
  refine g_iconst (v := 3) B dX10_actsWith_9 (by decide) ?_
  replace h := bnP_s h
  obtain ⟨x12, h13, h⟩ := h
  refine g_iald B dX10_actsWith_10 h13 ?_
  refine g_icmp_ge B 41 dX10_actsWith_11 (by decide) (fun hc => ?_) (fun hc => ?_)
  · replace h := ifp hc h
    replace h := Option.some.inj h
    subst h
    have e8 := hR7 _ rfl
    subst e8
    exact g_sub [2] rfl kE4
  · replace h := ifn hc h
    refine g_iload_n B 2 dX10_actsWith_14 rfl rfl ?_
    refine g_aload_n B 0 dX10_actsWith_15 rfl rfl ?_
    refine g_iload_n B 3 dX10_actsWith_16 rfl rfl ?_
    refine g_iconst (v := 1) B dX10_actsWith_17 (by decide) ?_
    replace h := bnP_s h
    obtain ⟨x14, h15, h⟩ := h
    refine g_callVs0 (st := [.int q1.1]) B (cX10_ofActc h15) (Nat.le_of_ble_eq_true rfl) rfl rfl mi_X10_ofAct lk_RX10_138 ⟨Nat.le_of_ble_eq_true rfl, Nat.le_of_ble_eq_true rfl⟩ rfl rfl (Nat.le_of_ble_eq_true rfl) dX10_actsWith_18 (Nat.zero_le _) (Nat.zero_le _) ?_
    refine g_iload_n B 1 dX10_actsWith_21 rfl rfl ?_
    replace h := bnP_s h
    obtain ⟨j16, h17, h⟩ := h
    have k19 : GW Δ Γ (0) (0) 30 [(0, va_rf v0), (1, .int v1), (3, .int q1.2)] [.int j16.2, .int j16.1] σ := by
      replace h := bnP_s h
      obtain ⟨x21, h22, h⟩ := h
      refine g_callSs0 (st := [.int j16.1]) B (cX10_onec h22) mi_X10_one lk_RX10_333 ⟨Nat.le_of_ble_eq_true rfl, Nat.le_of_ble_eq_true rfl⟩ rfl rfl (Nat.le_of_ble_eq_true rfl) dX10_actsWith_30 (Nat.zero_le _) (Nat.zero_le _) ?_
      refine g_iadd B dX10_actsWith_33 ?_
      refine g_istore_n B dX10_actsWith_34 rfl (Nat.le_of_ble_eq_true rfl) (s1_c (f1_k rfl (f1_1 rfl rfl (f1_k rfl f1_n)))) ?_
      refine g_iinc (v := (q1.2 + 1)) B 3 dX10_actsWith_35 rfl (by first | rfl | (congr 1; decide)) (Nat.le_of_ble_eq_true rfl) (s1_c (f1_1 rfl rfl (f1_k rfl (f1_k rfl (f1_x f1_n))))) ?_
      refine g_goto B 4 dX10_actsWith_38 (by decide) ?_
      replace h := Option.some.inj h
      subst h
      exact g_sub [2, 3, 1, 0] rfl (hI6 _ rfl)
    clear h
    have h := h17
    clear h17
    refine g_icmp_ne B 29 dX10_actsWith_22 (by decide) (fun hc => ?_) (fun hc => ?_)
    · replace h := ifn hc h
      refine g_iconst (v := 0) B dX10_actsWith_29 (by decide) ?_
      replace h := Option.some.inj h
      subst h
      exact g_sub [0, 1, 3] rfl k19
    · replace h := ifp hc h
      refine g_iconst (v := 1) B dX10_actsWith_25 (by decide) ?_
      refine g_goto B 30 dX10_actsWith_26 (by decide) ?_
      replace h := Option.some.inj h
      subst h
      exact g_sub [0, 1, 3] rfl k19
set_option maxRecDepth 100000 in
set_option maxHeartbeats 4000000 in
theorem cX10_countc {l : Launch} {v0 : Option Nat} {v1 : Int32} {σ : HpT} {r : Int32} {σ' : HpT} (h : fX10_count v0 v1 σ = some (r, σ')) : IsK σ v0 10 ∧ Ct l yX10_count cX10_count 2 (some .int) 8 176 [va_rf v0, .int v1] σ (.ok (some (.int r))) σ' 0 0 := by
  unfold fX10_count at h
  replace h := bnP_s h
  obtain ⟨u, hk, h⟩ := h
  replace hk := isK_s hk
  refine ⟨hk, ?_⟩
  refine ct_start mi_X10_count.1 rfl (al_le (al_1 (rf_cat _) (al_1 rfl al_n)) (Nat.le_of_ble_eq_true rfl)) (ag_1 (rf_cat _) (ag_1 rfl ag_n)) (fun Δ Γ B hE hnm => ?_)
  refine g_aload_n B 0 dX10_count_0 rfl rfl ?_
  refine g_aload_n B 0 dX10_count_1 rfl rfl ?_
  replace h := bnP_s h
  obtain ⟨x1, h2, h⟩ := h
  refine g_getI B fl_RX10_48 (by decide) dX10_count_2 h2 ?_
  refine g_iload_n B 1 dX10_count_5 rfl rfl ?_
  refine g_iconst (v := 0) B dX10_count_6 (by decide) ?_
  refine g_bipush (v := 15) B dX10_count_7 (by decide) ?_
  replace h := bnP_s h
  obtain ⟨x3, h4, h⟩ := h
  refine g_callSs0 (st := [.int x1, va_rf v0]) B (cX10_inc h4) mi_X10_in lk_RX10_69 ⟨Nat.le_of_ble_eq_true rfl, Nat.le_of_ble_eq_true rfl⟩ rfl rfl (Nat.le_of_ble_eq_true rfl) dX10_count_9 (Nat.zero_le _) (Nat.zero_le _) ?_
  replace h := bnS_s h
  obtain ⟨x5, s7, h6, h⟩ := h
  refine g_callVs0 (st := []) B (cX10_mayTwoc h6) (Nat.le_of_ble_eq_true rfl) rfl rfl mi_X10_mayTwo lk_RX10_380 ⟨Nat.le_of_ble_eq_true rfl, Nat.le_of_ble_eq_true rfl⟩ rfl rfl (Nat.le_of_ble_eq_true rfl) dX10_count_12 (Nat.zero_le _) (Nat.zero_le _) ?_
  refine g_if_ne B 20 dX10_count_15 (by decide) (fun hc => ?_) (fun hc => ?_)
  · replace h := ifp (bI1 hc) h
    refine g_iload_n B 1 dX10_count_20 rfl rfl ?_
    by_cases n0 : v1 = 0
    · replace h := ifp n0 h
      rw [n0]
      refine g_tableIn B 96 dX10_count_21 (by decide) (by decide) rfl (by decide) ?_
      refine g_aload_n B 0 dX10_count_96 rfl rfl ?_
      replace h := bnP_s h
      obtain ⟨x10, h11, h⟩ := h
      refine g_getR B fl_RX10_9 (by decide) dX10_count_97 h11 ?_
      refine g_iconst (v := 0) B dX10_count_100 (by decide) ?_
      replace h := bnP_s h
      obtain ⟨x12, h13, h⟩ := h
      refine g_iald B dX10_count_101 h13 ?_
      obtain ⟨w1, w2⟩ := inS h
      clear h
      subst w1
      subst w2
      exact g_iret B hE (Nat.zero_le _) (Nat.zero_le _) dX10_count_102
    replace h := ifn n0 h
    by_cases n1 : v1 = 1
    · replace h := ifp n1 h
      rw [n1]
      refine g_tableIn B 103 dX10_count_21 (by decide) (by decide) rfl (by decide) ?_
      refine g_aload_n B 0 dX10_count_103 rfl rfl ?_
      replace h := bnP_s h
      obtain ⟨x14, h15, h⟩ := h
      refine g_getR B fl_RX10_9 (by decide) dX10_count_104 h15 ?_
      refine g_iconst (v := 1) B dX10_count_107 (by decide) ?_
      replace h := bnP_s h
      obtain ⟨x16, h17, h⟩ := h
      refine g_iald B dX10_count_108 h17 ?_
      obtain ⟨w1, w2⟩ := inS h
      clear h
      subst w1
      subst w2
      exact g_iret B hE (Nat.zero_le _) (Nat.zero_le _) dX10_count_109
    replace h := ifn n1 h
    by_cases n2 : v1 = 2
    · replace h := ifp n2 h
      rw [n2]
      refine g_tableIn B 110 dX10_count_21 (by decide) (by decide) rfl (by decide) ?_
      refine g_aload_n B 0 dX10_count_110 rfl rfl ?_
      replace h := bnP_s h
      obtain ⟨x18, h19, h⟩ := h
      refine g_getR B fl_RX10_9 (by decide) dX10_count_111 h19 ?_
      refine g_iconst (v := 2) B dX10_count_114 (by decide) ?_
      replace h := bnP_s h
      obtain ⟨x20, h21, h⟩ := h
      refine g_iald B dX10_count_115 h21 ?_
      obtain ⟨w1, w2⟩ := inS h
      clear h
      subst w1
      subst w2
      exact g_iret B hE (Nat.zero_le _) (Nat.zero_le _) dX10_count_116
    replace h := ifn n2 h
    by_cases n3 : v1 = 3
    · replace h := ifp n3 h
      rw [n3]
      refine g_tableIn B 117 dX10_count_21 (by decide) (by decide) rfl (by decide) ?_
      refine g_aload_n B 0 dX10_count_117 rfl rfl ?_
      replace h := bnP_s h
      obtain ⟨x22, h23, h⟩ := h
      refine g_getR B fl_RX10_9 (by decide) dX10_count_118 h23 ?_
      refine g_iconst (v := 3) B dX10_count_121 (by decide) ?_
      replace h := bnP_s h
      obtain ⟨x24, h25, h⟩ := h
      refine g_iald B dX10_count_122 h25 ?_
      obtain ⟨w1, w2⟩ := inS h
      clear h
      subst w1
      subst w2
      exact g_iret B hE (Nat.zero_le _) (Nat.zero_le _) dX10_count_123
    replace h := ifn n3 h
    by_cases n4 : v1 = 4
    · replace h := ifp n4 h
      rw [n4]
      refine g_tableIn B 124 dX10_count_21 (by decide) (by decide) rfl (by decide) ?_
      refine g_aload_n B 0 dX10_count_124 rfl rfl ?_
      replace h := bnP_s h
      obtain ⟨x26, h27, h⟩ := h
      refine g_getR B fl_RX10_9 (by decide) dX10_count_125 h27 ?_
      refine g_iconst (v := 4) B dX10_count_128 (by decide) ?_
      replace h := bnP_s h
      obtain ⟨x28, h29, h⟩ := h
      refine g_iald B dX10_count_129 h29 ?_
      obtain ⟨w1, w2⟩ := inS h
      clear h
      subst w1
      subst w2
      exact g_iret B hE (Nat.zero_le _) (Nat.zero_le _) dX10_count_130
    replace h := ifn n4 h
    by_cases n5 : v1 = 5
    · replace h := ifp n5 h
      rw [n5]
      refine g_tableIn B 131 dX10_count_21 (by decide) (by decide) rfl (by decide) ?_
      refine g_aload_n B 0 dX10_count_131 rfl rfl ?_
      replace h := bnP_s h
      obtain ⟨x30, h31, h⟩ := h
      refine g_callVs0 (st := []) B (cX10_leavesc h31) (Nat.le_of_ble_eq_true rfl) rfl rfl mi_X10_leaves lk_RX10_231 ⟨Nat.le_of_ble_eq_true rfl, Nat.le_of_ble_eq_true rfl⟩ rfl rfl (Nat.le_of_ble_eq_true rfl) dX10_count_132 (Nat.zero_le _) (Nat.zero_le _) ?_
      obtain ⟨w1, w2⟩ := inS h
      clear h
      subst w1
      subst w2
      exact g_iret B hE (Nat.zero_le _) (Nat.zero_le _) dX10_count_135
    replace h := ifn n5 h
    by_cases n6 : v1 = 6
    · replace h := ifp n6 h
      rw [n6]
      refine g_tableIn B 136 dX10_count_21 (by decide) (by decide) rfl (by decide) ?_
      refine g_aload_n B 0 dX10_count_136 rfl rfl ?_
      refine g_iconst (v := 2) B dX10_count_137 (by decide) ?_
      replace h := bnP_s h
      obtain ⟨x32, h33, h⟩ := h
      refine g_callVs0 (st := []) B (cX10_withStatusc h33) (Nat.le_of_ble_eq_true rfl) rfl rfl mi_X10_withStatus lk_RX10_384 ⟨Nat.le_of_ble_eq_true rfl, Nat.le_of_ble_eq_true rfl⟩ rfl rfl (Nat.le_of_ble_eq_true rfl) dX10_count_138 (Nat.zero_le _) (Nat.zero_le _) ?_
      obtain ⟨w1, w2⟩ := inS h
      clear h
      subst w1
      subst w2
      exact g_iret B hE (Nat.zero_le _) (Nat.zero_le _) dX10_count_141
    replace h := ifn n6 h
    by_cases n7 : v1 = 7
    · replace h := ifp n7 h
      rw [n7]
      refine g_tableIn B 142 dX10_count_21 (by decide) (by decide) rfl (by decide) ?_
      refine g_aload_n B 0 dX10_count_142 rfl rfl ?_
      refine g_iconst (v := 1) B dX10_count_143 (by decide) ?_
      replace h := bnP_s h
      obtain ⟨x34, h35, h⟩ := h
      refine g_callVs0 (st := []) B (cX10_withStatusc h35) (Nat.le_of_ble_eq_true rfl) rfl rfl mi_X10_withStatus lk_RX10_384 ⟨Nat.le_of_ble_eq_true rfl, Nat.le_of_ble_eq_true rfl⟩ rfl rfl (Nat.le_of_ble_eq_true rfl) dX10_count_144 (Nat.zero_le _) (Nat.zero_le _) ?_
      obtain ⟨w1, w2⟩ := inS h
      clear h
      subst w1
      subst w2
      exact g_iret B hE (Nat.zero_le _) (Nat.zero_le _) dX10_count_147
    replace h := ifn n7 h
    by_cases n8 : v1 = 8
    · replace h := ifp n8 h
      rw [n8]
      refine g_tableIn B 148 dX10_count_21 (by decide) (by decide) rfl (by decide) ?_
      refine g_aload_n B 0 dX10_count_148 rfl rfl ?_
      replace h := bnP_s h
      obtain ⟨x36, h37, h⟩ := h
      refine g_getR B fl_RX10_9 (by decide) dX10_count_149 h37 ?_
      refine g_bipush (v := 6) B dX10_count_152 (by decide) ?_
      replace h := bnP_s h
      obtain ⟨x38, h39, h⟩ := h
      refine g_iald B dX10_count_154 h39 ?_
      obtain ⟨w1, w2⟩ := inS h
      clear h
      subst w1
      subst w2
      exact g_iret B hE (Nat.zero_le _) (Nat.zero_le _) dX10_count_155
    replace h := ifn n8 h
    by_cases n9 : v1 = 9
    · replace h := ifp n9 h
      rw [n9]
      refine g_tableIn B 156 dX10_count_21 (by decide) (by decide) rfl (by decide) ?_
      refine g_aload_n B 0 dX10_count_156 rfl rfl ?_
      replace h := bnP_s h
      obtain ⟨x40, h41, h⟩ := h
      refine g_getR B fl_RX10_9 (by decide) dX10_count_157 h41 ?_
      refine g_bipush (v := 7) B dX10_count_160 (by decide) ?_
      replace h := bnP_s h
      obtain ⟨x42, h43, h⟩ := h
      refine g_iald B dX10_count_162 h43 ?_
      obtain ⟨w1, w2⟩ := inS h
      clear h
      subst w1
      subst w2
      exact g_iret B hE (Nat.zero_le _) (Nat.zero_le _) dX10_count_163
    replace h := ifn n9 h
    by_cases n10 : v1 = 10
    · replace h := ifp n10 h
      rw [n10]
      refine g_tableIn B 164 dX10_count_21 (by decide) (by decide) rfl (by decide) ?_
      refine g_aload_n B 0 dX10_count_164 rfl rfl ?_
      refine g_iconst (v := 3) B dX10_count_165 (by decide) ?_
      replace h := bnP_s h
      obtain ⟨x44, h45, h⟩ := h
      refine g_callVs0 (st := []) B (cX10_ofAllActsc h45) (Nat.le_of_ble_eq_true rfl) rfl rfl mi_X10_ofAllActs lk_RX10_387 ⟨Nat.le_of_ble_eq_true rfl, Nat.le_of_ble_eq_true rfl⟩ rfl rfl (Nat.le_of_ble_eq_true rfl) dX10_count_166 (Nat.zero_le _) (Nat.zero_le _) ?_
      obtain ⟨w1, w2⟩ := inS h
      clear h
      subst w1
      subst w2
      exact g_iret B hE (Nat.zero_le _) (Nat.zero_le _) dX10_count_169
    replace h := ifn n10 h
    by_cases n11 : v1 = 11
    · replace h := ifp n11 h
      rw [n11]
      refine g_tableIn B 170 dX10_count_21 (by decide) (by decide) rfl (by decide) ?_
      refine g_aload_n B 0 dX10_count_170 rfl rfl ?_
      refine g_iconst (v := 0) B dX10_count_171 (by decide) ?_
      replace h := bnP_s h
      obtain ⟨x46, h47, h⟩ := h
      refine g_callVs0 (st := []) B (cX10_standingAllc h47) (Nat.le_of_ble_eq_true rfl) rfl rfl mi_X10_standingAll lk_RX10_390 ⟨Nat.le_of_ble_eq_true rfl, Nat.le_of_ble_eq_true rfl⟩ rfl rfl (Nat.le_of_ble_eq_true rfl) dX10_count_172 (Nat.zero_le _) (Nat.zero_le _) ?_
      obtain ⟨w1, w2⟩ := inS h
      clear h
      subst w1
      subst w2
      exact g_iret B hE (Nat.zero_le _) (Nat.zero_le _) dX10_count_175
    replace h := ifn n11 h
    by_cases n12 : v1 = 12
    · replace h := ifp n12 h
      rw [n12]
      refine g_tableIn B 176 dX10_count_21 (by decide) (by decide) rfl (by decide) ?_
      refine g_aload_n B 0 dX10_count_176 rfl rfl ?_
      refine g_iconst (v := 1) B dX10_count_177 (by decide) ?_
      replace h := bnP_s h
      obtain ⟨x48, h49, h⟩ := h
      refine g_callVs0 (st := []) B (cX10_actsWithc h49) (Nat.le_of_ble_eq_true rfl) rfl rfl mi_X10_actsWith lk_RX10_393 ⟨Nat.le_of_ble_eq_true rfl, Nat.le_of_ble_eq_true rfl⟩ rfl rfl (Nat.le_of_ble_eq_true rfl) dX10_count_178 (Nat.zero_le _) (Nat.zero_le _) ?_
      obtain ⟨w1, w2⟩ := inS h
      clear h
      subst w1
      subst w2
      exact g_iret B hE (Nat.zero_le _) (Nat.zero_le _) dX10_count_181
    replace h := ifn n12 h
    by_cases n13 : v1 = 13
    · replace h := ifp n13 h
      rw [n13]
      refine g_tableIn B 182 dX10_count_21 (by decide) (by decide) rfl (by decide) ?_
      refine g_aload_n B 0 dX10_count_182 rfl rfl ?_
      refine g_iconst (v := 2) B dX10_count_183 (by decide) ?_
      replace h := bnP_s h
      obtain ⟨x50, h51, h⟩ := h
      refine g_callVs0 (st := []) B (cX10_actsWithc h51) (Nat.le_of_ble_eq_true rfl) rfl rfl mi_X10_actsWith lk_RX10_393 ⟨Nat.le_of_ble_eq_true rfl, Nat.le_of_ble_eq_true rfl⟩ rfl rfl (Nat.le_of_ble_eq_true rfl) dX10_count_184 (Nat.zero_le _) (Nat.zero_le _) ?_
      obtain ⟨w1, w2⟩ := inS h
      clear h
      subst w1
      subst w2
      exact g_iret B hE (Nat.zero_le _) (Nat.zero_le _) dX10_count_187
    replace h := ifn n13 h
    by_cases n14 : v1 = 14
    · replace h := ifp n14 h
      rw [n14]
      refine g_tableIn B 188 dX10_count_21 (by decide) (by decide) rfl (by decide) ?_
      refine g_aload_n B 0 dX10_count_188 rfl rfl ?_
      replace h := bnP_s h
      obtain ⟨x52, h53, h⟩ := h
      refine g_callVs0 (st := []) B (cX10_openActc h53) (Nat.le_of_ble_eq_true rfl) rfl rfl mi_X10_openAct lk_RX10_179 ⟨Nat.le_of_ble_eq_true rfl, Nat.le_of_ble_eq_true rfl⟩ rfl rfl (Nat.le_of_ble_eq_true rfl) dX10_count_189 (Nat.zero_le _) (Nat.zero_le _) ?_
      refine g_iconst (v := 1) B dX10_count_192 (by decide) ?_
      refine g_iadd B dX10_count_193 ?_
      obtain ⟨w1, w2⟩ := inS h
      clear h
      subst w1
      subst w2
      exact g_iret B hE (Nat.zero_le _) (Nat.zero_le _) dX10_count_194
    replace h := ifn n14 h
    have mn0 := tne n0 (k := 0) (by decide)
    have mn1 := tne n1 (k := 1) (by decide)
    have mn2 := tne n2 (k := 2) (by decide)
    have mn3 := tne n3 (k := 3) (by decide)
    have mn4 := tne n4 (k := 4) (by decide)
    have mn5 := tne n5 (k := 5) (by decide)
    have mn6 := tne n6 (k := 6) (by decide)
    have mn7 := tne n7 (k := 7) (by decide)
    have mn8 := tne n8 (k := 8) (by decide)
    have mn9 := tne n9 (k := 9) (by decide)
    have mn10 := tne n10 (k := 10) (by decide)
    have mn11 := tne n11 (k := 11) (by decide)
    have mn12 := tne n12 (k := 12) (by decide)
    have mn13 := tne n13 (k := 13) (by decide)
    have mn14 := tne n14 (k := 14) (by decide)
    refine g_tableOut B 195 dX10_count_21 (by omega) (by decide) ?_
    refine g_aload_n B 0 dX10_count_195 rfl rfl ?_
    replace h := bnP_s h
    obtain ⟨x8, h9, h⟩ := h
    refine g_callVs0 (st := []) B (cX10_unknownc h9) (Nat.le_of_ble_eq_true rfl) rfl rfl mi_X10_unknown lk_RX10_396 ⟨Nat.le_of_ble_eq_true rfl, Nat.le_of_ble_eq_true rfl⟩ rfl rfl (Nat.le_of_ble_eq_true rfl) dX10_count_196 (Nat.zero_le _) (Nat.zero_le _) ?_
    obtain ⟨w1, w2⟩ := inS h
    clear h
    subst w1
    subst w2
    exact g_iret B hE (Nat.zero_le _) (Nat.zero_le _) dX10_count_199
  · replace h := ifn (bI0 hc) h
    refine g_iconst (v := 0) B dX10_count_18 (by decide) ?_
    obtain ⟨w1, w2⟩ := inS h
    clear h
    subst w1
    subst w2
    exact g_iret B hE (Nat.zero_le _) (Nat.zero_le _) dX10_count_19
set_option maxRecDepth 100000 in
set_option maxHeartbeats 4000000 in
theorem cX10_isActc {l : Launch} {v0 : Option Nat} {v1 : Int32} {σ : HpT} {r : Bool} (h : fX10_isAct v0 v1 σ = some r) : IsK σ v0 10 ∧ Ct l yX10_isAct cX10_isAct 2 (some .boolean) 1 22 [va_rf v0, .int v1] σ (.ok (some (.int (bI r)))) σ 0 0 := by
  unfold fX10_isAct at h
  replace h := bnP_s h
  obtain ⟨u, hk, h⟩ := h
  replace hk := isK_s hk
  refine ⟨hk, ?_⟩
  refine ct_start mi_X10_isAct.1 rfl (al_le (al_1 (rf_cat _) (al_1 rfl al_n)) (Nat.le_of_ble_eq_true rfl)) (ag_1 (rf_cat _) (ag_1 rfl ag_n)) (fun Δ Γ B hE hnm => ?_)
  refine g_aload_n B 0 dX10_isAct_0 rfl rfl ?_
  replace h := bnP_s h
  obtain ⟨x1, h2, h⟩ := h
  refine g_getI B fl_RX10_48 (by decide) dX10_isAct_1 h2 ?_
  refine g_if_eq B 25 dX10_isAct_4 (by decide) (fun hc => ?_) (fun hc => ?_)
  · replace h := ifp hc h
    refine g_iconst (v := 0) B dX10_isAct_25 (by decide) ?_
    replace h := Option.some.inj h
    subst h
    exact g_zret B hE rfl (Nat.zero_le _) (Nat.zero_le _) dX10_isAct_26
  · replace h := ifn hc h
    refine g_iload_n B 1 dX10_isAct_7 rfl rfl ?_
    refine g_iconst (v := 1) B dX10_isAct_8 (by decide) ?_
    refine g_aload_n B 0 dX10_isAct_9 rfl rfl ?_
    replace h := bnP_s h
    obtain ⟨x3, h4, h⟩ := h
    refine g_getR B fl_RX10_9 (by decide) dX10_isAct_10 h4 ?_
    refine g_iconst (v := 3) B dX10_isAct_13 (by decide) ?_
    replace h := bnP_s h
    obtain ⟨x5, h6, h⟩ := h
    refine g_iald B dX10_isAct_14 h6 ?_
    replace h := bnP_s h
    obtain ⟨x7, h8, h⟩ := h
    refine g_callSs0 (st := []) B (cX10_inc h8) mi_X10_in lk_RX10_69 ⟨Nat.le_of_ble_eq_true rfl, Nat.le_of_ble_eq_true rfl⟩ rfl rfl (Nat.le_of_ble_eq_true rfl) dX10_isAct_15 (Nat.zero_le _) (Nat.zero_le _) ?_
    refine g_if_eq B 25 dX10_isAct_18 (by decide) (fun hc => ?_) (fun hc => ?_)
    · replace h := ifn (bI0 hc) h
      refine g_iconst (v := 0) B dX10_isAct_25 (by decide) ?_
      replace h := Option.some.inj h
      subst h
      exact g_zret B hE rfl (Nat.zero_le _) (Nat.zero_le _) dX10_isAct_26
    · replace h := ifp (bI1 hc) h
      refine g_iconst (v := 1) B dX10_isAct_21 (by decide) ?_
      refine g_goto B 26 dX10_isAct_22 (by decide) ?_
      replace h := Option.some.inj h
      subst h
      exact g_zret B hE rfl (Nat.zero_le _) (Nat.zero_le _) dX10_isAct_26
set_option maxRecDepth 100000 in
set_option maxHeartbeats 4000000 in
theorem cX10_isWordOfc {l : Launch} {v0 : Option Nat} {v1 : Int32} {v2 : Int32} {σ : HpT} {r : Bool} (h : fX10_isWordOf v0 v1 v2 σ = some r) : IsK σ v0 10 ∧ Ct l yX10_isWordOf cX10_isWordOf 3 (some .boolean) 2 43 [va_rf v0, .int v1, .int v2] σ (.ok (some (.int (bI r)))) σ 0 0 := by
  unfold fX10_isWordOf at h
  replace h := bnP_s h
  obtain ⟨u, hk, h⟩ := h
  replace hk := isK_s hk
  refine ⟨hk, ?_⟩
  refine ct_start mi_X10_isWordOf.1 rfl (al_le (al_1 (rf_cat _) (al_1 rfl (al_1 rfl al_n))) (Nat.le_of_ble_eq_true rfl)) (ag_1 (rf_cat _) (ag_1 rfl (ag_1 rfl ag_n))) (fun Δ Γ B hE hnm => ?_)
  refine g_aload_n B 0 dX10_isWordOf_0 rfl rfl ?_
  refine g_iload_n B 1 dX10_isWordOf_1 rfl rfl ?_
  replace h := bnP_s h
  obtain ⟨x1, h2, h⟩ := h
  refine g_callVs0 (st := []) B (cX10_isActc h2) (Nat.le_of_ble_eq_true rfl) rfl rfl mi_X10_isAct lk_RX10_399 ⟨Nat.le_of_ble_eq_true rfl, Nat.le_of_ble_eq_true rfl⟩ rfl rfl (Nat.le_of_ble_eq_true rfl) dX10_isWordOf_2 (Nat.zero_le _) (Nat.zero_le _) ?_
  refine g_if_eq B 31 dX10_isWordOf_5 (by decide) (fun hc => ?_) (fun hc => ?_)
  · replace h := ifn (bI0 hc) h
    refine g_iconst (v := 0) B dX10_isWordOf_31 (by decide) ?_
    replace h := Option.some.inj h
    subst h
    exact g_zret B hE rfl (Nat.zero_le _) (Nat.zero_le _) dX10_isWordOf_32
  · replace h := ifp (bI1 hc) h
    refine g_iload_n B 2 dX10_isWordOf_8 rfl rfl ?_
    refine g_iconst (v := 0) B dX10_isWordOf_9 (by decide) ?_
    refine g_aload_n B 0 dX10_isWordOf_10 rfl rfl ?_
    refine g_iload_n B 1 dX10_isWordOf_11 rfl rfl ?_
    refine g_iconst (v := 1) B dX10_isWordOf_12 (by decide) ?_
    refine g_isub B dX10_isWordOf_13 ?_
    refine g_bipush (v := 6) B dX10_isWordOf_14 (by decide) ?_
    replace h := bnP_s h
    obtain ⟨x3, h4, h⟩ := h
    refine g_callVs0 (st := [.int 0, .int v2]) B (cX10_ofActc h4) (Nat.le_of_ble_eq_true rfl) rfl rfl mi_X10_ofAct lk_RX10_138 ⟨Nat.le_of_ble_eq_true rfl, Nat.le_of_ble_eq_true rfl⟩ rfl rfl (Nat.le_of_ble_eq_true rfl) dX10_isWordOf_16 (Nat.zero_le _) (Nat.zero_le _) ?_
    refine g_iconst (v := 1) B dX10_isWordOf_19 (by decide) ?_
    refine g_isub B dX10_isWordOf_20 ?_
    replace h := bnP_s h
    obtain ⟨x5, h6, h⟩ := h
    refine g_callSs0 (st := []) B (cX10_inc h6) mi_X10_in lk_RX10_69 ⟨Nat.le_of_ble_eq_true rfl, Nat.le_of_ble_eq_true rfl⟩ rfl rfl (Nat.le_of_ble_eq_true rfl) dX10_isWordOf_21 (Nat.zero_le _) (Nat.zero_le _) ?_
    refine g_if_eq B 31 dX10_isWordOf_24 (by decide) (fun hc => ?_) (fun hc => ?_)
    · replace h := ifn (bI0 hc) h
      refine g_iconst (v := 0) B dX10_isWordOf_31 (by decide) ?_
      replace h := Option.some.inj h
      subst h
      exact g_zret B hE rfl (Nat.zero_le _) (Nat.zero_le _) dX10_isWordOf_32
    · replace h := ifp (bI1 hc) h
      refine g_iconst (v := 1) B dX10_isWordOf_27 (by decide) ?_
      refine g_goto B 32 dX10_isWordOf_28 (by decide) ?_
      replace h := Option.some.inj h
      subst h
      exact g_zret B hE rfl (Nat.zero_le _) (Nat.zero_le _) dX10_isWordOf_32
set_option maxRecDepth 100000 in
set_option maxHeartbeats 4000000 in
theorem cX10_isLeafc {l : Launch} {v0 : Option Nat} {v1 : Int32} {σ : HpT} {r : Bool} (h : fX10_isLeaf v0 v1 σ = some r) : IsK σ v0 10 ∧ Ct l yX10_isLeaf cX10_isLeaf 2 (some .boolean) 1 22 [va_rf v0, .int v1] σ (.ok (some (.int (bI r)))) σ 0 0 := by
  unfold fX10_isLeaf at h
  replace h := bnP_s h
  obtain ⟨u, hk, h⟩ := h
  replace hk := isK_s hk
  refine ⟨hk, ?_⟩
  refine ct_start mi_X10_isLeaf.1 rfl (al_le (al_1 (rf_cat _) (al_1 rfl al_n)) (Nat.le_of_ble_eq_true rfl)) (ag_1 (rf_cat _) (ag_1 rfl ag_n)) (fun Δ Γ B hE hnm => ?_)
  refine g_aload_n B 0 dX10_isLeaf_0 rfl rfl ?_
  replace h := bnP_s h
  obtain ⟨x1, h2, h⟩ := h
  refine g_getI B fl_RX10_48 (by decide) dX10_isLeaf_1 h2 ?_
  refine g_if_eq B 25 dX10_isLeaf_4 (by decide) (fun hc => ?_) (fun hc => ?_)
  · replace h := ifp hc h
    refine g_iconst (v := 0) B dX10_isLeaf_25 (by decide) ?_
    replace h := Option.some.inj h
    subst h
    exact g_zret B hE rfl (Nat.zero_le _) (Nat.zero_le _) dX10_isLeaf_26
  · replace h := ifn hc h
    refine g_iload_n B 1 dX10_isLeaf_7 rfl rfl ?_
    refine g_iconst (v := 0) B dX10_isLeaf_8 (by decide) ?_
    refine g_aload_n B 0 dX10_isLeaf_9 rfl rfl ?_
    replace h := bnP_s h
    obtain ⟨x3, h4, h⟩ := h
    refine g_callVs0 (st := [.int 0, .int v1]) B (cX10_leavesc h4) (Nat.le_of_ble_eq_true rfl) rfl rfl mi_X10_leaves lk_RX10_231 ⟨Nat.le_of_ble_eq_true rfl, Nat.le_of_ble_eq_true rfl⟩ rfl rfl (Nat.le_of_ble_eq_true rfl) dX10_isLeaf_10 (Nat.zero_le _) (Nat.zero_le _) ?_
    refine g_iconst (v := 1) B dX10_isLeaf_13 (by decide) ?_
    refine g_isub B dX10_isLeaf_14 ?_
    replace h := bnP_s h
    obtain ⟨x5, h6, h⟩ := h
    refine g_callSs0 (st := []) B (cX10_inc h6) mi_X10_in lk_RX10_69 ⟨Nat.le_of_ble_eq_true rfl, Nat.le_of_ble_eq_true rfl⟩ rfl rfl (Nat.le_of_ble_eq_true rfl) dX10_isLeaf_15 (Nat.zero_le _) (Nat.zero_le _) ?_
    refine g_if_eq B 25 dX10_isLeaf_18 (by decide) (fun hc => ?_) (fun hc => ?_)
    · replace h := ifn (bI0 hc) h
      refine g_iconst (v := 0) B dX10_isLeaf_25 (by decide) ?_
      replace h := Option.some.inj h
      subst h
      exact g_zret B hE rfl (Nat.zero_le _) (Nat.zero_le _) dX10_isLeaf_26
    · replace h := ifp (bI1 hc) h
      refine g_iconst (v := 1) B dX10_isLeaf_21 (by decide) ?_
      refine g_goto B 26 dX10_isLeaf_22 (by decide) ?_
      replace h := Option.some.inj h
      subst h
      exact g_zret B hE rfl (Nat.zero_le _) (Nat.zero_le _) dX10_isLeaf_26
set_option maxRecDepth 100000 in
set_option maxHeartbeats 4000000 in
theorem cX10_isCopyc {l : Launch} {v0 : Option Nat} {v1 : Int32} {σ : HpT} {r : Bool} (h : fX10_isCopy v0 v1 σ = some r) : IsK σ v0 10 ∧ Ct l yX10_isCopy cX10_isCopy 2 (some .boolean) 1 22 [va_rf v0, .int v1] σ (.ok (some (.int (bI r)))) σ 0 0 := by
  unfold fX10_isCopy at h
  replace h := bnP_s h
  obtain ⟨u, hk, h⟩ := h
  replace hk := isK_s hk
  refine ⟨hk, ?_⟩
  refine ct_start mi_X10_isCopy.1 rfl (al_le (al_1 (rf_cat _) (al_1 rfl al_n)) (Nat.le_of_ble_eq_true rfl)) (ag_1 (rf_cat _) (ag_1 rfl ag_n)) (fun Δ Γ B hE hnm => ?_)
  refine g_aload_n B 0 dX10_isCopy_0 rfl rfl ?_
  replace h := bnP_s h
  obtain ⟨x1, h2, h⟩ := h
  refine g_getI B fl_RX10_48 (by decide) dX10_isCopy_1 h2 ?_
  refine g_if_eq B 28 dX10_isCopy_4 (by decide) (fun hc => ?_) (fun hc => ?_)
  · replace h := ifp hc h
    refine g_iconst (v := 0) B dX10_isCopy_28 (by decide) ?_
    replace h := Option.some.inj h
    subst h
    exact g_zret B hE rfl (Nat.zero_le _) (Nat.zero_le _) dX10_isCopy_29
  · replace h := ifn hc h
    refine g_iload_n B 1 dX10_isCopy_7 rfl rfl ?_
    refine g_iconst (v := 0) B dX10_isCopy_8 (by decide) ?_
    refine g_aload_n B 0 dX10_isCopy_9 rfl rfl ?_
    replace h := bnP_s h
    obtain ⟨x3, h4, h⟩ := h
    refine g_getR B fl_RX10_9 (by decide) dX10_isCopy_10 h4 ?_
    refine g_bipush (v := 6) B dX10_isCopy_13 (by decide) ?_
    replace h := bnP_s h
    obtain ⟨x5, h6, h⟩ := h
    refine g_iald B dX10_isCopy_15 h6 ?_
    refine g_iconst (v := 1) B dX10_isCopy_16 (by decide) ?_
    refine g_isub B dX10_isCopy_17 ?_
    replace h := bnP_s h
    obtain ⟨x7, h8, h⟩ := h
    refine g_callSs0 (st := []) B (cX10_inc h8) mi_X10_in lk_RX10_69 ⟨Nat.le_of_ble_eq_true rfl, Nat.le_of_ble_eq_true rfl⟩ rfl rfl (Nat.le_of_ble_eq_true rfl) dX10_isCopy_18 (Nat.zero_le _) (Nat.zero_le _) ?_
    refine g_if_eq B 28 dX10_isCopy_21 (by decide) (fun hc => ?_) (fun hc => ?_)
    · replace h := ifn (bI0 hc) h
      refine g_iconst (v := 0) B dX10_isCopy_28 (by decide) ?_
      replace h := Option.some.inj h
      subst h
      exact g_zret B hE rfl (Nat.zero_le _) (Nat.zero_le _) dX10_isCopy_29
    · replace h := ifp (bI1 hc) h
      refine g_iconst (v := 1) B dX10_isCopy_24 (by decide) ?_
      refine g_goto B 29 dX10_isCopy_25 (by decide) ?_
      replace h := Option.some.inj h
      subst h
      exact g_zret B hE rfl (Nat.zero_le _) (Nat.zero_le _) dX10_isCopy_29
set_option maxRecDepth 100000 in
set_option maxHeartbeats 4000000 in
theorem cX10_isGradec {l : Launch} {v0 : Int32} {σ : HpT} {r : Bool} (h : fX10_isGrade v0 σ = some r) : Ct l yX10_isGrade cX10_isGrade 1 (some .boolean) 1 22 [.int v0] σ (.ok (some (.int (bI r)))) σ 0 0 := by
  unfold fX10_isGrade at h
  refine ct_start mi_X10_isGrade.1 rfl (al_le (al_1 rfl al_n) (Nat.le_of_ble_eq_true rfl)) (ag_1 rfl ag_n) (fun Δ Γ B hE hnm => ?_)
  refine g_iload_n B 0 dX10_isGrade_0 rfl rfl ?_
  refine g_iconst (v := 0) B dX10_isGrade_1 (by decide) ?_
  refine g_iconst (v := 2) B dX10_isGrade_2 (by decide) ?_
  replace h := bnP_s h
  obtain ⟨x1, h2, h⟩ := h
  refine g_callSs0 (st := []) B (cX10_inc h2) mi_X10_in lk_RX10_69 ⟨Nat.le_of_ble_eq_true rfl, Nat.le_of_ble_eq_true rfl⟩ rfl rfl (Nat.le_of_ble_eq_true rfl) dX10_isGrade_3 (Nat.zero_le _) (Nat.zero_le _) ?_
  replace h := Option.some.inj h
  subst h
  exact g_zret B hE (nar_bI _) (Nat.zero_le _) (Nat.zero_le _) dX10_isGrade_6
set_option maxRecDepth 100000 in
set_option maxHeartbeats 4000000 in
theorem cX10_mayActc {l : Launch} {v0 : Option Nat} {v1 : Int32} {σ : HpT} {r : Bool} {σ' : HpT} (h : fX10_mayAct v0 v1 σ = some (r, σ')) : IsK σ v0 10 ∧ Ct l yX10_mayAct cX10_mayAct 2 (some .boolean) 2 45 [va_rf v0, .int v1] σ (.ok (some (.int (bI r)))) σ' 0 0 := by
  unfold fX10_mayAct at h
  replace h := bnP_s h
  obtain ⟨u, hk, h⟩ := h
  replace hk := isK_s hk
  refine ⟨hk, ?_⟩
  refine ct_start mi_X10_mayAct.1 rfl (al_le (al_1 (rf_cat _) (al_1 rfl al_n)) (Nat.le_of_ble_eq_true rfl)) (ag_1 (rf_cat _) (ag_1 rfl ag_n)) (fun Δ Γ B hE hnm => ?_)
  refine g_aload_n B 0 dX10_mayAct_0 rfl rfl ?_
  refine g_aload_n B 0 dX10_mayAct_1 rfl rfl ?_
  replace h := bnP_s h
  obtain ⟨x1, h2, h⟩ := h
  refine g_getI B fl_RX10_48 (by decide) dX10_mayAct_2 h2 ?_
  refine g_aload_n B 0 dX10_mayAct_5 rfl rfl ?_
  refine g_iload_n B 1 dX10_mayAct_6 rfl rfl ?_
  replace h := bnP_s h
  obtain ⟨x3, h4, h⟩ := h
  refine g_callVs0 (st := [.int x1, va_rf v0]) B (cX10_isActc h4) (Nat.le_of_ble_eq_true rfl) rfl rfl mi_X10_isAct lk_RX10_399 ⟨Nat.le_of_ble_eq_true rfl, Nat.le_of_ble_eq_true rfl⟩ rfl rfl (Nat.le_of_ble_eq_true rfl) dX10_mayAct_7 (Nat.zero_le _) (Nat.zero_le _) ?_
  replace h := bnS_s h
  obtain ⟨x5, s7, h6, h⟩ := h
  refine g_callVs0 (st := []) B (cX10_mayTwoc h6) (Nat.le_of_ble_eq_true rfl) rfl rfl mi_X10_mayTwo lk_RX10_380 ⟨Nat.le_of_ble_eq_true rfl, Nat.le_of_ble_eq_true rfl⟩ rfl rfl (Nat.le_of_ble_eq_true rfl) dX10_mayAct_10 (Nat.zero_le _) (Nat.zero_le _) ?_
  obtain ⟨w1, w2⟩ := inS h
  clear h
  subst w1
  subst w2
  exact g_zret B hE (nar_bI _) (Nat.zero_le _) (Nat.zero_le _) dX10_mayAct_13
set_option maxRecDepth 100000 in
set_option maxHeartbeats 4000000 in
theorem cX10_mayLeafc {l : Launch} {v0 : Option Nat} {v1 : Int32} {σ : HpT} {r : Bool} {σ' : HpT} (h : fX10_mayLeaf v0 v1 σ = some (r, σ')) : IsK σ v0 10 ∧ Ct l yX10_mayLeaf cX10_mayLeaf 2 (some .boolean) 2 45 [va_rf v0, .int v1] σ (.ok (some (.int (bI r)))) σ' 0 0 := by
  unfold fX10_mayLeaf at h
  replace h := bnP_s h
  obtain ⟨u, hk, h⟩ := h
  replace hk := isK_s hk
  refine ⟨hk, ?_⟩
  refine ct_start mi_X10_mayLeaf.1 rfl (al_le (al_1 (rf_cat _) (al_1 rfl al_n)) (Nat.le_of_ble_eq_true rfl)) (ag_1 (rf_cat _) (ag_1 rfl ag_n)) (fun Δ Γ B hE hnm => ?_)
  refine g_aload_n B 0 dX10_mayLeaf_0 rfl rfl ?_
  refine g_aload_n B 0 dX10_mayLeaf_1 rfl rfl ?_
  replace h := bnP_s h
  obtain ⟨x1, h2, h⟩ := h
  refine g_getI B fl_RX10_48 (by decide) dX10_mayLeaf_2 h2 ?_
  refine g_aload_n B 0 dX10_mayLeaf_5 rfl rfl ?_
  refine g_iload_n B 1 dX10_mayLeaf_6 rfl rfl ?_
  replace h := bnP_s h
  obtain ⟨x3, h4, h⟩ := h
  refine g_callVs0 (st := [.int x1, va_rf v0]) B (cX10_isLeafc h4) (Nat.le_of_ble_eq_true rfl) rfl rfl mi_X10_isLeaf lk_RX10_402 ⟨Nat.le_of_ble_eq_true rfl, Nat.le_of_ble_eq_true rfl⟩ rfl rfl (Nat.le_of_ble_eq_true rfl) dX10_mayLeaf_7 (Nat.zero_le _) (Nat.zero_le _) ?_
  replace h := bnS_s h
  obtain ⟨x5, s7, h6, h⟩ := h
  refine g_callVs0 (st := []) B (cX10_mayTwoc h6) (Nat.le_of_ble_eq_true rfl) rfl rfl mi_X10_mayTwo lk_RX10_380 ⟨Nat.le_of_ble_eq_true rfl, Nat.le_of_ble_eq_true rfl⟩ rfl rfl (Nat.le_of_ble_eq_true rfl) dX10_mayLeaf_10 (Nat.zero_le _) (Nat.zero_le _) ?_
  obtain ⟨w1, w2⟩ := inS h
  clear h
  subst w1
  subst w2
  exact g_zret B hE (nar_bI _) (Nat.zero_le _) (Nat.zero_le _) dX10_mayLeaf_13
set_option maxRecDepth 100000 in
set_option maxHeartbeats 4000000 in
theorem cX10_mayCopyc {l : Launch} {v0 : Option Nat} {v1 : Int32} {σ : HpT} {r : Bool} {σ' : HpT} (h : fX10_mayCopy v0 v1 σ = some (r, σ')) : IsK σ v0 10 ∧ Ct l yX10_mayCopy cX10_mayCopy 2 (some .boolean) 2 45 [va_rf v0, .int v1] σ (.ok (some (.int (bI r)))) σ' 0 0 := by
  unfold fX10_mayCopy at h
  replace h := bnP_s h
  obtain ⟨u, hk, h⟩ := h
  replace hk := isK_s hk
  refine ⟨hk, ?_⟩
  refine ct_start mi_X10_mayCopy.1 rfl (al_le (al_1 (rf_cat _) (al_1 rfl al_n)) (Nat.le_of_ble_eq_true rfl)) (ag_1 (rf_cat _) (ag_1 rfl ag_n)) (fun Δ Γ B hE hnm => ?_)
  refine g_aload_n B 0 dX10_mayCopy_0 rfl rfl ?_
  refine g_aload_n B 0 dX10_mayCopy_1 rfl rfl ?_
  replace h := bnP_s h
  obtain ⟨x1, h2, h⟩ := h
  refine g_getI B fl_RX10_48 (by decide) dX10_mayCopy_2 h2 ?_
  refine g_aload_n B 0 dX10_mayCopy_5 rfl rfl ?_
  refine g_iload_n B 1 dX10_mayCopy_6 rfl rfl ?_
  replace h := bnP_s h
  obtain ⟨x3, h4, h⟩ := h
  refine g_callVs0 (st := [.int x1, va_rf v0]) B (cX10_isCopyc h4) (Nat.le_of_ble_eq_true rfl) rfl rfl mi_X10_isCopy lk_RX10_405 ⟨Nat.le_of_ble_eq_true rfl, Nat.le_of_ble_eq_true rfl⟩ rfl rfl (Nat.le_of_ble_eq_true rfl) dX10_mayCopy_7 (Nat.zero_le _) (Nat.zero_le _) ?_
  replace h := bnS_s h
  obtain ⟨x5, s7, h6, h⟩ := h
  refine g_callVs0 (st := []) B (cX10_mayTwoc h6) (Nat.le_of_ble_eq_true rfl) rfl rfl mi_X10_mayTwo lk_RX10_380 ⟨Nat.le_of_ble_eq_true rfl, Nat.le_of_ble_eq_true rfl⟩ rfl rfl (Nat.le_of_ble_eq_true rfl) dX10_mayCopy_10 (Nat.zero_le _) (Nat.zero_le _) ?_
  obtain ⟨w1, w2⟩ := inS h
  clear h
  subst w1
  subst w2
  exact g_zret B hE (nar_bI _) (Nat.zero_le _) (Nat.zero_le _) dX10_mayCopy_13
set_option maxRecDepth 100000 in
set_option maxHeartbeats 4000000 in
theorem cX10_globalOfc {l : Launch} {v0 : Option Nat} {v1 : Int32} {v2 : Int32} {σ : HpT} {r : Int32} (h : fX10_globalOf v0 v1 v2 σ = some r) : IsK σ v0 10 ∧ Ct l yX10_globalOf cX10_globalOf 3 (some .int) 1 22 [va_rf v0, .int v1, .int v2] σ (.ok (some (.int r))) σ 0 0 := by
  unfold fX10_globalOf at h
  replace h := bnP_s h
  obtain ⟨u, hk, h⟩ := h
  replace hk := isK_s hk
  refine ⟨hk, ?_⟩
  refine ct_start mi_X10_globalOf.1 rfl (al_le (al_1 (rf_cat _) (al_1 rfl (al_1 rfl al_n))) (Nat.le_of_ble_eq_true rfl)) (ag_1 (rf_cat _) (ag_1 rfl (ag_1 rfl ag_n))) (fun Δ Γ B hE hnm => ?_)
  refine g_aload_n B 0 dX10_globalOf_0 rfl rfl ?_
  refine g_iload_n B 1 dX10_globalOf_1 rfl rfl ?_
  refine g_iconst (v := 1) B dX10_globalOf_2 (by decide) ?_
  refine g_isub B dX10_globalOf_3 ?_
  refine g_iconst (v := 5) B dX10_globalOf_4 (by decide) ?_
  replace h := bnP_s h
  obtain ⟨x1, h2, h⟩ := h
  refine g_callVs0 (st := []) B (cX10_ofActc h2) (Nat.le_of_ble_eq_true rfl) rfl rfl mi_X10_ofAct lk_RX10_138 ⟨Nat.le_of_ble_eq_true rfl, Nat.le_of_ble_eq_true rfl⟩ rfl rfl (Nat.le_of_ble_eq_true rfl) dX10_globalOf_5 (Nat.zero_le _) (Nat.zero_le _) ?_
  refine g_iload_n B 2 dX10_globalOf_8 rfl rfl ?_
  refine g_iadd B dX10_globalOf_9 ?_
  replace h := Option.some.inj h
  subst h
  exact g_iret B hE (Nat.zero_le _) (Nat.zero_le _) dX10_globalOf_10
set_option maxRecDepth 100000 in
set_option maxHeartbeats 4000000 in
theorem cX10_deepestc {l : Launch} {v0 : Option Nat} {v1 : Int32} {σ : HpT} {r : Int32} (h : fX10_deepest v0 v1 σ = some r) : IsK σ v0 10 ∧ Ct l yX10_deepest cX10_deepest 4 (some .int) 2 45 [va_rf v0, .int v1] σ (.ok (some (.int r))) σ 0 0 := by
  unfold fX10_deepest at h
  replace h := bnP_s h
  obtain ⟨u, hk, h⟩ := h
  replace hk := isK_s hk
  refine ⟨hk, ?_⟩
  refine ct_start mi_X10_deepest.1 rfl (al_le (al_1 (rf_cat _) (al_1 rfl al_n)) (Nat.le_of_ble_eq_true rfl)) (ag_1 (rf_cat _) (ag_1 rfl ag_n)) (fun Δ Γ B hE hnm => ?_)
  refine g_iconst (v := 0) B dX10_deepest_0 (by decide) ?_
  refine g_istore_n B dX10_deepest_1 rfl (Nat.le_of_ble_eq_true rfl) (s1_c (f1_k rfl (f1_1 rfl rfl f1_n))) ?_
  refine g_aload_n B 1 dX10_deepest_2 rfl rfl ?_
  refine g_iload_n B 2 dX10_deepest_3 rfl rfl ?_
  refine g_iconst (v := 5) B dX10_deepest_4 (by decide) ?_
  replace h := bnP_s h
  obtain ⟨x1, h2, h⟩ := h
  refine g_callVs0 (st := []) B (cX10_ofActc h2) (Nat.le_of_ble_eq_true rfl) rfl rfl mi_X10_ofAct lk_RX10_138 ⟨Nat.le_of_ble_eq_true rfl, Nat.le_of_ble_eq_true rfl⟩ rfl rfl (Nat.le_of_ble_eq_true rfl) dX10_deepest_5 (Nat.zero_le _) (Nat.zero_le _) ?_
  refine g_istore_n B dX10_deepest_8 rfl (Nat.le_of_ble_eq_true rfl) (s1_c (f1_1 rfl rfl (f1_k rfl (f1_k rfl f1_n)))) ?_
  replace h := bnP_s h
  obtain ⟨r4, h5, h⟩ := h
  have kE6 : GW Δ Γ (0) (0) 38 [(2, .int r4)] [] σ := by
    refine g_iload_n B 0 dX10_deepest_38 rfl rfl ?_
    replace h := Option.some.inj h
    subst h
    exact g_iret B hE (Nat.zero_le _) (Nat.zero_le _) dX10_deepest_39
  clear h
  refine g_sub [2, 3, 1, 0] rfl ?_
  refine lpP_w (I := fun q3 => GW Δ Γ (0) (0) 9 [(0, va_rf v0), (1, .int v1), (2, .int q3.1), (3, .int q3.2)] [] σ) (r := r4) ?_ FUEL (0, x1) h5
  intro q3 x10 h hI8 hR9
  unfold fX10_deepest_l1 at h
  refine g_iload_n B 3 dX10_deepest_9 rfl rfl ?_
  refine g_aload_n B 0 dX10_deepest_10 rfl rfl ?_
  refine g_iload_n B 1 dX10_deepest_11 rfl rfl ?_
  replace h := bnP_s h
  obtain ⟨x12, h13, h⟩ := h
  refine g_callVs0 (st := [.int q3.2]) B (cX10_lastOfc h13) (Nat.le_of_ble_eq_true rfl) rfl rfl mi_X10_lastOf lk_RX10_327 ⟨Nat.le_of_ble_eq_true rfl, Nat.le_of_ble_eq_true rfl⟩ rfl rfl (Nat.le_of_ble_eq_true rfl) dX10_deepest_12 (Nat.zero_le _) (Nat.zero_le _) ?_
  refine g_icmp_gt B 38 dX10_deepest_15 (by decide) (fun hc => ?_) (fun hc => ?_)
  · replace h := ifp hc h
    replace h := Option.some.inj h
    subst h
    have e8 := hR9 _ rfl
    subst e8
    exact g_sub [2] rfl kE6
  · replace h := ifn hc h
    refine g_iload_n B 2 dX10_deepest_18 rfl rfl ?_
    refine g_aload_n B 0 dX10_deepest_19 rfl rfl ?_
    refine g_aload_n B 0 dX10_deepest_20 rfl rfl ?_
    refine g_iload_n B 3 dX10_deepest_21 rfl rfl ?_
    replace h := bnP_s h
    obtain ⟨x14, h15, h⟩ := h
    refine g_callVs0 (st := [va_rf v0, .int q3.1]) B (cX10_clauseOfc h15) (Nat.le_of_ble_eq_true rfl) rfl rfl mi_X10_clauseOf lk_RX10_203 ⟨Nat.le_of_ble_eq_true rfl, Nat.le_of_ble_eq_true rfl⟩ rfl rfl (Nat.le_of_ble_eq_true rfl) dX10_deepest_22 (Nat.zero_le _) (Nat.zero_le _) ?_
    replace h := bnP_s h
    obtain ⟨x16, h17, h⟩ := h
    refine g_callVs0 (st := [.int q3.1]) B (cX10_depthOfc h17) (Nat.le_of_ble_eq_true rfl) rfl rfl mi_X10_depthOf lk_RX10_408 ⟨Nat.le_of_ble_eq_true rfl, Nat.le_of_ble_eq_true rfl⟩ rfl rfl (Nat.le_of_ble_eq_true rfl) dX10_deepest_25 (Nat.zero_le _) (Nat.zero_le _) ?_
    refine g_mmax B mt_RX10_411 (by decide) (Nat.le_of_ble_eq_true rfl) dX10_deepest_28 (Nat.zero_le _) (Nat.zero_le _) ?_
    refine g_istore_n B dX10_deepest_31 rfl (Nat.le_of_ble_eq_true rfl) (s1_c (f1_k rfl (f1_1 rfl rfl (f1_x (f1_k rfl f1_n))))) ?_
    refine g_iinc (v := (q3.2 + 1)) B 3 dX10_deepest_32 rfl (by first | rfl | (congr 1; decide)) (Nat.le_of_ble_eq_true rfl) (s1_c (f1_1 rfl rfl (f1_k rfl (f1_k rfl (f1_x f1_n))))) ?_
    refine g_goto B 9 dX10_deepest_35 (by decide) ?_
    replace h := Option.some.inj h
    subst h
    exact g_sub [2, 3, 1, 0] rfl (hI8 _ rfl)
set_option maxRecDepth 100000 in
set_option maxHeartbeats 4000000 in
theorem cX10_copiesOfc {l : Launch} {v0 : Option Nat} {v1 : Int32} {σ : HpT} {r : Int32} (h : fX10_copiesOf v0 v1 σ = some r) : IsK σ v0 10 ∧ Ct l yX10_copiesOf cX10_copiesOf 4 (some .int) 1 22 [va_rf v0, .int v1] σ (.ok (some (.int r))) σ 0 0 := by
  unfold fX10_copiesOf at h
  replace h := bnP_s h
  obtain ⟨u, hk, h⟩ := h
  replace hk := isK_s hk
  refine ⟨hk, ?_⟩
  refine ct_start mi_X10_copiesOf.1 rfl (al_le (al_1 (rf_cat _) (al_1 rfl al_n)) (Nat.le_of_ble_eq_true rfl)) (ag_1 (rf_cat _) (ag_1 rfl ag_n)) (fun Δ Γ B hE hnm => ?_)
  refine g_iconst (v := 0) B dX10_copiesOf_0 (by decide) ?_
  refine g_istore_n B dX10_copiesOf_1 rfl (Nat.le_of_ble_eq_true rfl) (s1_c (f1_k rfl (f1_1 rfl rfl f1_n))) ?_
  refine g_iconst (v := 0) B dX10_copiesOf_2 (by decide) ?_
  refine g_istore_n B dX10_copiesOf_3 rfl (Nat.le_of_ble_eq_true rfl) (s1_c (f1_1 rfl rfl (f1_k rfl (f1_k rfl f1_n)))) ?_
  replace h := bnP_s h
  obtain ⟨r2, h3, h⟩ := h
  have kE4 : GW Δ Γ (0) (0) 42 [(2, .int r2)] [] σ := by
    refine g_iload_n B 0 dX10_copiesOf_42 rfl rfl ?_
    replace h := Option.some.inj h
    subst h
    exact g_iret B hE (Nat.zero_le _) (Nat.zero_le _) dX10_copiesOf_43
  clear h
  refine g_sub [2, 3, 1, 0] rfl ?_
  refine lpP_w (I := fun q1 => GW Δ Γ (0) (0) 4 [(0, va_rf v0), (1, .int v1), (2, .int q1.1), (3, .int q1.2)] [] σ) (r := r2) ?_ FUEL (0, 0) h3
  intro q1 x8 h hI6 hR7
  unfold fX10_copiesOf_l1 at h
  refine g_iload_n B 3 dX10_copiesOf_4 rfl rfl ?_
  refine g_aload_n B 0 dX10_copiesOf_5 rfl rfl ?_
  replace h := bnP_s h
  obtain ⟨x10, h11, h⟩ := h
  refine g_getR B fl_RX10_9 (by decide) dX10_copiesOf_6 h11 ?_
  refine g_bipush (v := 6) B dX10_copiesOf_9 (by decide) ?_
  replace h := bnP_s h
  obtain ⟨x12, h13, h⟩ := h
  refine g_iald B dX10_copiesOf_11 h13 ?_
  refine g_icmp_ge B 42 dX10_copiesOf_12 (by decide) (fun hc => ?_) (fun hc => ?_)
  · replace h := ifp hc h
    replace h := Option.some.inj h
    subst h
    have e8 := hR7 _ rfl
    subst e8
    exact g_sub [2] rfl kE4
  · replace h := ifn hc h
    refine g_iload_n B 2 dX10_copiesOf_15 rfl rfl ?_
    refine g_aload_n B 0 dX10_copiesOf_16 rfl rfl ?_
    refine g_iload_n B 3 dX10_copiesOf_17 rfl rfl ?_
    refine g_iconst (v := 0) B dX10_copiesOf_18 (by decide) ?_
    replace h := bnP_s h
    obtain ⟨x14, h15, h⟩ := h
    refine g_callVs0 (st := [.int q1.1]) B (cX10_ofCopyc h15) (Nat.le_of_ble_eq_true rfl) rfl rfl mi_X10_ofCopy lk_RX10_355 ⟨Nat.le_of_ble_eq_true rfl, Nat.le_of_ble_eq_true rfl⟩ rfl rfl (Nat.le_of_ble_eq_true rfl) dX10_copiesOf_19 (Nat.zero_le _) (Nat.zero_le _) ?_
    refine g_iload_n B 1 dX10_copiesOf_22 rfl rfl ?_
    replace h := bnP_s h
    obtain ⟨j16, h17, h⟩ := h
    have k19 : GW Δ Γ (0) (0) 31 [(0, va_rf v0), (1, .int v1), (3, .int q1.2)] [.int j16.2, .int j16.1] σ := by
      replace h := bnP_s h
      obtain ⟨x21, h22, h⟩ := h
      refine g_callSs0 (st := [.int j16.1]) B (cX10_onec h22) mi_X10_one lk_RX10_333 ⟨Nat.le_of_ble_eq_true rfl, Nat.le_of_ble_eq_true rfl⟩ rfl rfl (Nat.le_of_ble_eq_true rfl) dX10_copiesOf_31 (Nat.zero_le _) (Nat.zero_le _) ?_
      refine g_iadd B dX10_copiesOf_34 ?_
      refine g_istore_n B dX10_copiesOf_35 rfl (Nat.le_of_ble_eq_true rfl) (s1_c (f1_k rfl (f1_1 rfl rfl (f1_k rfl f1_n)))) ?_
      refine g_iinc (v := (q1.2 + 1)) B 3 dX10_copiesOf_36 rfl (by first | rfl | (congr 1; decide)) (Nat.le_of_ble_eq_true rfl) (s1_c (f1_1 rfl rfl (f1_k rfl (f1_k rfl (f1_x f1_n))))) ?_
      refine g_goto B 4 dX10_copiesOf_39 (by decide) ?_
      replace h := Option.some.inj h
      subst h
      exact g_sub [2, 3, 1, 0] rfl (hI6 _ rfl)
    clear h
    have h := h17
    clear h17
    refine g_icmp_ne B 30 dX10_copiesOf_23 (by decide) (fun hc => ?_) (fun hc => ?_)
    · replace h := ifn hc h
      refine g_iconst (v := 0) B dX10_copiesOf_30 (by decide) ?_
      replace h := Option.some.inj h
      subst h
      exact g_sub [0, 1, 3] rfl k19
    · replace h := ifp hc h
      refine g_iconst (v := 1) B dX10_copiesOf_26 (by decide) ?_
      refine g_goto B 31 dX10_copiesOf_27 (by decide) ?_
      replace h := Option.some.inj h
      subst h
      exact g_sub [0, 1, 3] rfl k19
set_option maxRecDepth 100000 in
set_option maxHeartbeats 4000000 in
theorem cX10_actc {l : Launch} {v0 : Option Nat} {v1 : Int32} {v2 : Int32} {σ : HpT} {r : Int32} {σ' : HpT} (h : fX10_act v0 v1 v2 σ = some (r, σ')) : IsK σ v0 10 ∧ Ct l yX10_act cX10_act 4 (some .int) 3 68 [va_rf v0, .int v1, .int v2] σ (.ok (some (.int r))) σ' 0 0 := by
  unfold fX10_act at h
  replace h := bnP_s h
  obtain ⟨u, hk, h⟩ := h
  replace hk := isK_s hk
  refine ⟨hk, ?_⟩
  refine ct_start mi_X10_act.1 rfl (al_le (al_1 (rf_cat _) (al_1 rfl (al_1 rfl al_n))) (Nat.le_of_ble_eq_true rfl)) (ag_1 (rf_cat _) (ag_1 rfl (ag_1 rfl ag_n))) (fun Δ Γ B hE hnm => ?_)
  refine g_aload_n B 0 dX10_act_0 rfl rfl ?_
  refine g_aload_n B 0 dX10_act_1 rfl rfl ?_
  replace h := bnP_s h
  obtain ⟨x1, h2, h⟩ := h
  refine g_getI B fl_RX10_48 (by decide) dX10_act_2 h2 ?_
  refine g_aload_n B 0 dX10_act_5 rfl rfl ?_
  refine g_iload_n B 1 dX10_act_6 rfl rfl ?_
  replace h := bnP_s h
  obtain ⟨x3, h4, h⟩ := h
  refine g_callVs0 (st := [.int x1, va_rf v0]) B (cX10_isActc h4) (Nat.le_of_ble_eq_true rfl) rfl rfl mi_X10_isAct lk_RX10_399 ⟨Nat.le_of_ble_eq_true rfl, Nat.le_of_ble_eq_true rfl⟩ rfl rfl (Nat.le_of_ble_eq_true rfl) dX10_act_7 (Nat.zero_le _) (Nat.zero_le _) ?_
  refine g_iload_n B 2 dX10_act_10 rfl rfl ?_
  refine g_iconst (v := 0) B dX10_act_11 (by decide) ?_
  refine g_bipush (v := 11) B dX10_act_12 (by decide) ?_
  replace h := bnP_s h
  obtain ⟨x5, h6, h⟩ := h
  refine g_callSs0 (st := [.int (bI x3), .int x1, va_rf v0]) B (cX10_inc h6) mi_X10_in lk_RX10_69 ⟨Nat.le_of_ble_eq_true rfl, Nat.le_of_ble_eq_true rfl⟩ rfl rfl (Nat.le_of_ble_eq_true rfl) dX10_act_14 (Nat.zero_le _) (Nat.zero_le _) ?_
  replace h := bnS_s h
  obtain ⟨x7, s9, h8, h⟩ := h
  refine g_callVs0 (st := []) B (cX10_mayc h8) (Nat.le_of_ble_eq_true rfl) rfl rfl mi_X10_may lk_RX10_44 ⟨Nat.le_of_ble_eq_true rfl, Nat.le_of_ble_eq_true rfl⟩ rfl rfl (Nat.le_of_ble_eq_true rfl) dX10_act_17 (Nat.zero_le _) (Nat.zero_le _) ?_
  refine g_if_ne B 25 dX10_act_20 (by decide) (fun hc => ?_) (fun hc => ?_)
  · replace h := ifp (bI1 hc) h
    refine g_iload_n B 1 dX10_act_25 rfl rfl ?_
    refine g_iconst (v := 1) B dX10_act_26 (by decide) ?_
    refine g_isub B dX10_act_27 ?_
    refine g_istore_n B dX10_act_28 rfl (Nat.le_of_ble_eq_true rfl) (s1_c (f1_k rfl (f1_k rfl (f1_1 rfl rfl f1_n)))) ?_
    refine g_iload_n B 3 dX10_act_29 rfl rfl ?_
    by_cases n4 : v2 = 4
    · replace h := ifp n4 h
      rw [n4]
      refine g_tableIn B 76 dX10_act_30 (by decide) (by decide) rfl (by decide) ?_
      refine g_aload_n B 1 dX10_act_76 rfl rfl ?_
      refine g_iload_n B 0 dX10_act_77 rfl rfl ?_
      refine g_bipush (v := 6) B dX10_act_78 (by decide) ?_
      replace h := bnP_s h
      obtain ⟨x12, h13, h⟩ := h
      refine g_callVs0 (st := []) B (cX10_ofActc h13) (Nat.le_of_ble_eq_true rfl) rfl rfl mi_X10_ofAct lk_RX10_138 ⟨Nat.le_of_ble_eq_true rfl, Nat.le_of_ble_eq_true rfl⟩ rfl rfl (Nat.le_of_ble_eq_true rfl) dX10_act_80 (Nat.zero_le _) (Nat.zero_le _) ?_
      obtain ⟨w1, w2⟩ := inS h
      clear h
      subst w1
      subst w2
      exact g_iret B hE (Nat.zero_le _) (Nat.zero_le _) dX10_act_83
    replace h := ifn n4 h
    by_cases n5 : v2 = 5
    · replace h := ifp n5 h
      rw [n5]
      refine g_tableIn B 84 dX10_act_30 (by decide) (by decide) rfl (by decide) ?_
      refine g_aload_n B 1 dX10_act_84 rfl rfl ?_
      refine g_iload_n B 0 dX10_act_85 rfl rfl ?_
      replace h := bnP_s h
      obtain ⟨x14, h15, h⟩ := h
      refine g_callVs0 (st := []) B (cX10_standingc h15) (Nat.le_of_ble_eq_true rfl) rfl rfl mi_X10_standing lk_RX10_343 ⟨Nat.le_of_ble_eq_true rfl, Nat.le_of_ble_eq_true rfl⟩ rfl rfl (Nat.le_of_ble_eq_true rfl) dX10_act_86 (Nat.zero_le _) (Nat.zero_le _) ?_
      obtain ⟨w1, w2⟩ := inS h
      clear h
      subst w1
      subst w2
      exact g_iret B hE (Nat.zero_le _) (Nat.zero_le _) dX10_act_89
    replace h := ifn n5 h
    by_cases n6 : v2 = 6
    · replace h := ifp n6 h
      rw [n6]
      refine g_tableIn B 90 dX10_act_30 (by decide) (by decide) rfl (by decide) ?_
      refine g_aload_n B 1 dX10_act_90 rfl rfl ?_
      refine g_iload_n B 0 dX10_act_91 rfl rfl ?_
      refine g_bipush (v := 8) B dX10_act_92 (by decide) ?_
      replace h := bnP_s h
      obtain ⟨x16, h17, h⟩ := h
      refine g_callVs0 (st := []) B (cX10_ofActc h17) (Nat.le_of_ble_eq_true rfl) rfl rfl mi_X10_ofAct lk_RX10_138 ⟨Nat.le_of_ble_eq_true rfl, Nat.le_of_ble_eq_true rfl⟩ rfl rfl (Nat.le_of_ble_eq_true rfl) dX10_act_94 (Nat.zero_le _) (Nat.zero_le _) ?_
      obtain ⟨w1, w2⟩ := inS h
      clear h
      subst w1
      subst w2
      exact g_iret B hE (Nat.zero_le _) (Nat.zero_le _) dX10_act_97
    replace h := ifn n6 h
    by_cases n7 : v2 = 7
    · replace h := ifp n7 h
      rw [n7]
      refine g_tableIn B 98 dX10_act_30 (by decide) (by decide) rfl (by decide) ?_
      refine g_aload_n B 1 dX10_act_98 rfl rfl ?_
      refine g_iload_n B 0 dX10_act_99 rfl rfl ?_
      replace h := bnP_s h
      obtain ⟨x18, h19, h⟩ := h
      refine g_callVs0 (st := []) B (cX10_deepestc h19) (Nat.le_of_ble_eq_true rfl) rfl rfl mi_X10_deepest lk_RX10_416 ⟨Nat.le_of_ble_eq_true rfl, Nat.le_of_ble_eq_true rfl⟩ rfl rfl (Nat.le_of_ble_eq_true rfl) dX10_act_100 (Nat.zero_le _) (Nat.zero_le _) ?_
      obtain ⟨w1, w2⟩ := inS h
      clear h
      subst w1
      subst w2
      exact g_iret B hE (Nat.zero_le _) (Nat.zero_le _) dX10_act_103
    replace h := ifn n7 h
    by_cases n8 : v2 = 8
    · replace h := ifp n8 h
      rw [n8]
      refine g_tableIn B 104 dX10_act_30 (by decide) (by decide) rfl (by decide) ?_
      refine g_aload_n B 1 dX10_act_104 rfl rfl ?_
      refine g_iload_n B 0 dX10_act_105 rfl rfl ?_
      refine g_iconst (v := 5) B dX10_act_106 (by decide) ?_
      replace h := bnP_s h
      obtain ⟨x20, h21, h⟩ := h
      refine g_callVs0 (st := []) B (cX10_ofActc h21) (Nat.le_of_ble_eq_true rfl) rfl rfl mi_X10_ofAct lk_RX10_138 ⟨Nat.le_of_ble_eq_true rfl, Nat.le_of_ble_eq_true rfl⟩ rfl rfl (Nat.le_of_ble_eq_true rfl) dX10_act_107 (Nat.zero_le _) (Nat.zero_le _) ?_
      refine g_aload_n B 1 dX10_act_110 rfl rfl ?_
      replace h := bnP_s h
      obtain ⟨x22, h23, h⟩ := h
      refine g_getR B fl_RX10_9 (by decide) dX10_act_111 h23 ?_
      refine g_iconst (v := 0) B dX10_act_114 (by decide) ?_
      replace h := bnP_s h
      obtain ⟨x24, h25, h⟩ := h
      refine g_iald B dX10_act_115 h25 ?_
      replace h := bnP_s h
      obtain ⟨u26, h27, h⟩ := h
      refine g_idiv B dX10_act_116 (nz_s h27) ?_
      obtain ⟨w1, w2⟩ := inS h
      clear h
      subst w1
      subst w2
      exact g_iret B hE (Nat.zero_le _) (Nat.zero_le _) dX10_act_117
    replace h := ifn n8 h
    by_cases n9 : v2 = 9
    · replace h := ifp n9 h
      rw [n9]
      refine g_tableIn B 118 dX10_act_30 (by decide) (by decide) rfl (by decide) ?_
      refine g_aload_n B 1 dX10_act_118 rfl rfl ?_
      refine g_iload_n B 0 dX10_act_119 rfl rfl ?_
      replace h := bnP_s h
      obtain ⟨x28, h29, h⟩ := h
      refine g_callVs0 (st := []) B (cX10_lastOfc h29) (Nat.le_of_ble_eq_true rfl) rfl rfl mi_X10_lastOf lk_RX10_327 ⟨Nat.le_of_ble_eq_true rfl, Nat.le_of_ble_eq_true rfl⟩ rfl rfl (Nat.le_of_ble_eq_true rfl) dX10_act_120 (Nat.zero_le _) (Nat.zero_le _) ?_
      refine g_aload_n B 1 dX10_act_123 rfl rfl ?_
      replace h := bnP_s h
      obtain ⟨x30, h31, h⟩ := h
      refine g_getR B fl_RX10_9 (by decide) dX10_act_124 h31 ?_
      refine g_iconst (v := 0) B dX10_act_127 (by decide) ?_
      replace h := bnP_s h
      obtain ⟨x32, h33, h⟩ := h
      refine g_iald B dX10_act_128 h33 ?_
      replace h := bnP_s h
      obtain ⟨u34, h35, h⟩ := h
      refine g_idiv B dX10_act_129 (nz_s h35) ?_
      obtain ⟨w1, w2⟩ := inS h
      clear h
      subst w1
      subst w2
      exact g_iret B hE (Nat.zero_le _) (Nat.zero_le _) dX10_act_130
    replace h := ifn n9 h
    by_cases n10 : v2 = 10
    · replace h := ifp n10 h
      rw [n10]
      refine g_tableIn B 131 dX10_act_30 (by decide) (by decide) rfl (by decide) ?_
      refine g_aload_n B 1 dX10_act_131 rfl rfl ?_
      refine g_iload_n B 0 dX10_act_132 rfl rfl ?_
      refine g_iconst (v := 4) B dX10_act_133 (by decide) ?_
      replace h := bnP_s h
      obtain ⟨x36, h37, h⟩ := h
      refine g_callVs0 (st := []) B (cX10_ofActc h37) (Nat.le_of_ble_eq_true rfl) rfl rfl mi_X10_ofAct lk_RX10_138 ⟨Nat.le_of_ble_eq_true rfl, Nat.le_of_ble_eq_true rfl⟩ rfl rfl (Nat.le_of_ble_eq_true rfl) dX10_act_134 (Nat.zero_le _) (Nat.zero_le _) ?_
      obtain ⟨w1, w2⟩ := inS h
      clear h
      subst w1
      subst w2
      exact g_iret B hE (Nat.zero_le _) (Nat.zero_le _) dX10_act_137
    replace h := ifn n10 h
    by_cases n11 : v2 = 11
    · replace h := ifp n11 h
      rw [n11]
      refine g_tableIn B 138 dX10_act_30 (by decide) (by decide) rfl (by decide) ?_
      refine g_aload_n B 1 dX10_act_138 rfl rfl ?_
      refine g_iload_n B 0 dX10_act_139 rfl rfl ?_
      replace h := bnP_s h
      obtain ⟨x38, h39, h⟩ := h
      refine g_callVs0 (st := []) B (cX10_copiesOfc h39) (Nat.le_of_ble_eq_true rfl) rfl rfl mi_X10_copiesOf lk_RX10_419 ⟨Nat.le_of_ble_eq_true rfl, Nat.le_of_ble_eq_true rfl⟩ rfl rfl (Nat.le_of_ble_eq_true rfl) dX10_act_140 (Nat.zero_le _) (Nat.zero_le _) ?_
      obtain ⟨w1, w2⟩ := inS h
      clear h
      subst w1
      subst w2
      exact g_iret B hE (Nat.zero_le _) (Nat.zero_le _) dX10_act_143
    replace h := ifn n11 h
    have mn4 := tne n4 (k := 4) (by decide)
    have mn5 := tne n5 (k := 5) (by decide)
    have mn6 := tne n6 (k := 6) (by decide)
    have mn7 := tne n7 (k := 7) (by decide)
    have mn8 := tne n8 (k := 8) (by decide)
    have mn9 := tne n9 (k := 9) (by decide)
    have mn10 := tne n10 (k := 10) (by decide)
    have mn11 := tne n11 (k := 11) (by decide)
    refine g_tableOut B 144 dX10_act_30 (by omega) (by decide) ?_
    refine g_aload_n B 1 dX10_act_144 rfl rfl ?_
    refine g_iload_n B 0 dX10_act_145 rfl rfl ?_
    refine g_iload_n B 3 dX10_act_146 rfl rfl ?_
    replace h := bnP_s h
    obtain ⟨x10, h11, h⟩ := h
    refine g_callVs0 (st := []) B (cX10_ofActc h11) (Nat.le_of_ble_eq_true rfl) rfl rfl mi_X10_ofAct lk_RX10_138 ⟨Nat.le_of_ble_eq_true rfl, Nat.le_of_ble_eq_true rfl⟩ rfl rfl (Nat.le_of_ble_eq_true rfl) dX10_act_147 (Nat.zero_le _) (Nat.zero_le _) ?_
    obtain ⟨w1, w2⟩ := inS h
    clear h
    subst w1
    subst w2
    exact g_iret B hE (Nat.zero_le _) (Nat.zero_le _) dX10_act_150
  · replace h := ifn (bI0 hc) h
    refine g_iconst (v := 0) B dX10_act_23 (by decide) ?_
    obtain ⟨w1, w2⟩ := inS h
    clear h
    subst w1
    subst w2
    exact g_iret B hE (Nat.zero_le _) (Nat.zero_le _) dX10_act_24
set_option maxRecDepth 100000 in
set_option maxHeartbeats 4000000 in
theorem cX10_clauseNumberc {l : Launch} {v0 : Option Nat} {v1 : Int32} {σ : HpT} {r : Int32} (h : fX10_clauseNumber v0 v1 σ = some r) : IsK σ v0 10 ∧ Ct l yX10_clauseNumber cX10_clauseNumber 2 (some .int) 3 65 [va_rf v0, .int v1] σ (.ok (some (.int r))) σ 0 0 := by
  unfold fX10_clauseNumber at h
  replace h := bnP_s h
  obtain ⟨u, hk, h⟩ := h
  replace hk := isK_s hk
  refine ⟨hk, ?_⟩
  refine ct_start mi_X10_clauseNumber.1 rfl (al_le (al_1 (rf_cat _) (al_1 rfl al_n)) (Nat.le_of_ble_eq_true rfl)) (ag_1 (rf_cat _) (ag_1 rfl ag_n)) (fun Δ Γ B hE hnm => ?_)
  refine g_aload_n B 0 dX10_clauseNumber_0 rfl rfl ?_
  refine g_iload_n B 1 dX10_clauseNumber_1 rfl rfl ?_
  replace h := bnP_s h
  obtain ⟨x1, h2, h⟩ := h
  refine g_callVs0 (st := []) B (cX10_clauseOfc h2) (Nat.le_of_ble_eq_true rfl) rfl rfl mi_X10_clauseOf lk_RX10_203 ⟨Nat.le_of_ble_eq_true rfl, Nat.le_of_ble_eq_true rfl⟩ rfl rfl (Nat.le_of_ble_eq_true rfl) dX10_clauseNumber_2 (Nat.zero_le _) (Nat.zero_le _) ?_
  refine g_iconst (v := (-1)) B dX10_clauseNumber_5 (by decide) ?_
  refine g_icmp_ne B 13 dX10_clauseNumber_6 (by decide) (fun hc => ?_) (fun hc => ?_)
  · replace h := ifn hc h
    refine g_aload_n B 0 dX10_clauseNumber_13 rfl rfl ?_
    refine g_iload_n B 1 dX10_clauseNumber_14 rfl rfl ?_
    replace h := bnP_s h
    obtain ⟨x3, h4, h⟩ := h
    refine g_callVs0 (st := []) B (cX10_clauseOfc h4) (Nat.le_of_ble_eq_true rfl) rfl rfl mi_X10_clauseOf lk_RX10_203 ⟨Nat.le_of_ble_eq_true rfl, Nat.le_of_ble_eq_true rfl⟩ rfl rfl (Nat.le_of_ble_eq_true rfl) dX10_clauseNumber_15 (Nat.zero_le _) (Nat.zero_le _) ?_
    refine g_aload_n B 0 dX10_clauseNumber_18 rfl rfl ?_
    refine g_aload_n B 0 dX10_clauseNumber_19 rfl rfl ?_
    refine g_iload_n B 1 dX10_clauseNumber_20 rfl rfl ?_
    replace h := bnP_s h
    obtain ⟨x5, h6, h⟩ := h
    refine g_callVs0 (st := [va_rf v0, .int x3]) B (cX10_actOfc h6) (Nat.le_of_ble_eq_true rfl) rfl rfl mi_X10_actOf lk_RX10_358 ⟨Nat.le_of_ble_eq_true rfl, Nat.le_of_ble_eq_true rfl⟩ rfl rfl (Nat.le_of_ble_eq_true rfl) dX10_clauseNumber_21 (Nat.zero_le _) (Nat.zero_le _) ?_
    refine g_bipush (v := 7) B dX10_clauseNumber_24 (by decide) ?_
    replace h := bnP_s h
    obtain ⟨x7, h8, h⟩ := h
    refine g_callVs0 (st := [.int x3]) B (cX10_ofActc h8) (Nat.le_of_ble_eq_true rfl) rfl rfl mi_X10_ofAct lk_RX10_138 ⟨Nat.le_of_ble_eq_true rfl, Nat.le_of_ble_eq_true rfl⟩ rfl rfl (Nat.le_of_ble_eq_true rfl) dX10_clauseNumber_26 (Nat.zero_le _) (Nat.zero_le _) ?_
    refine g_isub B dX10_clauseNumber_29 ?_
    replace h := Option.some.inj h
    subst h
    exact g_iret B hE (Nat.zero_le _) (Nat.zero_le _) dX10_clauseNumber_30
  · replace h := ifp hc h
    refine g_iconst (v := (-1)) B dX10_clauseNumber_9 (by decide) ?_
    refine g_goto B 30 dX10_clauseNumber_10 (by decide) ?_
    replace h := Option.some.inj h
    subst h
    exact g_iret B hE (Nat.zero_le _) (Nat.zero_le _) dX10_clauseNumber_30
set_option maxRecDepth 100000 in
set_option maxHeartbeats 4000000 in
theorem cX10_wordc {l : Launch} {v0 : Option Nat} {v1 : Int32} {v2 : Int32} {v3 : Int32} {σ : HpT} {r : Int32} {σ' : HpT} (h : fX10_word v0 v1 v2 v3 σ = some (r, σ')) : IsK σ v0 10 ∧ Ct l yX10_word cX10_word 5 (some .int) 7 154 [va_rf v0, .int v1, .int v2, .int v3] σ (.ok (some (.int r))) σ' 0 0 := by
  unfold fX10_word at h
  replace h := bnP_s h
  obtain ⟨u, hk, h⟩ := h
  replace hk := isK_s hk
  refine ⟨hk, ?_⟩
  refine ct_start mi_X10_word.1 rfl (al_le (al_1 (rf_cat _) (al_1 rfl (al_1 rfl (al_1 rfl al_n)))) (Nat.le_of_ble_eq_true rfl)) (ag_1 (rf_cat _) (ag_1 rfl (ag_1 rfl (ag_1 rfl ag_n)))) (fun Δ Γ B hE hnm => ?_)
  refine g_aload_n B 0 dX10_word_0 rfl rfl ?_
  refine g_aload_n B 0 dX10_word_1 rfl rfl ?_
  replace h := bnP_s h
  obtain ⟨x1, h2, h⟩ := h
  refine g_getI B fl_RX10_48 (by decide) dX10_word_2 h2 ?_
  refine g_aload_n B 0 dX10_word_5 rfl rfl ?_
  refine g_iload_n B 1 dX10_word_6 rfl rfl ?_
  refine g_iload_n B 2 dX10_word_7 rfl rfl ?_
  replace h := bnP_s h
  obtain ⟨x3, h4, h⟩ := h
  refine g_callVs0 (st := [.int x1, va_rf v0]) B (cX10_isWordOfc h4) (Nat.le_of_ble_eq_true rfl) rfl rfl mi_X10_isWordOf lk_RX10_422 ⟨Nat.le_of_ble_eq_true rfl, Nat.le_of_ble_eq_true rfl⟩ rfl rfl (Nat.le_of_ble_eq_true rfl) dX10_word_8 (Nat.zero_le _) (Nat.zero_le _) ?_
  refine g_iload_n B 3 dX10_word_11 rfl rfl ?_
  refine g_iconst (v := 0) B dX10_word_12 (by decide) ?_
  refine g_bipush (v := 7) B dX10_word_13 (by decide) ?_
  replace h := bnP_s h
  obtain ⟨x5, h6, h⟩ := h
  refine g_callSs0 (st := [.int (bI x3), .int x1, va_rf v0]) B (cX10_inc h6) mi_X10_in lk_RX10_69 ⟨Nat.le_of_ble_eq_true rfl, Nat.le_of_ble_eq_true rfl⟩ rfl rfl (Nat.le_of_ble_eq_true rfl) dX10_word_15 (Nat.zero_le _) (Nat.zero_le _) ?_
  replace h := bnS_s h
  obtain ⟨x7, s9, h8, h⟩ := h
  refine g_callVs0 (st := []) B (cX10_mayc h8) (Nat.le_of_ble_eq_true rfl) rfl rfl mi_X10_may lk_RX10_44 ⟨Nat.le_of_ble_eq_true rfl, Nat.le_of_ble_eq_true rfl⟩ rfl rfl (Nat.le_of_ble_eq_true rfl) dX10_word_18 (Nat.zero_le _) (Nat.zero_le _) ?_
  refine g_if_ne B 26 dX10_word_21 (by decide) (fun hc => ?_) (fun hc => ?_)
  · replace h := ifp (bI1 hc) h
    refine g_aload_n B 0 dX10_word_26 rfl rfl ?_
    refine g_iload_n B 1 dX10_word_27 rfl rfl ?_
    refine g_iload_n B 2 dX10_word_28 rfl rfl ?_
    replace h := bnP_s h
    obtain ⟨x10, h11, h⟩ := h
    refine g_callVs0 (st := []) B (cX10_globalOfc h11) (Nat.le_of_ble_eq_true rfl) rfl rfl mi_X10_globalOf lk_RX10_425 ⟨Nat.le_of_ble_eq_true rfl, Nat.le_of_ble_eq_true rfl⟩ rfl rfl (Nat.le_of_ble_eq_true rfl) dX10_word_29 (Nat.zero_le _) (Nat.zero_le _) ?_
    refine g_istore B dX10_word_32 (Nat.le_of_ble_eq_true rfl) (s1_c (f1_k rfl (f1_k rfl (f1_k rfl (f1_1 rfl rfl f1_n))))) ?_
    refine g_iload_n B 4 dX10_word_34 rfl rfl ?_
    by_cases n0 : v3 = 0
    · replace h := ifp n0 h
      rw [n0]
      refine g_tableIn B 76 dX10_word_35 (by decide) (by decide) rfl (by decide) ?_
      refine g_iload B 0 dX10_word_76 rfl ?_
      refine g_aload_n B 1 dX10_word_78 rfl rfl ?_
      replace h := bnP_s h
      obtain ⟨x14, h15, h⟩ := h
      refine g_getR B fl_RX10_9 (by decide) dX10_word_79 h15 ?_
      refine g_iconst (v := 0) B dX10_word_82 (by decide) ?_
      replace h := bnP_s h
      obtain ⟨x16, h17, h⟩ := h
      refine g_iald B dX10_word_83 h17 ?_
      replace h := bnP_s h
      obtain ⟨u18, h19, h⟩ := h
      refine g_idiv B dX10_word_84 (nz_s h19) ?_
      obtain ⟨w1, w2⟩ := inS h
      clear h
      subst w1
      subst w2
      exact g_iret B hE (Nat.zero_le _) (Nat.zero_le _) dX10_word_85
    replace h := ifn n0 h
    by_cases n1 : v3 = 1
    · replace h := ifp n1 h
      rw [n1]
      refine g_tableIn B 86 dX10_word_35 (by decide) (by decide) rfl (by decide) ?_
      refine g_aload_n B 1 dX10_word_86 rfl rfl ?_
      refine g_iload B 0 dX10_word_87 rfl ?_
      refine g_iconst (v := 2) B dX10_word_89 (by decide) ?_
      replace h := bnP_s h
      obtain ⟨x20, h21, h⟩ := h
      refine g_callVs0 (st := []) B (cX10_ofWordc h21) (Nat.le_of_ble_eq_true rfl) rfl rfl mi_X10_ofWord lk_RX10_209 ⟨Nat.le_of_ble_eq_true rfl, Nat.le_of_ble_eq_true rfl⟩ rfl rfl (Nat.le_of_ble_eq_true rfl) dX10_word_90 (Nat.zero_le _) (Nat.zero_le _) ?_
      obtain ⟨w1, w2⟩ := inS h
      clear h
      subst w1
      subst w2
      exact g_iret B hE (Nat.zero_le _) (Nat.zero_le _) dX10_word_93
    replace h := ifn n1 h
    by_cases n2 : v3 = 2
    · replace h := ifp n2 h
      rw [n2]
      refine g_tableIn B 94 dX10_word_35 (by decide) (by decide) rfl (by decide) ?_
      refine g_aload_n B 1 dX10_word_94 rfl rfl ?_
      refine g_aload_n B 1 dX10_word_95 rfl rfl ?_
      refine g_iload B 0 dX10_word_96 rfl ?_
      replace h := bnP_s h
      obtain ⟨x22, h23, h⟩ := h
      refine g_callVs0 (st := [va_rf v0]) B (cX10_clauseOfc h23) (Nat.le_of_ble_eq_true rfl) rfl rfl mi_X10_clauseOf lk_RX10_203 ⟨Nat.le_of_ble_eq_true rfl, Nat.le_of_ble_eq_true rfl⟩ rfl rfl (Nat.le_of_ble_eq_true rfl) dX10_word_98 (Nat.zero_le _) (Nat.zero_le _) ?_
      replace h := bnP_s h
      obtain ⟨x24, h25, h⟩ := h
      refine g_callVs0 (st := []) B (cX10_depthOfc h25) (Nat.le_of_ble_eq_true rfl) rfl rfl mi_X10_depthOf lk_RX10_408 ⟨Nat.le_of_ble_eq_true rfl, Nat.le_of_ble_eq_true rfl⟩ rfl rfl (Nat.le_of_ble_eq_true rfl) dX10_word_101 (Nat.zero_le _) (Nat.zero_le _) ?_
      obtain ⟨w1, w2⟩ := inS h
      clear h
      subst w1
      subst w2
      exact g_iret B hE (Nat.zero_le _) (Nat.zero_le _) dX10_word_104
    replace h := ifn n2 h
    by_cases n3 : v3 = 3
    · replace h := ifp n3 h
      rw [n3]
      refine g_tableIn B 105 dX10_word_35 (by decide) (by decide) rfl (by decide) ?_
      refine g_aload_n B 1 dX10_word_105 rfl rfl ?_
      refine g_iload B 0 dX10_word_106 rfl ?_
      refine g_iconst (v := 4) B dX10_word_108 (by decide) ?_
      replace h := bnP_s h
      obtain ⟨x26, h27, h⟩ := h
      refine g_callVs0 (st := []) B (cX10_ofWordc h27) (Nat.le_of_ble_eq_true rfl) rfl rfl mi_X10_ofWord lk_RX10_209 ⟨Nat.le_of_ble_eq_true rfl, Nat.le_of_ble_eq_true rfl⟩ rfl rfl (Nat.le_of_ble_eq_true rfl) dX10_word_109 (Nat.zero_le _) (Nat.zero_le _) ?_
      obtain ⟨w1, w2⟩ := inS h
      clear h
      subst w1
      subst w2
      exact g_iret B hE (Nat.zero_le _) (Nat.zero_le _) dX10_word_112
    replace h := ifn n3 h
    by_cases n4 : v3 = 4
    · replace h := ifp n4 h
      rw [n4]
      refine g_tableIn B 113 dX10_word_35 (by decide) (by decide) rfl (by decide) ?_
      refine g_aload_n B 1 dX10_word_113 rfl rfl ?_
      refine g_iload B 0 dX10_word_114 rfl ?_
      refine g_iconst (v := 0) B dX10_word_116 (by decide) ?_
      replace h := bnP_s h
      obtain ⟨x28, h29, h⟩ := h
      refine g_callVs0 (st := []) B (cX10_ofWordc h29) (Nat.le_of_ble_eq_true rfl) rfl rfl mi_X10_ofWord lk_RX10_209 ⟨Nat.le_of_ble_eq_true rfl, Nat.le_of_ble_eq_true rfl⟩ rfl rfl (Nat.le_of_ble_eq_true rfl) dX10_word_117 (Nat.zero_le _) (Nat.zero_le _) ?_
      refine g_aload_n B 1 dX10_word_120 rfl rfl ?_
      refine g_iload B 0 dX10_word_121 rfl ?_
      refine g_iconst (v := 1) B dX10_word_123 (by decide) ?_
      replace h := bnP_s h
      obtain ⟨x30, h31, h⟩ := h
      refine g_callVs0 (st := [.int x28]) B (cX10_ofWordc h31) (Nat.le_of_ble_eq_true rfl) rfl rfl mi_X10_ofWord lk_RX10_209 ⟨Nat.le_of_ble_eq_true rfl, Nat.le_of_ble_eq_true rfl⟩ rfl rfl (Nat.le_of_ble_eq_true rfl) dX10_word_124 (Nat.zero_le _) (Nat.zero_le _) ?_
      replace h := bnP_s h
      obtain ⟨x32, h33, h⟩ := h
      refine g_callSs0 (st := []) B (cX10_lengthOfc h33) mi_X10_lengthOf lk_RX10_428 ⟨Nat.le_of_ble_eq_true rfl, Nat.le_of_ble_eq_true rfl⟩ rfl rfl (Nat.le_of_ble_eq_true rfl) dX10_word_127 (Nat.zero_le _) (Nat.zero_le _) ?_
      obtain ⟨w1, w2⟩ := inS h
      clear h
      subst w1
      subst w2
      exact g_iret B hE (Nat.zero_le _) (Nat.zero_le _) dX10_word_130
    replace h := ifn n4 h
    by_cases n5 : v3 = 5
    · replace h := ifp n5 h
      rw [n5]
      refine g_tableIn B 131 dX10_word_35 (by decide) (by decide) rfl (by decide) ?_
      refine g_aload_n B 1 dX10_word_131 rfl rfl ?_
      refine g_iload B 0 dX10_word_132 rfl ?_
      replace h := bnP_s h
      obtain ⟨x34, h35, h⟩ := h
      refine g_callVs0 (st := []) B (cX10_isKnownc h35) (Nat.le_of_ble_eq_true rfl) rfl rfl mi_X10_isKnown lk_RX10_374 ⟨Nat.le_of_ble_eq_true rfl, Nat.le_of_ble_eq_true rfl⟩ rfl rfl (Nat.le_of_ble_eq_true rfl) dX10_word_134 (Nat.zero_le _) (Nat.zero_le _) ?_
      replace h := bnP_s h
      obtain ⟨x36, h37, h⟩ := h
      refine g_callSs0 (st := []) B (cX10_onec h37) mi_X10_one lk_RX10_333 ⟨Nat.le_of_ble_eq_true rfl, Nat.le_of_ble_eq_true rfl⟩ rfl rfl (Nat.le_of_ble_eq_true rfl) dX10_word_137 (Nat.zero_le _) (Nat.zero_le _) ?_
      obtain ⟨w1, w2⟩ := inS h
      clear h
      subst w1
      subst w2
      exact g_iret B hE (Nat.zero_le _) (Nat.zero_le _) dX10_word_140
    replace h := ifn n5 h
    by_cases n6 : v3 = 6
    · replace h := ifp n6 h
      rw [n6]
      refine g_tableIn B 141 dX10_word_35 (by decide) (by decide) rfl (by decide) ?_
      refine g_aload_n B 1 dX10_word_141 rfl rfl ?_
      refine g_iload B 0 dX10_word_142 rfl ?_
      replace h := bnP_s h
      obtain ⟨x38, h39, h⟩ := h
      refine g_callVs0 (st := []) B (cX10_clauseNumberc h39) (Nat.le_of_ble_eq_true rfl) rfl rfl mi_X10_clauseNumber lk_RX10_431 ⟨Nat.le_of_ble_eq_true rfl, Nat.le_of_ble_eq_true rfl⟩ rfl rfl (Nat.le_of_ble_eq_true rfl) dX10_word_144 (Nat.zero_le _) (Nat.zero_le _) ?_
      obtain ⟨w1, w2⟩ := inS h
      clear h
      subst w1
      subst w2
      exact g_iret B hE (Nat.zero_le _) (Nat.zero_le _) dX10_word_147
    replace h := ifn n6 h
    have mn0 := tne n0 (k := 0) (by decide)
    have mn1 := tne n1 (k := 1) (by decide)
    have mn2 := tne n2 (k := 2) (by decide)
    have mn3 := tne n3 (k := 3) (by decide)
    have mn4 := tne n4 (k := 4) (by decide)
    have mn5 := tne n5 (k := 5) (by decide)
    have mn6 := tne n6 (k := 6) (by decide)
    refine g_tableOut B 148 dX10_word_35 (by omega) (by decide) ?_
    refine g_aload_n B 1 dX10_word_148 rfl rfl ?_
    refine g_iload B 0 dX10_word_149 rfl ?_
    replace h := bnP_s h
    obtain ⟨x12, h13, h⟩ := h
    refine g_callVs0 (st := []) B (cX10_copiesWithc h13) (Nat.le_of_ble_eq_true rfl) rfl rfl mi_X10_copiesWith lk_RX10_371 ⟨Nat.le_of_ble_eq_true rfl, Nat.le_of_ble_eq_true rfl⟩ rfl rfl (Nat.le_of_ble_eq_true rfl) dX10_word_151 (Nat.zero_le _) (Nat.zero_le _) ?_
    obtain ⟨w1, w2⟩ := inS h
    clear h
    subst w1
    subst w2
    exact g_iret B hE (Nat.zero_le _) (Nat.zero_le _) dX10_word_154
  · replace h := ifn (bI0 hc) h
    refine g_iconst (v := 0) B dX10_word_24 (by decide) ?_
    obtain ⟨w1, w2⟩ := inS h
    clear h
    subst w1
    subst w2
    exact g_iret B hE (Nat.zero_le _) (Nat.zero_le _) dX10_word_25
set_option maxRecDepth 100000 in
set_option maxHeartbeats 4000000 in
theorem cX10_letterc {l : Launch} {v0 : Option Nat} {v1 : Int32} {v2 : Int32} {v3 : Int32} {σ : HpT} {r : Int32} {σ' : HpT} (h : fX10_letter v0 v1 v2 v3 σ = some (r, σ')) : IsK σ v0 10 ∧ Ct l yX10_letter cX10_letter 5 (some .int) 3 65 [va_rf v0, .int v1, .int v2, .int v3] σ (.ok (some (.int r))) σ' 0 0 := by
  unfold fX10_letter at h
  replace h := bnP_s h
  obtain ⟨u, hk, h⟩ := h
  replace hk := isK_s hk
  refine ⟨hk, ?_⟩
  refine ct_start mi_X10_letter.1 rfl (al_le (al_1 (rf_cat _) (al_1 rfl (al_1 rfl (al_1 rfl al_n)))) (Nat.le_of_ble_eq_true rfl)) (ag_1 (rf_cat _) (ag_1 rfl (ag_1 rfl (ag_1 rfl ag_n)))) (fun Δ Γ B hE hnm => ?_)
  refine g_aload_n B 0 dX10_letter_0 rfl rfl ?_
  refine g_aload_n B 0 dX10_letter_1 rfl rfl ?_
  replace h := bnP_s h
  obtain ⟨x1, h2, h⟩ := h
  refine g_getI B fl_RX10_48 (by decide) dX10_letter_2 h2 ?_
  refine g_aload_n B 0 dX10_letter_5 rfl rfl ?_
  refine g_iload_n B 1 dX10_letter_6 rfl rfl ?_
  refine g_iload_n B 2 dX10_letter_7 rfl rfl ?_
  replace h := bnP_s h
  obtain ⟨x3, h4, h⟩ := h
  refine g_callVs0 (st := [.int x1, va_rf v0]) B (cX10_isWordOfc h4) (Nat.le_of_ble_eq_true rfl) rfl rfl mi_X10_isWordOf lk_RX10_422 ⟨Nat.le_of_ble_eq_true rfl, Nat.le_of_ble_eq_true rfl⟩ rfl rfl (Nat.le_of_ble_eq_true rfl) dX10_letter_8 (Nat.zero_le _) (Nat.zero_le _) ?_
  replace h := bnS_s h
  obtain ⟨x5, s7, h6, h⟩ := h
  refine g_callVs0 (st := []) B (cX10_mayTwoc h6) (Nat.le_of_ble_eq_true rfl) rfl rfl mi_X10_mayTwo lk_RX10_380 ⟨Nat.le_of_ble_eq_true rfl, Nat.le_of_ble_eq_true rfl⟩ rfl rfl (Nat.le_of_ble_eq_true rfl) dX10_letter_11 (Nat.zero_le _) (Nat.zero_le _) ?_
  refine g_if_ne B 19 dX10_letter_14 (by decide) (fun hc => ?_) (fun hc => ?_)
  · replace h := ifp (bI1 hc) h
    refine g_aload_n B 0 dX10_letter_19 rfl rfl ?_
    refine g_iload_n B 1 dX10_letter_20 rfl rfl ?_
    refine g_iload_n B 2 dX10_letter_21 rfl rfl ?_
    replace h := bnP_s h
    obtain ⟨x8, h9, h⟩ := h
    refine g_callVs0 (st := []) B (cX10_globalOfc h9) (Nat.le_of_ble_eq_true rfl) rfl rfl mi_X10_globalOf lk_RX10_425 ⟨Nat.le_of_ble_eq_true rfl, Nat.le_of_ble_eq_true rfl⟩ rfl rfl (Nat.le_of_ble_eq_true rfl) dX10_letter_22 (Nat.zero_le _) (Nat.zero_le _) ?_
    refine g_istore B dX10_letter_25 (Nat.le_of_ble_eq_true rfl) (s1_c (f1_k rfl (f1_k rfl (f1_k rfl (f1_1 rfl rfl f1_n))))) ?_
    refine g_aload_n B 1 dX10_letter_27 rfl rfl ?_
    refine g_iload B 0 dX10_letter_28 rfl ?_
    refine g_iconst (v := 0) B dX10_letter_30 (by decide) ?_
    replace h := bnP_s h
    obtain ⟨x10, h11, h⟩ := h
    refine g_callVs0 (st := []) B (cX10_ofWordc h11) (Nat.le_of_ble_eq_true rfl) rfl rfl mi_X10_ofWord lk_RX10_209 ⟨Nat.le_of_ble_eq_true rfl, Nat.le_of_ble_eq_true rfl⟩ rfl rfl (Nat.le_of_ble_eq_true rfl) dX10_letter_31 (Nat.zero_le _) (Nat.zero_le _) ?_
    refine g_aload_n B 1 dX10_letter_34 rfl rfl ?_
    refine g_iload B 0 dX10_letter_35 rfl ?_
    refine g_iconst (v := 1) B dX10_letter_37 (by decide) ?_
    replace h := bnP_s h
    obtain ⟨x12, h13, h⟩ := h
    refine g_callVs0 (st := [.int x10]) B (cX10_ofWordc h13) (Nat.le_of_ble_eq_true rfl) rfl rfl mi_X10_ofWord lk_RX10_209 ⟨Nat.le_of_ble_eq_true rfl, Nat.le_of_ble_eq_true rfl⟩ rfl rfl (Nat.le_of_ble_eq_true rfl) dX10_letter_38 (Nat.zero_le _) (Nat.zero_le _) ?_
    refine g_iload_n B 4 dX10_letter_41 rfl rfl ?_
    replace h := bnP_s h
    obtain ⟨x14, h15, h⟩ := h
    refine g_callSs0 (st := []) B (cX10_letterOfc h15) mi_X10_letterOf lk_RX10_128 ⟨Nat.le_of_ble_eq_true rfl, Nat.le_of_ble_eq_true rfl⟩ rfl rfl (Nat.le_of_ble_eq_true rfl) dX10_letter_42 (Nat.zero_le _) (Nat.zero_le _) ?_
    obtain ⟨w1, w2⟩ := inS h
    clear h
    subst w1
    subst w2
    exact g_iret B hE (Nat.zero_le _) (Nat.zero_le _) dX10_letter_45
  · replace h := ifn (bI0 hc) h
    refine g_iconst (v := 0) B dX10_letter_17 (by decide) ?_
    obtain ⟨w1, w2⟩ := inS h
    clear h
    subst w1
    subst w2
    exact g_iret B hE (Nat.zero_le _) (Nat.zero_le _) dX10_letter_18
set_option maxRecDepth 100000 in
set_option maxHeartbeats 4000000 in
theorem cX10_innerLetterc {l : Launch} {v0 : Option Nat} {v1 : Int32} {v2 : Int32} {v3 : Int32} {v4 : Int32} {σ : HpT} {r : Int32} {σ' : HpT} (h : fX10_innerLetter v0 v1 v2 v3 v4 σ = some (r, σ')) : IsK σ v0 10 ∧ Ct l yX10_innerLetter cX10_innerLetter 6 (some .int) 3 65 [va_rf v0, .int v1, .int v2, .int v3, .int v4] σ (.ok (some (.int r))) σ' 0 0 := by
  unfold fX10_innerLetter at h
  replace h := bnP_s h
  obtain ⟨u, hk, h⟩ := h
  replace hk := isK_s hk
  refine ⟨hk, ?_⟩
  refine ct_start mi_X10_innerLetter.1 rfl (al_le (al_1 (rf_cat _) (al_1 rfl (al_1 rfl (al_1 rfl (al_1 rfl al_n))))) (Nat.le_of_ble_eq_true rfl)) (ag_1 (rf_cat _) (ag_1 rfl (ag_1 rfl (ag_1 rfl (ag_1 rfl ag_n))))) (fun Δ Γ B hE hnm => ?_)
  refine g_aload_n B 0 dX10_innerLetter_0 rfl rfl ?_
  refine g_aload_n B 0 dX10_innerLetter_1 rfl rfl ?_
  replace h := bnP_s h
  obtain ⟨x1, h2, h⟩ := h
  refine g_getI B fl_RX10_48 (by decide) dX10_innerLetter_2 h2 ?_
  refine g_aload_n B 0 dX10_innerLetter_5 rfl rfl ?_
  refine g_iload_n B 1 dX10_innerLetter_6 rfl rfl ?_
  refine g_iload_n B 2 dX10_innerLetter_7 rfl rfl ?_
  replace h := bnP_s h
  obtain ⟨x3, h4, h⟩ := h
  refine g_callVs0 (st := [.int x1, va_rf v0]) B (cX10_isWordOfc h4) (Nat.le_of_ble_eq_true rfl) rfl rfl mi_X10_isWordOf lk_RX10_422 ⟨Nat.le_of_ble_eq_true rfl, Nat.le_of_ble_eq_true rfl⟩ rfl rfl (Nat.le_of_ble_eq_true rfl) dX10_innerLetter_8 (Nat.zero_le _) (Nat.zero_le _) ?_
  replace h := bnS_s h
  obtain ⟨x5, s7, h6, h⟩ := h
  refine g_callVs0 (st := []) B (cX10_mayTwoc h6) (Nat.le_of_ble_eq_true rfl) rfl rfl mi_X10_mayTwo lk_RX10_380 ⟨Nat.le_of_ble_eq_true rfl, Nat.le_of_ble_eq_true rfl⟩ rfl rfl (Nat.le_of_ble_eq_true rfl) dX10_innerLetter_11 (Nat.zero_le _) (Nat.zero_le _) ?_
  refine g_if_ne B 19 dX10_innerLetter_14 (by decide) (fun hc => ?_) (fun hc => ?_)
  · replace h := ifp (bI1 hc) h
    refine g_aload_n B 0 dX10_innerLetter_19 rfl rfl ?_
    refine g_iload_n B 1 dX10_innerLetter_20 rfl rfl ?_
    refine g_iload_n B 2 dX10_innerLetter_21 rfl rfl ?_
    replace h := bnP_s h
    obtain ⟨x8, h9, h⟩ := h
    refine g_callVs0 (st := []) B (cX10_globalOfc h9) (Nat.le_of_ble_eq_true rfl) rfl rfl mi_X10_globalOf lk_RX10_425 ⟨Nat.le_of_ble_eq_true rfl, Nat.le_of_ble_eq_true rfl⟩ rfl rfl (Nat.le_of_ble_eq_true rfl) dX10_innerLetter_22 (Nat.zero_le _) (Nat.zero_le _) ?_
    refine g_istore B dX10_innerLetter_25 (Nat.le_of_ble_eq_true rfl) (s1_c (f1_k rfl (f1_k rfl (f1_k rfl (f1_k rfl (f1_1 rfl rfl f1_n)))))) ?_
    refine g_iload_n B 4 dX10_innerLetter_27 rfl rfl ?_
    refine g_iconst (v := 0) B dX10_innerLetter_28 (by decide) ?_
    refine g_aload_n B 1 dX10_innerLetter_29 rfl rfl ?_
    refine g_iload B 0 dX10_innerLetter_30 rfl ?_
    refine g_iconst (v := 4) B dX10_innerLetter_32 (by decide) ?_
    replace h := bnP_s h
    obtain ⟨x10, h11, h⟩ := h
    refine g_callVs0 (st := [.int 0, .int v3]) B (cX10_ofWordc h11) (Nat.le_of_ble_eq_true rfl) rfl rfl mi_X10_ofWord lk_RX10_209 ⟨Nat.le_of_ble_eq_true rfl, Nat.le_of_ble_eq_true rfl⟩ rfl rfl (Nat.le_of_ble_eq_true rfl) dX10_innerLetter_33 (Nat.zero_le _) (Nat.zero_le _) ?_
    refine g_iconst (v := 1) B dX10_innerLetter_36 (by decide) ?_
    refine g_isub B dX10_innerLetter_37 ?_
    replace h := bnP_s h
    obtain ⟨x12, h13, h⟩ := h
    refine g_callSs0 (st := []) B (cX10_inc h13) mi_X10_in lk_RX10_69 ⟨Nat.le_of_ble_eq_true rfl, Nat.le_of_ble_eq_true rfl⟩ rfl rfl (Nat.le_of_ble_eq_true rfl) dX10_innerLetter_38 (Nat.zero_le _) (Nat.zero_le _) ?_
    refine g_if_eq B 76 dX10_innerLetter_41 (by decide) (fun hc => ?_) (fun hc => ?_)
    · replace h := ifn (bI0 hc) h
      refine g_iconst (v := (-1)) B dX10_innerLetter_76 (by decide) ?_
      obtain ⟨w1, w2⟩ := inS h
      clear h
      subst w1
      subst w2
      exact g_iret B hE (Nat.zero_le _) (Nat.zero_le _) dX10_innerLetter_77
    · replace h := ifp (bI1 hc) h
      refine g_aload_n B 1 dX10_innerLetter_44 rfl rfl ?_
      refine g_iload B 0 dX10_innerLetter_45 rfl ?_
      refine g_iconst (v := 5) B dX10_innerLetter_47 (by decide) ?_
      refine g_iconst (v := 2) B dX10_innerLetter_48 (by decide) ?_
      refine g_iload_n B 4 dX10_innerLetter_49 rfl rfl ?_
      refine g_imul B dX10_innerLetter_50 ?_
      refine g_iadd B dX10_innerLetter_51 ?_
      replace h := bnP_s h
      obtain ⟨x14, h15, h⟩ := h
      refine g_callVs0 (st := []) B (cX10_ofWordc h15) (Nat.le_of_ble_eq_true rfl) rfl rfl mi_X10_ofWord lk_RX10_209 ⟨Nat.le_of_ble_eq_true rfl, Nat.le_of_ble_eq_true rfl⟩ rfl rfl (Nat.le_of_ble_eq_true rfl) dX10_innerLetter_52 (Nat.zero_le _) (Nat.zero_le _) ?_
      refine g_aload_n B 1 dX10_innerLetter_55 rfl rfl ?_
      refine g_iload B 0 dX10_innerLetter_56 rfl ?_
      refine g_iconst (v := 5) B dX10_innerLetter_58 (by decide) ?_
      refine g_iconst (v := 2) B dX10_innerLetter_59 (by decide) ?_
      refine g_iload_n B 4 dX10_innerLetter_60 rfl rfl ?_
      refine g_imul B dX10_innerLetter_61 ?_
      refine g_iadd B dX10_innerLetter_62 ?_
      refine g_iconst (v := 1) B dX10_innerLetter_63 (by decide) ?_
      refine g_iadd B dX10_innerLetter_64 ?_
      replace h := bnP_s h
      obtain ⟨x16, h17, h⟩ := h
      refine g_callVs0 (st := [.int x14]) B (cX10_ofWordc h17) (Nat.le_of_ble_eq_true rfl) rfl rfl mi_X10_ofWord lk_RX10_209 ⟨Nat.le_of_ble_eq_true rfl, Nat.le_of_ble_eq_true rfl⟩ rfl rfl (Nat.le_of_ble_eq_true rfl) dX10_innerLetter_65 (Nat.zero_le _) (Nat.zero_le _) ?_
      refine g_iload B 5 dX10_innerLetter_68 rfl ?_
      replace h := bnP_s h
      obtain ⟨x18, h19, h⟩ := h
      refine g_callSs0 (st := []) B (cX10_letterOfc h19) mi_X10_letterOf lk_RX10_128 ⟨Nat.le_of_ble_eq_true rfl, Nat.le_of_ble_eq_true rfl⟩ rfl rfl (Nat.le_of_ble_eq_true rfl) dX10_innerLetter_70 (Nat.zero_le _) (Nat.zero_le _) ?_
      refine g_goto B 77 dX10_innerLetter_73 (by decide) ?_
      obtain ⟨w1, w2⟩ := inS h
      clear h
      subst w1
      subst w2
      exact g_iret B hE (Nat.zero_le _) (Nat.zero_le _) dX10_innerLetter_77
  · replace h := ifn (bI0 hc) h
    refine g_iconst (v := 0) B dX10_innerLetter_17 (by decide) ?_
    obtain ⟨w1, w2⟩ := inS h
    clear h
    subst w1
    subst w2
    exact g_iret B hE (Nat.zero_le _) (Nat.zero_le _) dX10_innerLetter_18
set_option maxRecDepth 100000 in
set_option maxHeartbeats 4000000 in
theorem cX10_standingWrittenc {l : Launch} {v0 : Option Nat} {v1 : Int32} {v2 : Int32} {σ : HpT} {r : Int32} (h : fX10_standingWritten v0 v1 v2 σ = some r) : IsK σ v0 10 ∧ Ct l yX10_standingWritten cX10_standingWritten 5 (some .int) 2 43 [va_rf v0, .int v1, .int v2] σ (.ok (some (.int r))) σ 0 0 := by
  unfold fX10_standingWritten at h
  replace h := bnP_s h
  obtain ⟨u, hk, h⟩ := h
  replace hk := isK_s hk
  refine ⟨hk, ?_⟩
  refine ct_start mi_X10_standingWritten.1 rfl (al_le (al_1 (rf_cat _) (al_1 rfl (al_1 rfl al_n))) (Nat.le_of_ble_eq_true rfl)) (ag_1 (rf_cat _) (ag_1 rfl (ag_1 rfl ag_n))) (fun Δ Γ B hE hnm => ?_)
  refine g_iconst (v := 0) B dX10_standingWritten_0 (by decide) ?_
  refine g_istore_n B dX10_standingWritten_1 rfl (Nat.le_of_ble_eq_true rfl) (s1_c (f1_k rfl (f1_k rfl (f1_1 rfl rfl f1_n)))) ?_
  refine g_iload_n B 2 dX10_standingWritten_2 rfl rfl ?_
  refine g_istore B dX10_standingWritten_3 (Nat.le_of_ble_eq_true rfl) (s1_c (f1_1 rfl rfl (f1_k rfl (f1_k rfl (f1_k rfl f1_n))))) ?_
  replace h := bnP_s h
  obtain ⟨r2, h3, h⟩ := h
  have kE4 : GW Δ Γ (0) (0) 29 [(3, .int r2)] [] σ := by
    refine g_iload_n B 0 dX10_standingWritten_29 rfl rfl ?_
    replace h := Option.some.inj h
    subst h
    exact g_iret B hE (Nat.zero_le _) (Nat.zero_le _) dX10_standingWritten_30
  clear h
  refine g_sub [2, 4, 1, 0] rfl ?_
  refine lpP_w (I := fun q1 => GW Δ Γ (0) (0) 5 [(0, va_rf v0), (2, .int v2), (3, .int q1.1), (4, .int q1.2)] [] σ) (r := r2) ?_ FUEL (0, v1) h3
  intro q1 x8 h hI6 hR7
  unfold fX10_standingWritten_l1 at h
  refine g_iload B 3 dX10_standingWritten_5 rfl ?_
  refine g_iload_n B 1 dX10_standingWritten_7 rfl rfl ?_
  refine g_icmp_gt B 29 dX10_standingWritten_8 (by decide) (fun hc => ?_) (fun hc => ?_)
  · replace h := ifp hc h
    replace h := Option.some.inj h
    subst h
    have e8 := hR7 _ rfl
    subst e8
    exact g_sub [2] rfl kE4
  · replace h := ifn hc h
    refine g_iload_n B 2 dX10_standingWritten_11 rfl rfl ?_
    refine g_aload_n B 0 dX10_standingWritten_12 rfl rfl ?_
    refine g_iload B 3 dX10_standingWritten_13 rfl ?_
    replace h := bnP_s h
    obtain ⟨x10, h11, h⟩ := h
    refine g_callVs0 (st := [.int q1.1]) B (cX10_standsc h11) (Nat.le_of_ble_eq_true rfl) rfl rfl mi_X10_stands lk_RX10_330 ⟨Nat.le_of_ble_eq_true rfl, Nat.le_of_ble_eq_true rfl⟩ rfl rfl (Nat.le_of_ble_eq_true rfl) dX10_standingWritten_15 (Nat.zero_le _) (Nat.zero_le _) ?_
    replace h := bnP_s h
    obtain ⟨x12, h13, h⟩ := h
    refine g_callSs0 (st := [.int q1.1]) B (cX10_onec h13) mi_X10_one lk_RX10_333 ⟨Nat.le_of_ble_eq_true rfl, Nat.le_of_ble_eq_true rfl⟩ rfl rfl (Nat.le_of_ble_eq_true rfl) dX10_standingWritten_18 (Nat.zero_le _) (Nat.zero_le _) ?_
    refine g_iadd B dX10_standingWritten_21 ?_
    refine g_istore_n B dX10_standingWritten_22 rfl (Nat.le_of_ble_eq_true rfl) (s1_c (f1_k rfl (f1_1 rfl rfl (f1_x (f1_k rfl f1_n))))) ?_
    refine g_iinc (v := (q1.2 + 1)) B 3 dX10_standingWritten_23 rfl (by first | rfl | (congr 1; decide)) (Nat.le_of_ble_eq_true rfl) (s1_c (f1_1 rfl rfl (f1_k rfl (f1_k rfl (f1_x f1_n))))) ?_
    refine g_goto B 5 dX10_standingWritten_26 (by decide) ?_
    replace h := Option.some.inj h
    subst h
    exact g_sub [2, 3, 1, 0] rfl (hI6 _ rfl)
set_option maxRecDepth 100000 in
set_option maxHeartbeats 4000000 in
theorem cX10_clausesInc {l : Launch} {v0 : Option Nat} {v1 : Int32} {v2 : Int32} {σ : HpT} {r : Int32} (h : fX10_clausesIn v0 v1 v2 σ = some r) : IsK σ v0 10 ∧ Ct l yX10_clausesIn cX10_clausesIn 5 (some .int) 1 22 [va_rf v0, .int v1, .int v2] σ (.ok (some (.int r))) σ 0 0 := by
  unfold fX10_clausesIn at h
  replace h := bnP_s h
  obtain ⟨u, hk, h⟩ := h
  replace hk := isK_s hk
  refine ⟨hk, ?_⟩
  refine ct_start mi_X10_clausesIn.1 rfl (al_le (al_1 (rf_cat _) (al_1 rfl (al_1 rfl al_n))) (Nat.le_of_ble_eq_true rfl)) (ag_1 (rf_cat _) (ag_1 rfl (ag_1 rfl ag_n))) (fun Δ Γ B hE hnm => ?_)
  refine g_iconst (v := 0) B dX10_clausesIn_0 (by decide) ?_
  refine g_istore_n B dX10_clausesIn_1 rfl (Nat.le_of_ble_eq_true rfl) (s1_c (f1_k rfl (f1_k rfl (f1_1 rfl rfl f1_n)))) ?_
  refine g_iconst (v := 0) B dX10_clausesIn_2 (by decide) ?_
  refine g_istore B dX10_clausesIn_3 (Nat.le_of_ble_eq_true rfl) (s1_c (f1_1 rfl rfl (f1_k rfl (f1_k rfl (f1_k rfl f1_n))))) ?_
  replace h := bnP_s h
  obtain ⟨r2, h3, h⟩ := h
  have kE4 : GW Δ Γ (0) (0) 55 [(3, .int r2)] [] σ := by
    refine g_iload_n B 0 dX10_clausesIn_55 rfl rfl ?_
    replace h := Option.some.inj h
    subst h
    exact g_iret B hE (Nat.zero_le _) (Nat.zero_le _) dX10_clausesIn_56
  clear h
  refine g_sub [2, 3, 4, 1, 0] rfl ?_
  refine lpP_w (I := fun q1 => GW Δ Γ (0) (0) 5 [(0, va_rf v0), (1, .int v1), (2, .int v2), (3, .int q1.1), (4, .int q1.2)] [] σ) (r := r2) ?_ FUEL (0, 0) h3
  intro q1 x8 h hI6 hR7
  unfold fX10_clausesIn_l1 at h
  refine g_iload B 4 dX10_clausesIn_5 rfl ?_
  refine g_aload_n B 0 dX10_clausesIn_7 rfl rfl ?_
  refine g_iload_n B 1 dX10_clausesIn_8 rfl rfl ?_
  refine g_bipush (v := 8) B dX10_clausesIn_9 (by decide) ?_
  replace h := bnP_s h
  obtain ⟨x10, h11, h⟩ := h
  refine g_callVs0 (st := [.int q1.2]) B (cX10_ofActc h11) (Nat.le_of_ble_eq_true rfl) rfl rfl mi_X10_ofAct lk_RX10_138 ⟨Nat.le_of_ble_eq_true rfl, Nat.le_of_ble_eq_true rfl⟩ rfl rfl (Nat.le_of_ble_eq_true rfl) dX10_clausesIn_11 (Nat.zero_le _) (Nat.zero_le _) ?_
  refine g_icmp_ge B 55 dX10_clausesIn_14 (by decide) (fun hc => ?_) (fun hc => ?_)
  · replace h := ifp hc h
    replace h := Option.some.inj h
    subst h
    have e8 := hR7 _ rfl
    subst e8
    exact g_sub [3] rfl kE4
  · replace h := ifn hc h
    refine g_iload_n B 3 dX10_clausesIn_17 rfl rfl ?_
    refine g_aload_n B 0 dX10_clausesIn_18 rfl rfl ?_
    refine g_aload_n B 0 dX10_clausesIn_19 rfl rfl ?_
    refine g_iload_n B 1 dX10_clausesIn_20 rfl rfl ?_
    refine g_bipush (v := 7) B dX10_clausesIn_21 (by decide) ?_
    replace h := bnP_s h
    obtain ⟨x12, h13, h⟩ := h
    refine g_callVs0 (st := [va_rf v0, .int q1.1]) B (cX10_ofActc h13) (Nat.le_of_ble_eq_true rfl) rfl rfl mi_X10_ofAct lk_RX10_138 ⟨Nat.le_of_ble_eq_true rfl, Nat.le_of_ble_eq_true rfl⟩ rfl rfl (Nat.le_of_ble_eq_true rfl) dX10_clausesIn_23 (Nat.zero_le _) (Nat.zero_le _) ?_
    refine g_iload B 4 dX10_clausesIn_26 rfl ?_
    refine g_iadd B dX10_clausesIn_28 ?_
    refine g_iconst (v := 2) B dX10_clausesIn_29 (by decide) ?_
    replace h := bnP_s h
    obtain ⟨x14, h15, h⟩ := h
    refine g_callVs0 (st := [.int q1.1]) B (cX10_ofClausec h15) (Nat.le_of_ble_eq_true rfl) rfl rfl mi_X10_ofClause lk_RX10_145 ⟨Nat.le_of_ble_eq_true rfl, Nat.le_of_ble_eq_true rfl⟩ rfl rfl (Nat.le_of_ble_eq_true rfl) dX10_clausesIn_30 (Nat.zero_le _) (Nat.zero_le _) ?_
    refine g_iload_n B 2 dX10_clausesIn_33 rfl rfl ?_
    refine g_iconst (v := 1) B dX10_clausesIn_34 (by decide) ?_
    refine g_iadd B dX10_clausesIn_35 ?_
    replace h := bnP_s h
    obtain ⟨j16, h17, h⟩ := h
    have k19 : GW Δ Γ (0) (0) 44 [(0, va_rf v0), (1, .int v1), (2, .int v2), (4, .int q1.2)] [.int j16.2, .int j16.1] σ := by
      replace h := bnP_s h
      obtain ⟨x21, h22, h⟩ := h
      refine g_callSs0 (st := [.int j16.1]) B (cX10_onec h22) mi_X10_one lk_RX10_333 ⟨Nat.le_of_ble_eq_true rfl, Nat.le_of_ble_eq_true rfl⟩ rfl rfl (Nat.le_of_ble_eq_true rfl) dX10_clausesIn_44 (Nat.zero_le _) (Nat.zero_le _) ?_
      refine g_iadd B dX10_clausesIn_47 ?_
      refine g_istore_n B dX10_clausesIn_48 rfl (Nat.le_of_ble_eq_true rfl) (s1_c (f1_k rfl (f1_k rfl (f1_1 rfl rfl (f1_k rfl f1_n))))) ?_
      refine g_iinc (v := (q1.2 + 1)) B 4 dX10_clausesIn_49 rfl (by first | rfl | (congr 1; decide)) (Nat.le_of_ble_eq_true rfl) (s1_c (f1_1 rfl rfl (f1_k rfl (f1_k rfl (f1_k rfl (f1_x f1_n)))))) ?_
      refine g_goto B 5 dX10_clausesIn_52 (by decide) ?_
      replace h := Option.some.inj h
      subst h
      exact g_sub [2, 3, 4, 1, 0] rfl (hI6 _ rfl)
    clear h
    have h := h17
    clear h17
    refine g_icmp_ne B 43 dX10_clausesIn_36 (by decide) (fun hc => ?_) (fun hc => ?_)
    · replace h := ifn hc h
      refine g_iconst (v := 0) B dX10_clausesIn_43 (by decide) ?_
      replace h := Option.some.inj h
      subst h
      exact g_sub [0, 1, 2, 4] rfl k19
    · replace h := ifp hc h
      refine g_iconst (v := 1) B dX10_clausesIn_39 (by decide) ?_
      refine g_goto B 44 dX10_clausesIn_40 (by decide) ?_
      replace h := Option.some.inj h
      subst h
      exact g_sub [0, 1, 2, 4] rfl k19
set_option maxRecDepth 100000 in
set_option maxHeartbeats 4000000 in
theorem cX10_clausec {l : Launch} {v0 : Option Nat} {v1 : Int32} {v2 : Int32} {v3 : Int32} {σ : HpT} {r : Int32} {σ' : HpT} (h : fX10_clause v0 v1 v2 v3 σ = some (r, σ')) : IsK σ v0 10 ∧ Ct l yX10_clause cX10_clause 8 (some .int) 3 67 [va_rf v0, .int v1, .int v2, .int v3] σ (.ok (some (.int r))) σ' 0 0 := by
  unfold fX10_clause at h
  replace h := bnP_s h
  obtain ⟨u, hk, h⟩ := h
  replace hk := isK_s hk
  refine ⟨hk, ?_⟩
  refine ct_start mi_X10_clause.1 rfl (al_le (al_1 (rf_cat _) (al_1 rfl (al_1 rfl (al_1 rfl al_n)))) (Nat.le_of_ble_eq_true rfl)) (ag_1 (rf_cat _) (ag_1 rfl (ag_1 rfl (ag_1 rfl ag_n)))) (fun Δ Γ B hE hnm => ?_)
  refine g_aload_n B 0 dX10_clause_0 rfl rfl ?_
  refine g_iload_n B 1 dX10_clause_1 rfl rfl ?_
  replace h := bnP_s h
  obtain ⟨x1, h2, h⟩ := h
  refine g_callVs0 (st := []) B (cX10_isActc h2) (Nat.le_of_ble_eq_true rfl) rfl rfl mi_X10_isAct lk_RX10_399 ⟨Nat.le_of_ble_eq_true rfl, Nat.le_of_ble_eq_true rfl⟩ rfl rfl (Nat.le_of_ble_eq_true rfl) dX10_clause_2 (Nat.zero_le _) (Nat.zero_le _) ?_
  replace h := bnP_s h
  obtain ⟨j3, h4, h⟩ := h
  have k6 : GW Δ Γ (0) (0) 32 [(0, va_rf v0), (1, .int v1), (2, .int v2), (3, .int v3)] [.int j3] σ := by
    refine g_istore B dX10_clause_32 (Nat.le_of_ble_eq_true rfl) (s1_c (f1_k rfl (f1_k rfl (f1_k rfl (f1_1 rfl rfl f1_n))))) ?_
    refine g_aload_n B 1 dX10_clause_34 rfl rfl ?_
    refine g_aload_n B 1 dX10_clause_35 rfl rfl ?_
    replace h := bnP_s h
    obtain ⟨x12, h13, h⟩ := h
    refine g_getI B fl_RX10_48 (by decide) dX10_clause_36 h13 ?_
    refine g_iload B 0 dX10_clause_39 rfl ?_
    refine g_iload_n B 4 dX10_clause_41 rfl rfl ?_
    refine g_iconst (v := 0) B dX10_clause_42 (by decide) ?_
    refine g_iconst (v := 5) B dX10_clause_43 (by decide) ?_
    replace h := bnP_s h
    obtain ⟨x14, h15, h⟩ := h
    refine g_callSs0 (st := [.int j3, .int x12, va_rf v0]) B (cX10_inc h15) mi_X10_in lk_RX10_69 ⟨Nat.le_of_ble_eq_true rfl, Nat.le_of_ble_eq_true rfl⟩ rfl rfl (Nat.le_of_ble_eq_true rfl) dX10_clause_44 (Nat.zero_le _) (Nat.zero_le _) ?_
    replace h := bnS_s h
    obtain ⟨x16, s18, h17, h⟩ := h
    refine g_callVs0 (st := []) B (cX10_mayc h17) (Nat.le_of_ble_eq_true rfl) rfl rfl mi_X10_may lk_RX10_44 ⟨Nat.le_of_ble_eq_true rfl, Nat.le_of_ble_eq_true rfl⟩ rfl rfl (Nat.le_of_ble_eq_true rfl) dX10_clause_47 (Nat.zero_le _) (Nat.zero_le _) ?_
    refine g_if_ne B 55 dX10_clause_50 (by decide) (fun hc => ?_) (fun hc => ?_)
    · replace h := ifp (bI1 hc) h
      refine g_aload_n B 1 dX10_clause_55 rfl rfl ?_
      refine g_iload_n B 2 dX10_clause_56 rfl rfl ?_
      refine g_iconst (v := 1) B dX10_clause_57 (by decide) ?_
      refine g_isub B dX10_clause_58 ?_
      refine g_bipush (v := 7) B dX10_clause_59 (by decide) ?_
      replace h := bnP_s h
      obtain ⟨x19, h20, h⟩ := h
      refine g_callVs0 (st := []) B (cX10_ofActc h20) (Nat.le_of_ble_eq_true rfl) rfl rfl mi_X10_ofAct lk_RX10_138 ⟨Nat.le_of_ble_eq_true rfl, Nat.le_of_ble_eq_true rfl⟩ rfl rfl (Nat.le_of_ble_eq_true rfl) dX10_clause_61 (Nat.zero_le _) (Nat.zero_le _) ?_
      refine g_iload_n B 3 dX10_clause_64 rfl rfl ?_
      refine g_iadd B dX10_clause_65 ?_
      refine g_istore B dX10_clause_66 (Nat.le_of_ble_eq_true rfl) (s1_c (f1_1 rfl rfl (f1_k rfl (f1_k rfl (f1_k rfl (f1_k rfl f1_n)))))) ?_
      refine g_aload_n B 2 dX10_clause_68 rfl rfl ?_
      refine g_iload B 0 dX10_clause_69 rfl ?_
      refine g_iconst (v := 0) B dX10_clause_71 (by decide) ?_
      replace h := bnP_s h
      obtain ⟨x21, h22, h⟩ := h
      refine g_callVs0 (st := []) B (cX10_ofClausec h22) (Nat.le_of_ble_eq_true rfl) rfl rfl mi_X10_ofClause lk_RX10_145 ⟨Nat.le_of_ble_eq_true rfl, Nat.le_of_ble_eq_true rfl⟩ rfl rfl (Nat.le_of_ble_eq_true rfl) dX10_clause_72 (Nat.zero_le _) (Nat.zero_le _) ?_
      refine g_istore B dX10_clause_75 (Nat.le_of_ble_eq_true rfl) (s1_c (f1_1 rfl rfl (f1_k rfl (f1_k rfl (f1_k rfl (f1_k rfl (f1_k rfl f1_n))))))) ?_
      refine g_aload_n B 3 dX10_clause_77 rfl rfl ?_
      refine g_iload B 1 dX10_clause_78 rfl ?_
      refine g_iconst (v := 1) B dX10_clause_80 (by decide) ?_
      replace h := bnP_s h
      obtain ⟨x23, h24, h⟩ := h
      refine g_callVs0 (st := []) B (cX10_ofClausec h24) (Nat.le_of_ble_eq_true rfl) rfl rfl mi_X10_ofClause lk_RX10_145 ⟨Nat.le_of_ble_eq_true rfl, Nat.le_of_ble_eq_true rfl⟩ rfl rfl (Nat.le_of_ble_eq_true rfl) dX10_clause_81 (Nat.zero_le _) (Nat.zero_le _) ?_
      refine g_istore B dX10_clause_84 (Nat.le_of_ble_eq_true rfl) (s1_c (f1_1 rfl rfl (f1_k rfl (f1_k rfl (f1_k rfl (f1_k rfl (f1_k rfl (f1_k rfl f1_n)))))))) ?_
      refine g_iload_n B 7 dX10_clause_86 rfl rfl ?_
      by_cases n0 : v3 = 0
      · replace h := ifp n0 h
        rw [n0]
        refine g_tableIn B 120 dX10_clause_87 (by decide) (by decide) rfl (by decide) ?_
        refine g_iload B 1 dX10_clause_120 rfl ?_
        refine g_aload_n B 4 dX10_clause_122 rfl rfl ?_
        refine g_iload_n B 5 dX10_clause_123 rfl rfl ?_
        refine g_iconst (v := 1) B dX10_clause_124 (by decide) ?_
        refine g_isub B dX10_clause_125 ?_
        refine g_iconst (v := 5) B dX10_clause_126 (by decide) ?_
        replace h := bnP_s h
        obtain ⟨x27, h28, h⟩ := h
        refine g_callVs0 (st := [.int x21]) B (cX10_ofActc h28) (Nat.le_of_ble_eq_true rfl) rfl rfl mi_X10_ofAct lk_RX10_138 ⟨Nat.le_of_ble_eq_true rfl, Nat.le_of_ble_eq_true rfl⟩ rfl rfl (Nat.le_of_ble_eq_true rfl) dX10_clause_127 (Nat.zero_le _) (Nat.zero_le _) ?_
        refine g_isub B dX10_clause_130 ?_
        obtain ⟨w1, w2⟩ := inS h
        clear h
        subst w1
        subst w2
        exact g_iret B hE (Nat.zero_le _) (Nat.zero_le _) dX10_clause_131
      replace h := ifn n0 h
      by_cases n1 : v3 = 1
      · replace h := ifp n1 h
        rw [n1]
        refine g_tableIn B 132 dX10_clause_87 (by decide) (by decide) rfl (by decide) ?_
        refine g_iload B 0 dX10_clause_132 rfl ?_
        refine g_aload_n B 4 dX10_clause_134 rfl rfl ?_
        refine g_iload_n B 5 dX10_clause_135 rfl rfl ?_
        refine g_iconst (v := 1) B dX10_clause_136 (by decide) ?_
        refine g_isub B dX10_clause_137 ?_
        refine g_iconst (v := 5) B dX10_clause_138 (by decide) ?_
        replace h := bnP_s h
        obtain ⟨x29, h30, h⟩ := h
        refine g_callVs0 (st := [.int x23]) B (cX10_ofActc h30) (Nat.le_of_ble_eq_true rfl) rfl rfl mi_X10_ofAct lk_RX10_138 ⟨Nat.le_of_ble_eq_true rfl, Nat.le_of_ble_eq_true rfl⟩ rfl rfl (Nat.le_of_ble_eq_true rfl) dX10_clause_139 (Nat.zero_le _) (Nat.zero_le _) ?_
        refine g_isub B dX10_clause_142 ?_
        obtain ⟨w1, w2⟩ := inS h
        clear h
        subst w1
        subst w2
        exact g_iret B hE (Nat.zero_le _) (Nat.zero_le _) dX10_clause_143
      replace h := ifn n1 h
      by_cases n2 : v3 = 2
      · replace h := ifp n2 h
        rw [n2]
        refine g_tableIn B 144 dX10_clause_87 (by decide) (by decide) rfl (by decide) ?_
        refine g_iload B 0 dX10_clause_144 rfl ?_
        refine g_iload B 1 dX10_clause_146 rfl ?_
        refine g_isub B dX10_clause_148 ?_
        refine g_iconst (v := 1) B dX10_clause_149 (by decide) ?_
        refine g_iadd B dX10_clause_150 ?_
        obtain ⟨w1, w2⟩ := inS h
        clear h
        subst w1
        subst w2
        exact g_iret B hE (Nat.zero_le _) (Nat.zero_le _) dX10_clause_151
      replace h := ifn n2 h
      by_cases n3 : v3 = 3
      · replace h := ifp n3 h
        rw [n3]
        refine g_tableIn B 152 dX10_clause_87 (by decide) (by decide) rfl (by decide) ?_
        refine g_aload_n B 4 dX10_clause_152 rfl rfl ?_
        refine g_iload B 1 dX10_clause_153 rfl ?_
        refine g_iload B 0 dX10_clause_155 rfl ?_
        replace h := bnP_s h
        obtain ⟨x31, h32, h⟩ := h
        refine g_callVs0 (st := []) B (cX10_standingWrittenc h32) (Nat.le_of_ble_eq_true rfl) rfl rfl mi_X10_standingWritten lk_RX10_434 ⟨Nat.le_of_ble_eq_true rfl, Nat.le_of_ble_eq_true rfl⟩ rfl rfl (Nat.le_of_ble_eq_true rfl) dX10_clause_157 (Nat.zero_le _) (Nat.zero_le _) ?_
        obtain ⟨w1, w2⟩ := inS h
        clear h
        subst w1
        subst w2
        exact g_iret B hE (Nat.zero_le _) (Nat.zero_le _) dX10_clause_160
      replace h := ifn n3 h
      by_cases n4 : v3 = 4
      · replace h := ifp n4 h
        rw [n4]
        refine g_tableIn B 161 dX10_clause_87 (by decide) (by decide) rfl (by decide) ?_
        refine g_aload_n B 4 dX10_clause_161 rfl rfl ?_
        refine g_iload B 2 dX10_clause_162 rfl ?_
        replace h := bnP_s h
        obtain ⟨x33, h34, h⟩ := h
        refine g_callVs0 (st := []) B (cX10_depthOfc h34) (Nat.le_of_ble_eq_true rfl) rfl rfl mi_X10_depthOf lk_RX10_408 ⟨Nat.le_of_ble_eq_true rfl, Nat.le_of_ble_eq_true rfl⟩ rfl rfl (Nat.le_of_ble_eq_true rfl) dX10_clause_164 (Nat.zero_le _) (Nat.zero_le _) ?_
        obtain ⟨w1, w2⟩ := inS h
        clear h
        subst w1
        subst w2
        exact g_iret B hE (Nat.zero_le _) (Nat.zero_le _) dX10_clause_167
      replace h := ifn n4 h
      have mn0 := tne n0 (k := 0) (by decide)
      have mn1 := tne n1 (k := 1) (by decide)
      have mn2 := tne n2 (k := 2) (by decide)
      have mn3 := tne n3 (k := 3) (by decide)
      have mn4 := tne n4 (k := 4) (by decide)
      refine g_tableOut B 168 dX10_clause_87 (by omega) (by decide) ?_
      refine g_aload_n B 4 dX10_clause_168 rfl rfl ?_
      refine g_iload_n B 5 dX10_clause_169 rfl rfl ?_
      refine g_iconst (v := 1) B dX10_clause_170 (by decide) ?_
      refine g_isub B dX10_clause_171 ?_
      refine g_iload B 2 dX10_clause_172 rfl ?_
      replace h := bnP_s h
      obtain ⟨x25, h26, h⟩ := h
      refine g_callVs0 (st := []) B (cX10_clausesInc h26) (Nat.le_of_ble_eq_true rfl) rfl rfl mi_X10_clausesIn lk_RX10_437 ⟨Nat.le_of_ble_eq_true rfl, Nat.le_of_ble_eq_true rfl⟩ rfl rfl (Nat.le_of_ble_eq_true rfl) dX10_clause_174 (Nat.zero_le _) (Nat.zero_le _) ?_
      obtain ⟨w1, w2⟩ := inS h
      clear h
      subst w1
      subst w2
      exact g_iret B hE (Nat.zero_le _) (Nat.zero_le _) dX10_clause_177
    · replace h := ifn (bI0 hc) h
      refine g_iconst (v := 0) B dX10_clause_53 (by decide) ?_
      obtain ⟨w1, w2⟩ := inS h
      clear h
      subst w1
      subst w2
      exact g_iret B hE (Nat.zero_le _) (Nat.zero_le _) dX10_clause_54
  clear h
  have h := h4
  clear h4
  refine g_if_eq B 31 dX10_clause_5 (by decide) (fun hc => ?_) (fun hc => ?_)
  · replace h := ifn (bI0 hc) h
    refine g_iconst (v := 0) B dX10_clause_31 (by decide) ?_
    replace h := Option.some.inj h
    subst h
    exact g_sub [0, 1, 2, 3] rfl k6
  · replace h := ifp (bI1 hc) h
    refine g_iload_n B 2 dX10_clause_8 rfl rfl ?_
    refine g_iconst (v := 0) B dX10_clause_9 (by decide) ?_
    refine g_aload_n B 0 dX10_clause_10 rfl rfl ?_
    refine g_iload_n B 1 dX10_clause_11 rfl rfl ?_
    refine g_iconst (v := 1) B dX10_clause_12 (by decide) ?_
    refine g_isub B dX10_clause_13 ?_
    refine g_bipush (v := 8) B dX10_clause_14 (by decide) ?_
    replace h := bnP_s h
    obtain ⟨x8, h9, h⟩ := h
    refine g_callVs0 (st := [.int 0, .int v2]) B (cX10_ofActc h9) (Nat.le_of_ble_eq_true rfl) rfl rfl mi_X10_ofAct lk_RX10_138 ⟨Nat.le_of_ble_eq_true rfl, Nat.le_of_ble_eq_true rfl⟩ rfl rfl (Nat.le_of_ble_eq_true rfl) dX10_clause_16 (Nat.zero_le _) (Nat.zero_le _) ?_
    refine g_iconst (v := 1) B dX10_clause_19 (by decide) ?_
    refine g_isub B dX10_clause_20 ?_
    replace h := bnP_s h
    obtain ⟨x10, h11, h⟩ := h
    refine g_callSs0 (st := []) B (cX10_inc h11) mi_X10_in lk_RX10_69 ⟨Nat.le_of_ble_eq_true rfl, Nat.le_of_ble_eq_true rfl⟩ rfl rfl (Nat.le_of_ble_eq_true rfl) dX10_clause_21 (Nat.zero_le _) (Nat.zero_le _) ?_
    refine g_if_eq B 31 dX10_clause_24 (by decide) (fun hc => ?_) (fun hc => ?_)
    · replace h := ifn (bI0 hc) h
      refine g_iconst (v := 0) B dX10_clause_31 (by decide) ?_
      replace h := Option.some.inj h
      subst h
      exact g_sub [0, 1, 2, 3] rfl k6
    · replace h := ifp (bI1 hc) h
      refine g_iconst (v := 1) B dX10_clause_27 (by decide) ?_
      refine g_goto B 32 dX10_clause_28 (by decide) ?_
      replace h := Option.some.inj h
      subst h
      exact g_sub [0, 1, 2, 3] rfl k6
set_option maxRecDepth 100000 in
set_option maxHeartbeats 4000000 in
theorem cX10_firstOnc {l : Launch} {v0 : Option Nat} {v1 : Int32} {σ : HpT} {r : Int32} (h : fX10_firstOn v0 v1 σ = some r) : IsK σ v0 10 ∧ Ct l yX10_firstOn cX10_firstOn 2 (some .int) 0 0 [va_rf v0, .int v1] σ (.ok (some (.int r))) σ 0 0 := by
  unfold fX10_firstOn at h
  replace h := bnP_s h
  obtain ⟨u, hk, h⟩ := h
  replace hk := isK_s hk
  refine ⟨hk, ?_⟩
  refine ct_start mi_X10_firstOn.1 rfl (al_le (al_1 (rf_cat _) (al_1 rfl al_n)) (Nat.le_of_ble_eq_true rfl)) (ag_1 (rf_cat _) (ag_1 rfl ag_n)) (fun Δ Γ B hE hnm => ?_)
  refine g_iload_n B 1 dX10_firstOn_0 rfl rfl ?_
  refine g_aload_n B 0 dX10_firstOn_1 rfl rfl ?_
  replace h := bnP_s h
  obtain ⟨x1, h2, h⟩ := h
  refine g_getR B fl_RX10_9 (by decide) dX10_firstOn_2 h2 ?_
  refine g_iconst (v := 0) B dX10_firstOn_5 (by decide) ?_
  replace h := bnP_s h
  obtain ⟨x3, h4, h⟩ := h
  refine g_iald B dX10_firstOn_6 h4 ?_
  refine g_imul B dX10_firstOn_7 ?_
  replace h := Option.some.inj h
  subst h
  exact g_iret B hE (Nat.zero_le _) (Nat.zero_le _) dX10_firstOn_8
