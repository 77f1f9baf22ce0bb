theorem mi_X9_bestCopy : MI yX9_bestCopy cX9_bestCopy 7 (some .int) 1 := ⟨by decide +kernel, (mw (i := 1398) (by decide +kernel) rfl), (mw (i := 162) (by decide +kernel) rfl), by decide +kernel, by decide +kernel⟩
theorem mi_X9_common : MI yX9_common cX9_common 7 (some .int) 2 := ⟨by decide +kernel, (mw (i := 1452) (by decide +kernel) rfl), (mw (i := 162) (by decide +kernel) rfl), by decide +kernel, by decide +kernel⟩
theorem mi_X9_copyWords : MI yX9_copyWords cX9_copyWords 4 (some .int) 2 := ⟨by decide +kernel, (mw (i := 1390) (by decide +kernel) rfl), (mw (i := 162) (by decide +kernel) rfl), by decide +kernel, by decide +kernel⟩
theorem mi_X9_endOfWords : MI yX9_endOfWords cX9_endOfWords 1 (some .int) 0 := ⟨by decide +kernel, (mw (i := 1781) (by decide +kernel) rfl), (mw (i := 162) (by decide +kernel) rfl), by decide +kernel, by decide +kernel⟩
theorem mi_X9_findWord : MI yX9_findWord cX9_findWord 4 (some .int) 1 := ⟨by decide +kernel, (mw (i := 1420) (by decide +kernel) rfl), (mw (i := 162) (by decide +kernel) rfl), by decide +kernel, by decide +kernel⟩
theorem mi_X9_inputWord : MI yX9_inputWord cX9_inputWord 5 (some .long) 1 := ⟨by decide +kernel, (mw (i := 1424) (by decide +kernel) rfl), (mw (i := 162) (by decide +kernel) rfl), by decide +kernel, by decide +kernel⟩
theorem mi_X9_knownShare : MI yX9_knownShare cX9_knownShare 2 (some .float) 0 := ⟨by decide +kernel, (mw (i := 1460) (by decide +kernel) rfl), (mw (i := 162) (by decide +kernel) rfl), by decide +kernel, by decide +kernel⟩
theorem mi_X9_leavesFor : MI yX9_leavesFor cX9_leavesFor 3 (some .int) 1 := ⟨by decide +kernel, (mw (i := 1382) (by decide +kernel) rfl), (mw (i := 162) (by decide +kernel) rfl), by decide +kernel, by decide +kernel⟩
theorem mi_X9_longest : MI yX9_longest cX9_longest 7 (some .int) 1 := ⟨by decide +kernel, (mw (i := 1445) (by decide +kernel) rfl), (mw (i := 162) (by decide +kernel) rfl), by decide +kernel, by decide +kernel⟩
theorem mi_X9_meanWords : MI yX9_meanWords cX9_meanWords 2 (some .double) 0 := ⟨by decide +kernel, (mw (i := 1467) (by decide +kernel) rfl), (mw (i := 162) (by decide +kernel) rfl), by decide +kernel, by decide +kernel⟩
theorem mi_X9_rowAt : MI yX9_rowAt cX9_rowAt 2 (some (.object "NotaryBook$Book")) 2 := ⟨by decide +kernel, (mw (i := 1844) (by decide +kernel) rfl), (mw (i := 162) (by decide +kernel) rfl), by decide +kernel, by decide +kernel⟩
theorem mi_X9_shakenOut : MI yX9_shakenOut cX9_shakenOut 2 (some .int) 0 := ⟨by decide +kernel, (mw (i := 1367) (by decide +kernel) rfl), (mw (i := 162) (by decide +kernel) rfl), by decide +kernel, by decide +kernel⟩
theorem mi_X9_standingIf : MI yX9_standingIf cX9_standingIf 4 (some .int) 2 := ⟨by decide +kernel, (mw (i := 1409) (by decide +kernel) rfl), (mw (i := 162) (by decide +kernel) rfl), by decide +kernel, by decide +kernel⟩
theorem mi_X9_textByte : MI yX9_textByte cX9_textByte 2 (some .int) 1 := ⟨by decide +kernel, (mw (i := 1812) (by decide +kernel) rfl), (mw (i := 162) (by decide +kernel) rfl), by decide +kernel, by decide +kernel⟩
theorem mi_X9_unknownIf : MI yX9_unknownIf cX9_unknownIf 2 (some .int) 1 := ⟨by decide +kernel, (mw (i := 1349) (by decide +kernel) rfl), (mw (i := 162) (by decide +kernel) rfl), by decide +kernel, by decide +kernel⟩
theorem mi_X9_whyNotCopy : MI yX9_whyNotCopy cX9_whyNotCopy 3 (some .int) 2 := ⟨by decide +kernel, (mw (i := 1333) (by decide +kernel) rfl), (mw (i := 162) (by decide +kernel) rfl), by decide +kernel, by decide +kernel⟩
theorem mi_X9_whyNotStrike : MI yX9_whyNotStrike cX9_whyNotStrike 2 (some .int) 1 := ⟨by decide +kernel, (mw (i := 1341) (by decide +kernel) rfl), (mw (i := 162) (by decide +kernel) rfl), by decide +kernel, by decide +kernel⟩
theorem mi_X9_worstLeaf : MI yX9_worstLeaf cX9_worstLeaf 5 (some .int) 0 := ⟨by decide +kernel, (mw (i := 1360) (by decide +kernel) rfl), (mw (i := 162) (by decide +kernel) rfl), by decide +kernel, by decide +kernel⟩
theorem mi_X9_writeAct : MI yX9_writeAct cX9_writeAct 6 (some .int) 1 := ⟨by decide +kernel, (mw (i := 1478) (by decide +kernel) rfl), (mw (i := 162) (by decide +kernel) rfl), by decide +kernel, by decide +kernel⟩
theorem mi_X9_writeCopy : MI yX9_writeCopy cX9_writeCopy 5 (some .int) 1 := ⟨by decide +kernel, (mw (i := 1805) (by decide +kernel) rfl), (mw (i := 162) (by decide +kernel) rfl), by decide +kernel, by decide +kernel⟩
theorem mi_X9_writeInserts : MI yX9_writeInserts cX9_writeInserts 3 none 1 := ⟨by decide +kernel, (mw (i := 1777) (by decide +kernel) rfl), (mw (i := 162) (by decide +kernel) rfl), by decide +kernel, by decide +kernel⟩
theorem mi_X9_writeLeaf : MI yX9_writeLeaf cX9_writeLeaf 5 (some .int) 1 := ⟨by decide +kernel, (mw (i := 1788) (by decide +kernel) rfl), (mw (i := 162) (by decide +kernel) rfl), by decide +kernel, by decide +kernel⟩
theorem mi_X9_writeStanding : MI yX9_writeStanding cX9_writeStanding 5 (some .int) 1 := ⟨by decide +kernel, (mw (i := 1773) (by decide +kernel) rfl), (mw (i := 162) (by decide +kernel) rfl), by decide +kernel, by decide +kernel⟩
theorem fl_RX9_332 : Fg RX9 332 1 11 := ⟨RX1, TX1, 12, rfl, by decide, rfl, lay_1, (mw (i := 411) (by decide +kernel) rfl)⟩
theorem fl_RX9_370 : Fg RX9 370 8 2 := ⟨RX8, TX8, 7, rfl, by decide, rfl, lay_8, (mw (i := 224) (by decide +kernel) rfl)⟩
theorem fl_RX9_385 : Fg RX9 385 8 3 := ⟨RX8, TX8, 7, rfl, by decide, rfl, lay_8, (mw (i := 227) (by decide +kernel) rfl)⟩
theorem fl_RX9_388 : Fg RX9 388 6 0 := ⟨RX6, TX6, 1, rfl, by decide, rfl, lay_6, (mw (i := 537) (by decide +kernel) rfl)⟩
theorem lk_RX9_313 : LV RX9 313 yX1_copyReason := ⟨(mw (i := 1334) (by decide +kernel) rfl), (mw (i := 1005) (by decide +kernel) rfl), (mw (i := 1006) (by decide +kernel) rfl)⟩
theorem lk_RX9_316 : LV RX9 316 yX1_strikeReason := ⟨(mw (i := 1342) (by decide +kernel) rfl), (mw (i := 902) (by decide +kernel) rfl), (mw (i := 903) (by decide +kernel) rfl)⟩
theorem lk_RX9_319 : LV RX9 319 yX1_wouldBeUnknown := ⟨(mw (i := 1350) (by decide +kernel) rfl), (mw (i := 1351) (by decide +kernel) rfl), (mw (i := 1352) (by decide +kernel) rfl)⟩
theorem lk_RX9_322 : LV RX9 322 yX4_take := ⟨(mw (i := 1368) (by decide +kernel) rfl), (mw (i := 1369) (by decide +kernel) rfl), (mw (i := 1370) (by decide +kernel) rfl)⟩
theorem lk_RX9_326 : LV RX9 326 yX4_dropLoose := ⟨(mw (i := 1375) (by decide +kernel) rfl), (mw (i := 1039) (by decide +kernel) rfl), (mw (i := 1040) (by decide +kernel) rfl)⟩
theorem lk_RX9_329 : LV RX9 329 yX1_leavesOf := ⟨(mw (i := 1383) (by decide +kernel) rfl), (mw (i := 875) (by decide +kernel) rfl), (mw (i := 876) (by decide +kernel) rfl)⟩
theorem lk_RX9_336 : LV RX9 336 yX3_draw := ⟨(mw (i := 1391) (by decide +kernel) rfl), (mw (i := 1009) (by decide +kernel) rfl), (mw (i := 1010) (by decide +kernel) rfl)⟩
theorem lk_RX9_340 : LV RX9 340 yX1_copiedWith := ⟨(mw (i := 1399) (by decide +kernel) rfl), (mw (i := 1400) (by decide +kernel) rfl), (mw (i := 1401) (by decide +kernel) rfl)⟩
theorem lk_RX9_345 : LV RX9 345 yX1_openStanding := ⟨(mw (i := 1411) (by decide +kernel) rfl), (mw (i := 975) (by decide +kernel) rfl), (mw (i := 976) (by decide +kernel) rfl)⟩
theorem lk_RX9_348 : LV RX9 348 yX1_seekClauseAround := ⟨(mw (i := 1412) (by decide +kernel) rfl), (mw (i := 923) (by decide +kernel) rfl), (mw (i := 924) (by decide +kernel) rfl)⟩
theorem lk_RX9_353 : LV RX9 353 yX9_inputWord := ⟨(mw (i := 1421) (by decide +kernel) rfl), (mw (i := 1423) (by decide +kernel) rfl), (mw (i := 30) (by decide +kernel) rfl)⟩
theorem lk_RX9_357 : LV RX9 357 yX1_firstActWith := ⟨(mw (i := 1426) (by decide +kernel) rfl), (mw (i := 1427) (by decide +kernel) rfl), (mw (i := 1428) (by decide +kernel) rfl)⟩
theorem lk_RX9_360 : LV RX9 360 yX8_standsWritten := ⟨(mw (i := 1453) (by decide +kernel) rfl), (mw (i := 1431) (by decide +kernel) rfl), (mw (i := 1432) (by decide +kernel) rfl)⟩
theorem lk_RX9_364 : LV RX9 364 yX1_standingOfSealed := ⟨(mw (i := 1468) (by decide +kernel) rfl), (mw (i := 1469) (by decide +kernel) rfl), (mw (i := 1470) (by decide +kernel) rfl)⟩
theorem lk_RX9_367 : LV RX9 367 yX6_startText := ⟨(mw (i := 1479) (by decide +kernel) rfl), (mw (i := 1480) (by decide +kernel) rfl), (mw (i := 1481) (by decide +kernel) rfl)⟩
theorem lk_RX9_373 : LV RX9 373 yX6_putSigns := ⟨(mw (i := 1730) (by decide +kernel) rfl), (mw (i := 1731) (by decide +kernel) rfl), (mw (i := 1732) (by decide +kernel) rfl)⟩
theorem lk_RX9_377 : LV RX9 377 yX6_putMarkedWord := ⟨(mw (i := 1752) (by decide +kernel) rfl), (mw (i := 1753) (by decide +kernel) rfl), (mw (i := 1754) (by decide +kernel) rfl)⟩
theorem lk_RX9_381 : LV RX9 381 yX6_putWord := ⟨(mw (i := 1762) (by decide +kernel) rfl), (mw (i := 1763) (by decide +kernel) rfl), (mw (i := 1764) (by decide +kernel) rfl)⟩
theorem lk_RX9_392 : LV RX9 392 yJ4_length_8abf5 := ⟨(mw (i := 1766) (by decide +kernel) rfl), (mw (i := 1640) (by decide +kernel) rfl), (mw (i := 2848) (by decide +kernel) rfl)⟩
theorem lk_RX9_397 : LV RX9 397 yX9_writeInserts := ⟨(mw (i := 1774) (by decide +kernel) rfl), (mw (i := 1776) (by decide +kernel) rfl), (mw (i := 33) (by decide +kernel) rfl)⟩
theorem lk_RX9_400 : LV RX9 400 yX9_endOfWords := ⟨(mw (i := 1778) (by decide +kernel) rfl), (mw (i := 1780) (by decide +kernel) rfl), (mw (i := 34) (by decide +kernel) rfl)⟩
theorem lk_RX9_403 : LV RX9 403 yX4_isLost := ⟨(mw (i := 1789) (by decide +kernel) rfl), (mw (i := 852) (by decide +kernel) rfl), (mw (i := 853) (by decide +kernel) rfl)⟩
theorem lk_RX9_406 : LV RX9 406 yX1_actBegunAt := ⟨(mw (i := 1790) (by decide +kernel) rfl), (mw (i := 1791) (by decide +kernel) rfl), (mw (i := 1792) (by decide +kernel) rfl)⟩
theorem lk_RX9_409 : LV RX9 409 yX6_putNumberedWord := ⟨(mw (i := 1794) (by decide +kernel) rfl), (mw (i := 1795) (by decide +kernel) rfl), (mw (i := 1796) (by decide +kernel) rfl)⟩
theorem lk_RX9_415 : LV RX9 415 yJ4_charAt_5068e := ⟨(mw (i := 1814) (by decide +kernel) rfl), (mw (i := 1815) (by decide +kernel) rfl), (mw (i := 1816) (by decide +kernel) rfl)⟩
theorem lk_RX9_551 : LSt RX9 551 yX9_isLetter := ⟨(mw (i := 1425) (by decide +kernel) rfl), (mw (i := 713) (by decide +kernel) rfl)⟩
theorem dX9_whyNotCopy_0 : decode cX9_whyNotCopy 0 = .ok (.aload_n 0, 1) := by decide +kernel
theorem dX9_whyNotCopy_1 : decode cX9_whyNotCopy 1 = .ok (.invokevirtual 95, 3) := by decide +kernel
theorem dX9_whyNotCopy_4 : decode cX9_whyNotCopy 4 = .ok (.aload_n 0, 1) := by decide +kernel
theorem dX9_whyNotCopy_5 : decode cX9_whyNotCopy 5 = .ok (.iload_n 1, 1) := by decide +kernel
theorem dX9_whyNotCopy_6 : decode cX9_whyNotCopy 6 = .ok (.invokevirtual 153, 3) := by decide +kernel
theorem dX9_whyNotCopy_9 : decode cX9_whyNotCopy 9 = .ok (.pop, 1) := by decide +kernel
theorem dX9_whyNotCopy_10 : decode cX9_whyNotCopy 10 = .ok (.iload_n 2, 1) := by decide +kernel
theorem dX9_whyNotCopy_11 : decode cX9_whyNotCopy 11 = .ok (.iconst 2, 1) := by decide +kernel
theorem dX9_whyNotCopy_12 : decode cX9_whyNotCopy 12 = .ok (.invokestatic 98, 3) := by decide +kernel
theorem dX9_whyNotCopy_15 : decode cX9_whyNotCopy 15 = .ok (.aload_n 0, 1) := by decide +kernel
theorem dX9_whyNotCopy_16 : decode cX9_whyNotCopy 16 = .ok (.getfield 20, 3) := by decide +kernel
theorem dX9_whyNotCopy_19 : decode cX9_whyNotCopy 19 = .ok (.iload_n 1, 1) := by decide +kernel
theorem dX9_whyNotCopy_20 : decode cX9_whyNotCopy 20 = .ok (.iload_n 2, 1) := by decide +kernel
theorem dX9_whyNotCopy_21 : decode cX9_whyNotCopy 21 = .ok (.invokevirtual 313, 3) := by decide +kernel
theorem dX9_whyNotCopy_24 : decode cX9_whyNotCopy 24 = .ok (.ireturn, 1) := by decide +kernel
theorem dX9_whyNotStrike_0 : decode cX9_whyNotStrike 0 = .ok (.aload_n 0, 1) := by decide +kernel
theorem dX9_whyNotStrike_1 : decode cX9_whyNotStrike 1 = .ok (.invokevirtual 95, 3) := by decide +kernel
theorem dX9_whyNotStrike_4 : decode cX9_whyNotStrike 4 = .ok (.aload_n 0, 1) := by decide +kernel
theorem dX9_whyNotStrike_5 : decode cX9_whyNotStrike 5 = .ok (.getfield 20, 3) := by decide +kernel
theorem dX9_whyNotStrike_8 : decode cX9_whyNotStrike 8 = .ok (.iload_n 1, 1) := by decide +kernel
theorem dX9_whyNotStrike_9 : decode cX9_whyNotStrike 9 = .ok (.invokevirtual 316, 3) := by decide +kernel
theorem dX9_whyNotStrike_12 : decode cX9_whyNotStrike 12 = .ok (.ireturn, 1) := by decide +kernel
theorem dX9_unknownIf_0 : decode cX9_unknownIf 0 = .ok (.aload_n 0, 1) := by decide +kernel
theorem dX9_unknownIf_1 : decode cX9_unknownIf 1 = .ok (.invokevirtual 95, 3) := by decide +kernel
theorem dX9_unknownIf_4 : decode cX9_unknownIf 4 = .ok (.aload_n 0, 1) := by decide +kernel
theorem dX9_unknownIf_5 : decode cX9_unknownIf 5 = .ok (.iload_n 1, 1) := by decide +kernel
theorem dX9_unknownIf_6 : decode cX9_unknownIf 6 = .ok (.invokevirtual 254, 3) := by decide +kernel
theorem dX9_unknownIf_9 : decode cX9_unknownIf 9 = .ok (.aload_n 0, 1) := by decide +kernel
theorem dX9_unknownIf_10 : decode cX9_unknownIf 10 = .ok (.getfield 20, 3) := by decide +kernel
theorem dX9_unknownIf_13 : decode cX9_unknownIf 13 = .ok (.iload_n 1, 1) := by decide +kernel
theorem dX9_unknownIf_14 : decode cX9_unknownIf 14 = .ok (.invokevirtual 319, 3) := by decide +kernel
theorem dX9_unknownIf_17 : decode cX9_unknownIf 17 = .ok (.ireturn, 1) := by decide +kernel
theorem dX9_worstLeaf_0 : decode cX9_worstLeaf 0 = .ok (.aload_n 0, 1) := by decide +kernel
theorem dX9_worstLeaf_1 : decode cX9_worstLeaf 1 = .ok (.invokevirtual 95, 3) := by decide +kernel
theorem dX9_worstLeaf_4 : decode cX9_worstLeaf 4 = .ok (.iconst (-1), 1) := by decide +kernel
theorem dX9_worstLeaf_5 : decode cX9_worstLeaf 5 = .ok (.istore_n 1, 1) := by decide +kernel
theorem dX9_worstLeaf_6 : decode cX9_worstLeaf 6 = .ok (.iconst (-1), 1) := by decide +kernel
theorem dX9_worstLeaf_7 : decode cX9_worstLeaf 7 = .ok (.istore_n 2, 1) := by decide +kernel
theorem dX9_worstLeaf_8 : decode cX9_worstLeaf 8 = .ok (.iconst 0, 1) := by decide +kernel
theorem dX9_worstLeaf_9 : decode cX9_worstLeaf 9 = .ok (.istore_n 3, 1) := by decide +kernel
theorem dX9_worstLeaf_10 : decode cX9_worstLeaf 10 = .ok (.iload_n 3, 1) := by decide +kernel
theorem dX9_worstLeaf_11 : decode cX9_worstLeaf 11 = .ok (.aload_n 0, 1) := by decide +kernel
theorem dX9_worstLeaf_12 : decode cX9_worstLeaf 12 = .ok (.getfield 20, 3) := by decide +kernel
theorem dX9_worstLeaf_15 : decode cX9_worstLeaf 15 = .ok (.getfield 108, 3) := by decide +kernel
theorem dX9_worstLeaf_18 : decode cX9_worstLeaf 18 = .ok (.getfield 123, 3) := by decide +kernel
theorem dX9_worstLeaf_21 : decode cX9_worstLeaf 21 = .ok (.if_icmp .ge 30, 3) := by decide +kernel
theorem dX9_worstLeaf_24 : decode cX9_worstLeaf 24 = .ok (.aload_n 0, 1) := by decide +kernel
theorem dX9_worstLeaf_25 : decode cX9_worstLeaf 25 = .ok (.getfield 20, 3) := by decide +kernel
theorem dX9_worstLeaf_28 : decode cX9_worstLeaf 28 = .ok (.iload_n 3, 1) := by decide +kernel
theorem dX9_worstLeaf_29 : decode cX9_worstLeaf 29 = .ok (.invokevirtual 319, 3) := by decide +kernel
theorem dX9_worstLeaf_32 : decode cX9_worstLeaf 32 = .ok (.istore 4, 2) := by decide +kernel
theorem dX9_worstLeaf_34 : decode cX9_worstLeaf 34 = .ok (.iload 4, 2) := by decide +kernel
theorem dX9_worstLeaf_36 : decode cX9_worstLeaf 36 = .ok (.iload_n 2, 1) := by decide +kernel
theorem dX9_worstLeaf_37 : decode cX9_worstLeaf 37 = .ok (.if_icmp .le 8, 3) := by decide +kernel
theorem dX9_worstLeaf_40 : decode cX9_worstLeaf 40 = .ok (.iload 4, 2) := by decide +kernel
theorem dX9_worstLeaf_42 : decode cX9_worstLeaf 42 = .ok (.istore_n 2, 1) := by decide +kernel
theorem dX9_worstLeaf_43 : decode cX9_worstLeaf 43 = .ok (.iload_n 3, 1) := by decide +kernel
theorem dX9_worstLeaf_44 : decode cX9_worstLeaf 44 = .ok (.istore_n 1, 1) := by decide +kernel
theorem dX9_worstLeaf_45 : decode cX9_worstLeaf 45 = .ok (.iinc 3 1, 3) := by decide +kernel
theorem dX9_worstLeaf_48 : decode cX9_worstLeaf 48 = .ok (.goto (-38), 3) := by decide +kernel
theorem dX9_worstLeaf_51 : decode cX9_worstLeaf 51 = .ok (.iload_n 1, 1) := by decide +kernel
theorem dX9_worstLeaf_52 : decode cX9_worstLeaf 52 = .ok (.ireturn, 1) := by decide +kernel
theorem dX9_shakenOut_0 : decode cX9_shakenOut 0 = .ok (.aload_n 0, 1) := by decide +kernel
theorem dX9_shakenOut_1 : decode cX9_shakenOut 1 = .ok (.invokevirtual 95, 3) := by decide +kernel
theorem dX9_shakenOut_4 : decode cX9_shakenOut 4 = .ok (.aload_n 0, 1) := by decide +kernel
theorem dX9_shakenOut_5 : decode cX9_shakenOut 5 = .ok (.getfield 48, 3) := by decide +kernel
theorem dX9_shakenOut_8 : decode cX9_shakenOut 8 = .ok (.aload_n 0, 1) := by decide +kernel
theorem dX9_shakenOut_9 : decode cX9_shakenOut 9 = .ok (.getfield 20, 3) := by decide +kernel
theorem dX9_shakenOut_12 : decode cX9_shakenOut 12 = .ok (.getfield 108, 3) := by decide +kernel
theorem dX9_shakenOut_15 : decode cX9_shakenOut 15 = .ok (.invokevirtual 322, 3) := by decide +kernel
theorem dX9_shakenOut_18 : decode cX9_shakenOut 18 = .ok (.iconst 0, 1) := by decide +kernel
theorem dX9_shakenOut_19 : decode cX9_shakenOut 19 = .ok (.istore_n 1, 1) := by decide +kernel
theorem dX9_shakenOut_20 : decode cX9_shakenOut 20 = .ok (.iload_n 1, 1) := by decide +kernel
theorem dX9_shakenOut_21 : decode cX9_shakenOut 21 = .ok (.bipush 12, 2) := by decide +kernel
theorem dX9_shakenOut_23 : decode cX9_shakenOut 23 = .ok (.if_icmp .ge 19, 3) := by decide +kernel
theorem dX9_shakenOut_26 : decode cX9_shakenOut 26 = .ok (.aload_n 0, 1) := by decide +kernel
theorem dX9_shakenOut_27 : decode cX9_shakenOut 27 = .ok (.getfield 48, 3) := by decide +kernel
theorem dX9_shakenOut_30 : decode cX9_shakenOut 30 = .ok (.invokevirtual 326, 3) := by decide +kernel
theorem dX9_shakenOut_33 : decode cX9_shakenOut 33 = .ok (.ifCond .le 9, 3) := by decide +kernel
theorem dX9_shakenOut_36 : decode cX9_shakenOut 36 = .ok (.iinc 1 1, 3) := by decide +kernel
theorem dX9_shakenOut_39 : decode cX9_shakenOut 39 = .ok (.goto (-19), 3) := by decide +kernel
theorem dX9_shakenOut_42 : decode cX9_shakenOut 42 = .ok (.iload_n 1, 1) := by decide +kernel
theorem dX9_shakenOut_43 : decode cX9_shakenOut 43 = .ok (.ireturn, 1) := by decide +kernel
theorem dX9_leavesFor_0 : decode cX9_leavesFor 0 = .ok (.aload_n 0, 1) := by decide +kernel
theorem dX9_leavesFor_1 : decode cX9_leavesFor 1 = .ok (.invokevirtual 95, 3) := by decide +kernel
theorem dX9_leavesFor_4 : decode cX9_leavesFor 4 = .ok (.iload_n 1, 1) := by decide +kernel
theorem dX9_leavesFor_5 : decode cX9_leavesFor 5 = .ok (.sipush 240, 3) := by decide +kernel
theorem dX9_leavesFor_8 : decode cX9_leavesFor 8 = .ok (.invokestatic 98, 3) := by decide +kernel
theorem dX9_leavesFor_11 : decode cX9_leavesFor 11 = .ok (.aload_n 0, 1) := by decide +kernel
theorem dX9_leavesFor_12 : decode cX9_leavesFor 12 = .ok (.getfield 20, 3) := by decide +kernel
theorem dX9_leavesFor_15 : decode cX9_leavesFor 15 = .ok (.aload_n 0, 1) := by decide +kernel
theorem dX9_leavesFor_16 : decode cX9_leavesFor 16 = .ok (.getfield 20, 3) := by decide +kernel
theorem dX9_leavesFor_19 : decode cX9_leavesFor 19 = .ok (.getfield 114, 3) := by decide +kernel
theorem dX9_leavesFor_22 : decode cX9_leavesFor 22 = .ok (.getfield 118, 3) := by decide +kernel
theorem dX9_leavesFor_25 : decode cX9_leavesFor 25 = .ok (.iload_n 1, 1) := by decide +kernel
theorem dX9_leavesFor_26 : decode cX9_leavesFor 26 = .ok (.iadd, 1) := by decide +kernel
theorem dX9_leavesFor_27 : decode cX9_leavesFor 27 = .ok (.invokevirtual 329, 3) := by decide +kernel
theorem dX9_leavesFor_30 : decode cX9_leavesFor 30 = .ok (.istore_n 2, 1) := by decide +kernel
theorem dX9_leavesFor_31 : decode cX9_leavesFor 31 = .ok (.iload_n 2, 1) := by decide +kernel
theorem dX9_leavesFor_32 : decode cX9_leavesFor 32 = .ok (.bipush 12, 2) := by decide +kernel
theorem dX9_leavesFor_34 : decode cX9_leavesFor 34 = .ok (.if_icmp .le 7, 3) := by decide +kernel
theorem dX9_leavesFor_37 : decode cX9_leavesFor 37 = .ok (.iconst (-1), 1) := by decide +kernel
theorem dX9_leavesFor_38 : decode cX9_leavesFor 38 = .ok (.goto 15, 3) := by decide +kernel
theorem dX9_leavesFor_41 : decode cX9_leavesFor 41 = .ok (.iload_n 2, 1) := by decide +kernel
theorem dX9_leavesFor_42 : decode cX9_leavesFor 42 = .ok (.aload_n 0, 1) := by decide +kernel
theorem dX9_leavesFor_43 : decode cX9_leavesFor 43 = .ok (.getfield 20, 3) := by decide +kernel
theorem dX9_leavesFor_46 : decode cX9_leavesFor 46 = .ok (.getfield 108, 3) := by decide +kernel
theorem dX9_leavesFor_49 : decode cX9_leavesFor 49 = .ok (.getfield 123, 3) := by decide +kernel
theorem dX9_leavesFor_52 : decode cX9_leavesFor 52 = .ok (.isub, 1) := by decide +kernel
theorem dX9_leavesFor_53 : decode cX9_leavesFor 53 = .ok (.ireturn, 1) := by decide +kernel
theorem dX9_copyWords_0 : decode cX9_copyWords 0 = .ok (.aload_n 0, 1) := by decide +kernel
theorem dX9_copyWords_1 : decode cX9_copyWords 1 = .ok (.invokevirtual 95, 3) := by decide +kernel
theorem dX9_copyWords_4 : decode cX9_copyWords 4 = .ok (.aload_n 0, 1) := by decide +kernel
theorem dX9_copyWords_5 : decode cX9_copyWords 5 = .ok (.iload_n 1, 1) := by decide +kernel
theorem dX9_copyWords_6 : decode cX9_copyWords 6 = .ok (.invokevirtual 153, 3) := by decide +kernel
theorem dX9_copyWords_9 : decode cX9_copyWords 9 = .ok (.astore_n 3, 1) := by decide +kernel
theorem dX9_copyWords_10 : decode cX9_copyWords 10 = .ok (.iload_n 2, 1) := by decide +kernel
theorem dX9_copyWords_11 : decode cX9_copyWords 11 = .ok (.iconst 2, 1) := by decide +kernel
theorem dX9_copyWords_12 : decode cX9_copyWords 12 = .ok (.invokestatic 98, 3) := by decide +kernel
theorem dX9_copyWords_15 : decode cX9_copyWords 15 = .ok (.aload_n 0, 1) := by decide +kernel
theorem dX9_copyWords_16 : decode cX9_copyWords 16 = .ok (.getfield 20, 3) := by decide +kernel
theorem dX9_copyWords_19 : decode cX9_copyWords 19 = .ok (.getfield 332, 3) := by decide +kernel
theorem dX9_copyWords_22 : decode cX9_copyWords 22 = .ok (.aload_n 0, 1) := by decide +kernel
theorem dX9_copyWords_23 : decode cX9_copyWords 23 = .ok (.getfield 20, 3) := by decide +kernel
theorem dX9_copyWords_26 : decode cX9_copyWords 26 = .ok (.getfield 114, 3) := by decide +kernel
theorem dX9_copyWords_29 : decode cX9_copyWords 29 = .ok (.aload_n 3, 1) := by decide +kernel
theorem dX9_copyWords_30 : decode cX9_copyWords 30 = .ok (.iload_n 2, 1) := by decide +kernel
theorem dX9_copyWords_31 : decode cX9_copyWords 31 = .ok (.invokevirtual 336, 3) := by decide +kernel
theorem dX9_copyWords_34 : decode cX9_copyWords 34 = .ok (.aload_n 0, 1) := by decide +kernel
theorem dX9_copyWords_35 : decode cX9_copyWords 35 = .ok (.getfield 20, 3) := by decide +kernel
theorem dX9_copyWords_38 : decode cX9_copyWords 38 = .ok (.getfield 332, 3) := by decide +kernel
theorem dX9_copyWords_41 : decode cX9_copyWords 41 = .ok (.getfield 287, 3) := by decide +kernel
theorem dX9_copyWords_44 : decode cX9_copyWords 44 = .ok (.ireturn, 1) := by decide +kernel
theorem dX9_bestCopy_0 : decode cX9_bestCopy 0 = .ok (.aload_n 0, 1) := by decide +kernel
theorem dX9_bestCopy_1 : decode cX9_bestCopy 1 = .ok (.invokevirtual 95, 3) := by decide +kernel
theorem dX9_bestCopy_4 : decode cX9_bestCopy 4 = .ok (.aload_n 0, 1) := by decide +kernel
theorem dX9_bestCopy_5 : decode cX9_bestCopy 5 = .ok (.iload_n 1, 1) := by decide +kernel
theorem dX9_bestCopy_6 : decode cX9_bestCopy 6 = .ok (.invokevirtual 153, 3) := by decide +kernel
theorem dX9_bestCopy_9 : decode cX9_bestCopy 9 = .ok (.astore_n 2, 1) := by decide +kernel
theorem dX9_bestCopy_10 : decode cX9_bestCopy 10 = .ok (.iconst (-1), 1) := by decide +kernel
theorem dX9_bestCopy_11 : decode cX9_bestCopy 11 = .ok (.istore_n 3, 1) := by decide +kernel
theorem dX9_bestCopy_12 : decode cX9_bestCopy 12 = .ok (.iconst 0, 1) := by decide +kernel
theorem dX9_bestCopy_13 : decode cX9_bestCopy 13 = .ok (.istore 4, 2) := by decide +kernel
theorem dX9_bestCopy_15 : decode cX9_bestCopy 15 = .ok (.iconst 0, 1) := by decide +kernel
theorem dX9_bestCopy_16 : decode cX9_bestCopy 16 = .ok (.istore 5, 2) := by decide +kernel
theorem dX9_bestCopy_18 : decode cX9_bestCopy 18 = .ok (.iload 5, 2) := by decide +kernel
theorem dX9_bestCopy_20 : decode cX9_bestCopy 20 = .ok (.iconst 2, 1) := by decide +kernel
theorem dX9_bestCopy_21 : decode cX9_bestCopy 21 = .ok (.if_icmp .gt 48, 3) := by decide +kernel
theorem dX9_bestCopy_24 : decode cX9_bestCopy 24 = .ok (.aload_n 0, 1) := by decide +kernel
theorem dX9_bestCopy_25 : decode cX9_bestCopy 25 = .ok (.getfield 20, 3) := by decide +kernel
theorem dX9_bestCopy_28 : decode cX9_bestCopy 28 = .ok (.iload_n 1, 1) := by decide +kernel
theorem dX9_bestCopy_29 : decode cX9_bestCopy 29 = .ok (.iload 5, 2) := by decide +kernel
theorem dX9_bestCopy_31 : decode cX9_bestCopy 31 = .ok (.invokevirtual 313, 3) := by decide +kernel
theorem dX9_bestCopy_34 : decode cX9_bestCopy 34 = .ok (.ifCond .ne 29, 3) := by decide +kernel
theorem dX9_bestCopy_37 : decode cX9_bestCopy 37 = .ok (.aload_n 0, 1) := by decide +kernel
theorem dX9_bestCopy_38 : decode cX9_bestCopy 38 = .ok (.getfield 20, 3) := by decide +kernel
theorem dX9_bestCopy_41 : decode cX9_bestCopy 41 = .ok (.aload_n 2, 1) := by decide +kernel
theorem dX9_bestCopy_42 : decode cX9_bestCopy 42 = .ok (.iload 5, 2) := by decide +kernel
theorem dX9_bestCopy_44 : decode cX9_bestCopy 44 = .ok (.invokevirtual 340, 3) := by decide +kernel
theorem dX9_bestCopy_47 : decode cX9_bestCopy 47 = .ok (.istore 6, 2) := by decide +kernel
theorem dX9_bestCopy_49 : decode cX9_bestCopy 49 = .ok (.iload 6, 2) := by decide +kernel
theorem dX9_bestCopy_51 : decode cX9_bestCopy 51 = .ok (.iload 4, 2) := by decide +kernel
theorem dX9_bestCopy_53 : decode cX9_bestCopy 53 = .ok (.if_icmp .lt 10, 3) := by decide +kernel
theorem dX9_bestCopy_56 : decode cX9_bestCopy 56 = .ok (.iload 6, 2) := by decide +kernel
theorem dX9_bestCopy_58 : decode cX9_bestCopy 58 = .ok (.istore 4, 2) := by decide +kernel
theorem dX9_bestCopy_60 : decode cX9_bestCopy 60 = .ok (.iload 5, 2) := by decide +kernel
theorem dX9_bestCopy_62 : decode cX9_bestCopy 62 = .ok (.istore_n 3, 1) := by decide +kernel
theorem dX9_bestCopy_63 : decode cX9_bestCopy 63 = .ok (.iinc 5 1, 3) := by decide +kernel
theorem dX9_bestCopy_66 : decode cX9_bestCopy 66 = .ok (.goto (-48), 3) := by decide +kernel
theorem dX9_bestCopy_69 : decode cX9_bestCopy 69 = .ok (.iload_n 3, 1) := by decide +kernel
theorem dX9_bestCopy_70 : decode cX9_bestCopy 70 = .ok (.ireturn, 1) := by decide +kernel
theorem dX9_standingIf_0 : decode cX9_standingIf 0 = .ok (.aload_n 0, 1) := by decide +kernel
theorem dX9_standingIf_1 : decode cX9_standingIf 1 = .ok (.invokevirtual 95, 3) := by decide +kernel
theorem dX9_standingIf_4 : decode cX9_standingIf 4 = .ok (.aload_n 0, 1) := by decide +kernel
theorem dX9_standingIf_5 : decode cX9_standingIf 5 = .ok (.getfield 20, 3) := by decide +kernel
theorem dX9_standingIf_8 : decode cX9_standingIf 8 = .ok (.iload_n 1, 1) := by decide +kernel
theorem dX9_standingIf_9 : decode cX9_standingIf 9 = .ok (.invokevirtual 316, 3) := by decide +kernel
theorem dX9_standingIf_12 : decode cX9_standingIf 12 = .ok (.istore_n 3, 1) := by decide +kernel
theorem dX9_standingIf_13 : decode cX9_standingIf 13 = .ok (.iload_n 3, 1) := by decide +kernel
theorem dX9_standingIf_14 : decode cX9_standingIf 14 = .ok (.iconst 1, 1) := by decide +kernel
theorem dX9_standingIf_15 : decode cX9_standingIf 15 = .ok (.if_icmp .eq 8, 3) := by decide +kernel
theorem dX9_standingIf_18 : decode cX9_standingIf 18 = .ok (.iload_n 3, 1) := by decide +kernel
theorem dX9_standingIf_19 : decode cX9_standingIf 19 = .ok (.iconst 2, 1) := by decide +kernel
theorem dX9_standingIf_20 : decode cX9_standingIf 20 = .ok (.if_icmp .ne 14, 3) := by decide +kernel
theorem dX9_standingIf_23 : decode cX9_standingIf 23 = .ok (.new 78, 3) := by decide +kernel
theorem dX9_standingIf_26 : decode cX9_standingIf 26 = .ok (.dup, 1) := by decide +kernel
theorem dX9_standingIf_27 : decode cX9_standingIf 27 = .ok (.ldc_w 343, 3) := by decide +kernel
theorem dX9_standingIf_30 : decode cX9_standingIf 30 = .ok (.invokespecial 82, 3) := by decide +kernel
theorem dX9_standingIf_33 : decode cX9_standingIf 33 = .ok (.athrow, 1) := by decide +kernel
theorem dX9_standingIf_34 : decode cX9_standingIf 34 = .ok (.iload_n 2, 1) := by decide +kernel
theorem dX9_standingIf_35 : decode cX9_standingIf 35 = .ok (.ifCond .ne 28, 3) := by decide +kernel
theorem dX9_standingIf_38 : decode cX9_standingIf 38 = .ok (.iload_n 3, 1) := by decide +kernel
theorem dX9_standingIf_39 : decode cX9_standingIf 39 = .ok (.iconst 3, 1) := by decide +kernel
theorem dX9_standingIf_40 : decode cX9_standingIf 40 = .ok (.if_icmp .ne 13, 3) := by decide +kernel
theorem dX9_standingIf_43 : decode cX9_standingIf 43 = .ok (.aload_n 0, 1) := by decide +kernel
theorem dX9_standingIf_44 : decode cX9_standingIf 44 = .ok (.getfield 20, 3) := by decide +kernel
theorem dX9_standingIf_47 : decode cX9_standingIf 47 = .ok (.invokevirtual 345, 3) := by decide +kernel
theorem dX9_standingIf_50 : decode cX9_standingIf 50 = .ok (.goto 12, 3) := by decide +kernel
theorem dX9_standingIf_53 : decode cX9_standingIf 53 = .ok (.aload_n 0, 1) := by decide +kernel
theorem dX9_standingIf_54 : decode cX9_standingIf 54 = .ok (.getfield 20, 3) := by decide +kernel
theorem dX9_standingIf_57 : decode cX9_standingIf 57 = .ok (.invokevirtual 345, 3) := by decide +kernel
theorem dX9_standingIf_60 : decode cX9_standingIf 60 = .ok (.iconst 1, 1) := by decide +kernel
theorem dX9_standingIf_61 : decode cX9_standingIf 61 = .ok (.isub, 1) := by decide +kernel
theorem dX9_standingIf_62 : decode cX9_standingIf 62 = .ok (.ireturn, 1) := by decide +kernel
theorem dX9_standingIf_63 : decode cX9_standingIf 63 = .ok (.aload_n 0, 1) := by decide +kernel
theorem dX9_standingIf_64 : decode cX9_standingIf 64 = .ok (.getfield 20, 3) := by decide +kernel
theorem dX9_standingIf_67 : decode cX9_standingIf 67 = .ok (.iload_n 1, 1) := by decide +kernel
theorem dX9_standingIf_68 : decode cX9_standingIf 68 = .ok (.invokevirtual 348, 3) := by decide +kernel
theorem dX9_standingIf_71 : decode cX9_standingIf 71 = .ok (.ifCond .ne 14, 3) := by decide +kernel
theorem dX9_standingIf_74 : decode cX9_standingIf 74 = .ok (.new 78, 3) := by decide +kernel
theorem dX9_standingIf_77 : decode cX9_standingIf 77 = .ok (.dup, 1) := by decide +kernel
theorem dX9_standingIf_78 : decode cX9_standingIf 78 = .ok (.ldc_w 351, 3) := by decide +kernel
theorem dX9_standingIf_81 : decode cX9_standingIf 81 = .ok (.invokespecial 82, 3) := by decide +kernel
theorem dX9_standingIf_84 : decode cX9_standingIf 84 = .ok (.athrow, 1) := by decide +kernel
theorem dX9_standingIf_85 : decode cX9_standingIf 85 = .ok (.aload_n 0, 1) := by decide +kernel
theorem dX9_standingIf_86 : decode cX9_standingIf 86 = .ok (.getfield 20, 3) := by decide +kernel
theorem dX9_standingIf_89 : decode cX9_standingIf 89 = .ok (.invokevirtual 345, 3) := by decide +kernel
theorem dX9_standingIf_92 : decode cX9_standingIf 92 = .ok (.aload_n 0, 1) := by decide +kernel
theorem dX9_standingIf_93 : decode cX9_standingIf 93 = .ok (.getfield 20, 3) := by decide +kernel
theorem dX9_standingIf_96 : decode cX9_standingIf 96 = .ok (.getfield 114, 3) := by decide +kernel
theorem dX9_standingIf_99 : decode cX9_standingIf 99 = .ok (.aload_n 0, 1) := by decide +kernel
theorem dX9_standingIf_100 : decode cX9_standingIf 100 = .ok (.getfield 20, 3) := by decide +kernel
theorem dX9_standingIf_103 : decode cX9_standingIf 103 = .ok (.getfield 228, 3) := by decide +kernel
theorem dX9_standingIf_106 : decode cX9_standingIf 106 = .ok (.getfield 243, 3) := by decide +kernel
theorem dX9_standingIf_109 : decode cX9_standingIf 109 = .ok (.aload_n 0, 1) := by decide +kernel
theorem dX9_standingIf_110 : decode cX9_standingIf 110 = .ok (.getfield 20, 3) := by decide +kernel
theorem dX9_standingIf_113 : decode cX9_standingIf 113 = .ok (.getfield 228, 3) := by decide +kernel
theorem dX9_standingIf_116 : decode cX9_standingIf 116 = .ok (.getfield 244, 3) := by decide +kernel
theorem dX9_standingIf_119 : decode cX9_standingIf 119 = .ok (.invokevirtual 245, 3) := by decide +kernel
theorem dX9_standingIf_122 : decode cX9_standingIf 122 = .ok (.isub, 1) := by decide +kernel
theorem dX9_standingIf_123 : decode cX9_standingIf 123 = .ok (.ireturn, 1) := by decide +kernel
theorem dX9_inputWord_0 : decode cX9_inputWord 0 = .ok (.iload_n 1, 1) := by decide +kernel
theorem dX9_inputWord_1 : decode cX9_inputWord 1 = .ok (.bipush 8, 2) := by decide +kernel
theorem dX9_inputWord_3 : decode cX9_inputWord 3 = .ok (.if_icmp .le 5, 3) := by decide +kernel
theorem dX9_inputWord_6 : decode cX9_inputWord 6 = .ok (.lconst 0, 1) := by decide +kernel
theorem dX9_inputWord_7 : decode cX9_inputWord 7 = .ok (.lreturn, 1) := by decide +kernel
theorem dX9_inputWord_8 : decode cX9_inputWord 8 = .ok (.lconst 0, 1) := by decide +kernel
theorem dX9_inputWord_9 : decode cX9_inputWord 9 = .ok (.lstore_n 2, 1) := by decide +kernel
theorem dX9_inputWord_10 : decode cX9_inputWord 10 = .ok (.iconst 0, 1) := by decide +kernel
theorem dX9_inputWord_11 : decode cX9_inputWord 11 = .ok (.istore 4, 2) := by decide +kernel
theorem dX9_inputWord_13 : decode cX9_inputWord 13 = .ok (.iload 4, 2) := by decide +kernel
theorem dX9_inputWord_15 : decode cX9_inputWord 15 = .ok (.iload_n 1, 1) := by decide +kernel
theorem dX9_inputWord_16 : decode cX9_inputWord 16 = .ok (.if_icmp .ge 36, 3) := by decide +kernel
theorem dX9_inputWord_19 : decode cX9_inputWord 19 = .ok (.aload_n 0, 1) := by decide +kernel
theorem dX9_inputWord_20 : decode cX9_inputWord 20 = .ok (.getfield 9, 3) := by decide +kernel
theorem dX9_inputWord_23 : decode cX9_inputWord 23 = .ok (.iload 4, 2) := by decide +kernel
theorem dX9_inputWord_25 : decode cX9_inputWord 25 = .ok (.baload, 1) := by decide +kernel
theorem dX9_inputWord_26 : decode cX9_inputWord 26 = .ok (.invokestatic 551, 3) := by decide +kernel
theorem dX9_inputWord_29 : decode cX9_inputWord 29 = .ok (.ifCond .ne 5, 3) := by decide +kernel
theorem dX9_inputWord_32 : decode cX9_inputWord 32 = .ok (.lconst 0, 1) := by decide +kernel
theorem dX9_inputWord_33 : decode cX9_inputWord 33 = .ok (.lreturn, 1) := by decide +kernel
theorem dX9_inputWord_34 : decode cX9_inputWord 34 = .ok (.lload_n 2, 1) := by decide +kernel
theorem dX9_inputWord_35 : decode cX9_inputWord 35 = .ok (.aload_n 0, 1) := by decide +kernel
theorem dX9_inputWord_36 : decode cX9_inputWord 36 = .ok (.getfield 9, 3) := by decide +kernel
theorem dX9_inputWord_39 : decode cX9_inputWord 39 = .ok (.iload 4, 2) := by decide +kernel
theorem dX9_inputWord_41 : decode cX9_inputWord 41 = .ok (.baload, 1) := by decide +kernel
theorem dX9_inputWord_42 : decode cX9_inputWord 42 = .ok (.invokestatic 547, 3) := by decide +kernel
theorem dX9_inputWord_45 : decode cX9_inputWord 45 = .ok (.lstore_n 2, 1) := by decide +kernel
theorem dX9_inputWord_46 : decode cX9_inputWord 46 = .ok (.iinc 4 1, 3) := by decide +kernel
theorem dX9_inputWord_49 : decode cX9_inputWord 49 = .ok (.goto (-36), 3) := by decide +kernel
theorem dX9_inputWord_52 : decode cX9_inputWord 52 = .ok (.lload_n 2, 1) := by decide +kernel
theorem dX9_inputWord_53 : decode cX9_inputWord 53 = .ok (.lreturn, 1) := by decide +kernel
theorem dX9_findWord_0 : decode cX9_findWord 0 = .ok (.aload_n 0, 1) := by decide +kernel
theorem dX9_findWord_1 : decode cX9_findWord 1 = .ok (.invokevirtual 95, 3) := by decide +kernel
theorem dX9_findWord_4 : decode cX9_findWord 4 = .ok (.aload_n 0, 1) := by decide +kernel
theorem dX9_findWord_5 : decode cX9_findWord 5 = .ok (.iload_n 1, 1) := by decide +kernel
theorem dX9_findWord_6 : decode cX9_findWord 6 = .ok (.invokevirtual 66, 3) := by decide +kernel
theorem dX9_findWord_9 : decode cX9_findWord 9 = .ok (.aload_n 0, 1) := by decide +kernel
theorem dX9_findWord_10 : decode cX9_findWord 10 = .ok (.iload_n 1, 1) := by decide +kernel
theorem dX9_findWord_11 : decode cX9_findWord 11 = .ok (.invokevirtual 353, 3) := by decide +kernel
theorem dX9_findWord_14 : decode cX9_findWord 14 = .ok (.lstore_n 2, 1) := by decide +kernel
theorem dX9_findWord_15 : decode cX9_findWord 15 = .ok (.aload_n 0, 1) := by decide +kernel
theorem dX9_findWord_16 : decode cX9_findWord 16 = .ok (.iconst 0, 1) := by decide +kernel
theorem dX9_findWord_17 : decode cX9_findWord 17 = .ok (.putfield 59, 3) := by decide +kernel
theorem dX9_findWord_20 : decode cX9_findWord 20 = .ok (.lload_n 2, 1) := by decide +kernel
theorem dX9_findWord_21 : decode cX9_findWord 21 = .ok (.lconst 0, 1) := by decide +kernel
theorem dX9_findWord_22 : decode cX9_findWord 22 = .ok (.lcmp, 1) := by decide +kernel
theorem dX9_findWord_23 : decode cX9_findWord 23 = .ok (.ifCond .ne 7, 3) := by decide +kernel
theorem dX9_findWord_26 : decode cX9_findWord 26 = .ok (.iconst 0, 1) := by decide +kernel
theorem dX9_findWord_27 : decode cX9_findWord 27 = .ok (.goto 11, 3) := by decide +kernel
theorem dX9_findWord_30 : decode cX9_findWord 30 = .ok (.aload_n 0, 1) := by decide +kernel
theorem dX9_findWord_31 : decode cX9_findWord 31 = .ok (.getfield 20, 3) := by decide +kernel
theorem dX9_findWord_34 : decode cX9_findWord 34 = .ok (.lload_n 2, 1) := by decide +kernel
theorem dX9_findWord_35 : decode cX9_findWord 35 = .ok (.invokevirtual 357, 3) := by decide +kernel
theorem dX9_findWord_38 : decode cX9_findWord 38 = .ok (.ireturn, 1) := by decide +kernel
theorem dX9_longest_0 : decode cX9_longest 0 = .ok (.aload_n 0, 1) := by decide +kernel
theorem dX9_longest_1 : decode cX9_longest 1 = .ok (.invokevirtual 95, 3) := by decide +kernel
theorem dX9_longest_4 : decode cX9_longest 4 = .ok (.aload_n 0, 1) := by decide +kernel
theorem dX9_longest_5 : decode cX9_longest 5 = .ok (.iload_n 1, 1) := by decide +kernel
theorem dX9_longest_6 : decode cX9_longest 6 = .ok (.invokevirtual 153, 3) := by decide +kernel
theorem dX9_longest_9 : decode cX9_longest 9 = .ok (.astore_n 2, 1) := by decide +kernel
theorem dX9_longest_10 : decode cX9_longest 10 = .ok (.iconst (-1), 1) := by decide +kernel
theorem dX9_longest_11 : decode cX9_longest 11 = .ok (.istore_n 3, 1) := by decide +kernel
theorem dX9_longest_12 : decode cX9_longest 12 = .ok (.iconst 0, 1) := by decide +kernel
theorem dX9_longest_13 : decode cX9_longest 13 = .ok (.istore 4, 2) := by decide +kernel
theorem dX9_longest_15 : decode cX9_longest 15 = .ok (.iconst 0, 1) := by decide +kernel
theorem dX9_longest_16 : decode cX9_longest 16 = .ok (.istore 5, 2) := by decide +kernel
theorem dX9_longest_18 : decode cX9_longest 18 = .ok (.iload 5, 2) := by decide +kernel
theorem dX9_longest_20 : decode cX9_longest 20 = .ok (.aload_n 2, 1) := by decide +kernel
theorem dX9_longest_21 : decode cX9_longest 21 = .ok (.getfield 169, 3) := by decide +kernel
theorem dX9_longest_24 : decode cX9_longest 24 = .ok (.if_icmp .ge 67, 3) := by decide +kernel
theorem dX9_longest_27 : decode cX9_longest 27 = .ok (.aload_n 0, 1) := by decide +kernel
theorem dX9_longest_28 : decode cX9_longest 28 = .ok (.getfield 20, 3) := by decide +kernel
theorem dX9_longest_31 : decode cX9_longest 31 = .ok (.getfield 114, 3) := by decide +kernel
theorem dX9_longest_34 : decode cX9_longest 34 = .ok (.getfield 202, 3) := by decide +kernel
theorem dX9_longest_37 : decode cX9_longest 37 = .ok (.aload_n 2, 1) := by decide +kernel
theorem dX9_longest_38 : decode cX9_longest 38 = .ok (.getfield 170, 3) := by decide +kernel
theorem dX9_longest_41 : decode cX9_longest 41 = .ok (.iload 5, 2) := by decide +kernel
theorem dX9_longest_43 : decode cX9_longest 43 = .ok (.iadd, 1) := by decide +kernel
theorem dX9_longest_44 : decode cX9_longest 44 = .ok (.laload, 1) := by decide +kernel
theorem dX9_longest_45 : decode cX9_longest 45 = .ok (.invokestatic 206, 3) := by decide +kernel
theorem dX9_longest_48 : decode cX9_longest 48 = .ok (.istore 6, 2) := by decide +kernel
theorem dX9_longest_50 : decode cX9_longest 50 = .ok (.aload_n 0, 1) := by decide +kernel
theorem dX9_longest_51 : decode cX9_longest 51 = .ok (.getfield 20, 3) := by decide +kernel
theorem dX9_longest_54 : decode cX9_longest 54 = .ok (.getfield 114, 3) := by decide +kernel
theorem dX9_longest_57 : decode cX9_longest 57 = .ok (.getfield 192, 3) := by decide +kernel
theorem dX9_longest_60 : decode cX9_longest 60 = .ok (.aload_n 2, 1) := by decide +kernel
theorem dX9_longest_61 : decode cX9_longest 61 = .ok (.getfield 170, 3) := by decide +kernel
theorem dX9_longest_64 : decode cX9_longest 64 = .ok (.iload 5, 2) := by decide +kernel
theorem dX9_longest_66 : decode cX9_longest 66 = .ok (.iadd, 1) := by decide +kernel
theorem dX9_longest_67 : decode cX9_longest 67 = .ok (.baload, 1) := by decide +kernel
theorem dX9_longest_68 : decode cX9_longest 68 = .ok (.ifCond .ne 17, 3) := by decide +kernel
theorem dX9_longest_71 : decode cX9_longest 71 = .ok (.iload 6, 2) := by decide +kernel
theorem dX9_longest_73 : decode cX9_longest 73 = .ok (.iload 4, 2) := by decide +kernel
theorem dX9_longest_75 : decode cX9_longest 75 = .ok (.if_icmp .le 10, 3) := by decide +kernel
theorem dX9_longest_78 : decode cX9_longest 78 = .ok (.iload 6, 2) := by decide +kernel
theorem dX9_longest_80 : decode cX9_longest 80 = .ok (.istore 4, 2) := by decide +kernel
theorem dX9_longest_82 : decode cX9_longest 82 = .ok (.iload 5, 2) := by decide +kernel
theorem dX9_longest_84 : decode cX9_longest 84 = .ok (.istore_n 3, 1) := by decide +kernel
theorem dX9_longest_85 : decode cX9_longest 85 = .ok (.iinc 5 1, 3) := by decide +kernel
theorem dX9_longest_88 : decode cX9_longest 88 = .ok (.goto (-70), 3) := by decide +kernel
theorem dX9_longest_91 : decode cX9_longest 91 = .ok (.iload_n 3, 1) := by decide +kernel
theorem dX9_longest_92 : decode cX9_longest 92 = .ok (.ireturn, 1) := by decide +kernel
theorem dX9_common_0 : decode cX9_common 0 = .ok (.aload_n 0, 1) := by decide +kernel
theorem dX9_common_1 : decode cX9_common 1 = .ok (.invokevirtual 95, 3) := by decide +kernel
theorem dX9_common_4 : decode cX9_common 4 = .ok (.aload_n 0, 1) := by decide +kernel
theorem dX9_common_5 : decode cX9_common 5 = .ok (.iload_n 1, 1) := by decide +kernel
theorem dX9_common_6 : decode cX9_common 6 = .ok (.invokevirtual 153, 3) := by decide +kernel
theorem dX9_common_9 : decode cX9_common 9 = .ok (.astore_n 3, 1) := by decide +kernel
theorem dX9_common_10 : decode cX9_common 10 = .ok (.aload_n 0, 1) := by decide +kernel
theorem dX9_common_11 : decode cX9_common 11 = .ok (.iload_n 2, 1) := by decide +kernel
theorem dX9_common_12 : decode cX9_common 12 = .ok (.invokevirtual 153, 3) := by decide +kernel
theorem dX9_common_15 : decode cX9_common 15 = .ok (.astore 4, 2) := by decide +kernel
theorem dX9_common_17 : decode cX9_common 17 = .ok (.iconst 0, 1) := by decide +kernel
theorem dX9_common_18 : decode cX9_common 18 = .ok (.istore 5, 2) := by decide +kernel
theorem dX9_common_20 : decode cX9_common 20 = .ok (.aload_n 3, 1) := by decide +kernel
theorem dX9_common_21 : decode cX9_common 21 = .ok (.getfield 170, 3) := by decide +kernel
theorem dX9_common_24 : decode cX9_common 24 = .ok (.istore 6, 2) := by decide +kernel
theorem dX9_common_26 : decode cX9_common 26 = .ok (.iload 6, 2) := by decide +kernel
theorem dX9_common_28 : decode cX9_common 28 = .ok (.aload_n 3, 1) := by decide +kernel
theorem dX9_common_29 : decode cX9_common 29 = .ok (.getfield 170, 3) := by decide +kernel
theorem dX9_common_32 : decode cX9_common 32 = .ok (.aload_n 3, 1) := by decide +kernel
theorem dX9_common_33 : decode cX9_common 33 = .ok (.getfield 169, 3) := by decide +kernel
theorem dX9_common_36 : decode cX9_common 36 = .ok (.iadd, 1) := by decide +kernel
theorem dX9_common_37 : decode cX9_common 37 = .ok (.if_icmp .ge 56, 3) := by decide +kernel
theorem dX9_common_40 : decode cX9_common 40 = .ok (.aload_n 0, 1) := by decide +kernel
theorem dX9_common_41 : decode cX9_common 41 = .ok (.getfield 20, 3) := by decide +kernel
theorem dX9_common_44 : decode cX9_common 44 = .ok (.getfield 114, 3) := by decide +kernel
theorem dX9_common_47 : decode cX9_common 47 = .ok (.getfield 192, 3) := by decide +kernel
theorem dX9_common_50 : decode cX9_common 50 = .ok (.iload 6, 2) := by decide +kernel
theorem dX9_common_52 : decode cX9_common 52 = .ok (.baload, 1) := by decide +kernel
theorem dX9_common_53 : decode cX9_common 53 = .ok (.ifCond .ne 34, 3) := by decide +kernel
theorem dX9_common_56 : decode cX9_common 56 = .ok (.aload_n 0, 1) := by decide +kernel
theorem dX9_common_57 : decode cX9_common 57 = .ok (.getfield 20, 3) := by decide +kernel
theorem dX9_common_60 : decode cX9_common 60 = .ok (.getfield 114, 3) := by decide +kernel
theorem dX9_common_63 : decode cX9_common 63 = .ok (.aload 4, 2) := by decide +kernel
theorem dX9_common_65 : decode cX9_common 65 = .ok (.aload_n 0, 1) := by decide +kernel
theorem dX9_common_66 : decode cX9_common 66 = .ok (.getfield 20, 3) := by decide +kernel
theorem dX9_common_69 : decode cX9_common 69 = .ok (.getfield 114, 3) := by decide +kernel
theorem dX9_common_72 : decode cX9_common 72 = .ok (.getfield 202, 3) := by decide +kernel
theorem dX9_common_75 : decode cX9_common 75 = .ok (.iload 6, 2) := by decide +kernel
theorem dX9_common_77 : decode cX9_common 77 = .ok (.laload, 1) := by decide +kernel
theorem dX9_common_78 : decode cX9_common 78 = .ok (.invokevirtual 360, 3) := by decide +kernel
theorem dX9_common_81 : decode cX9_common 81 = .ok (.ifCond .eq 6, 3) := by decide +kernel
theorem dX9_common_84 : decode cX9_common 84 = .ok (.iinc 5 1, 3) := by decide +kernel
theorem dX9_common_87 : decode cX9_common 87 = .ok (.iinc 6 1, 3) := by decide +kernel
theorem dX9_common_90 : decode cX9_common 90 = .ok (.goto (-64), 3) := by decide +kernel
theorem dX9_common_93 : decode cX9_common 93 = .ok (.iload 5, 2) := by decide +kernel
theorem dX9_common_95 : decode cX9_common 95 = .ok (.ireturn, 1) := by decide +kernel
theorem dX9_knownShare_0 : decode cX9_knownShare 0 = .ok (.aload_n 0, 1) := by decide +kernel
theorem dX9_knownShare_1 : decode cX9_knownShare 1 = .ok (.invokevirtual 95, 3) := by decide +kernel
theorem dX9_knownShare_4 : decode cX9_knownShare 4 = .ok (.aload_n 0, 1) := by decide +kernel
theorem dX9_knownShare_5 : decode cX9_knownShare 5 = .ok (.getfield 20, 3) := by decide +kernel
theorem dX9_knownShare_8 : decode cX9_knownShare 8 = .ok (.getfield 114, 3) := by decide +kernel
theorem dX9_knownShare_11 : decode cX9_knownShare 11 = .ok (.getfield 118, 3) := by decide +kernel
theorem dX9_knownShare_14 : decode cX9_knownShare 14 = .ok (.istore_n 1, 1) := by decide +kernel
theorem dX9_knownShare_15 : decode cX9_knownShare 15 = .ok (.iload_n 1, 1) := by decide +kernel
theorem dX9_knownShare_16 : decode cX9_knownShare 16 = .ok (.ifCond .ne 5, 3) := by decide +kernel
theorem dX9_knownShare_19 : decode cX9_knownShare 19 = .ok (.fconst 0, 1) := by decide +kernel
theorem dX9_knownShare_20 : decode cX9_knownShare 20 = .ok (.freturn, 1) := by decide +kernel
theorem dX9_knownShare_21 : decode cX9_knownShare 21 = .ok (.iload_n 1, 1) := by decide +kernel
theorem dX9_knownShare_22 : decode cX9_knownShare 22 = .ok (.aload_n 0, 1) := by decide +kernel
theorem dX9_knownShare_23 : decode cX9_knownShare 23 = .ok (.getfield 20, 3) := by decide +kernel
theorem dX9_knownShare_26 : decode cX9_knownShare 26 = .ok (.iconst 0, 1) := by decide +kernel
theorem dX9_knownShare_27 : decode cX9_knownShare 27 = .ok (.iload_n 1, 1) := by decide +kernel
theorem dX9_knownShare_28 : decode cX9_knownShare 28 = .ok (.invokevirtual 150, 3) := by decide +kernel
theorem dX9_knownShare_31 : decode cX9_knownShare 31 = .ok (.isub, 1) := by decide +kernel
theorem dX9_knownShare_32 : decode cX9_knownShare 32 = .ok (.i2f, 1) := by decide +kernel
theorem dX9_knownShare_33 : decode cX9_knownShare 33 = .ok (.iload_n 1, 1) := by decide +kernel
theorem dX9_knownShare_34 : decode cX9_knownShare 34 = .ok (.i2f, 1) := by decide +kernel
theorem dX9_knownShare_35 : decode cX9_knownShare 35 = .ok (.fdiv, 1) := by decide +kernel
theorem dX9_knownShare_36 : decode cX9_knownShare 36 = .ok (.freturn, 1) := by decide +kernel
theorem dX9_meanWords_0 : decode cX9_meanWords 0 = .ok (.aload_n 0, 1) := by decide +kernel
theorem dX9_meanWords_1 : decode cX9_meanWords 1 = .ok (.invokevirtual 95, 3) := by decide +kernel
theorem dX9_meanWords_4 : decode cX9_meanWords 4 = .ok (.aload_n 0, 1) := by decide +kernel
theorem dX9_meanWords_5 : decode cX9_meanWords 5 = .ok (.getfield 20, 3) := by decide +kernel
theorem dX9_meanWords_8 : decode cX9_meanWords 8 = .ok (.iconst 1, 1) := by decide +kernel
theorem dX9_meanWords_9 : decode cX9_meanWords 9 = .ok (.invokevirtual 144, 3) := by decide +kernel
theorem dX9_meanWords_12 : decode cX9_meanWords 12 = .ok (.istore_n 1, 1) := by decide +kernel
theorem dX9_meanWords_13 : decode cX9_meanWords 13 = .ok (.iload_n 1, 1) := by decide +kernel
theorem dX9_meanWords_14 : decode cX9_meanWords 14 = .ok (.ifCond .ne 5, 3) := by decide +kernel
theorem dX9_meanWords_17 : decode cX9_meanWords 17 = .ok (.dconst 0, 1) := by decide +kernel
theorem dX9_meanWords_18 : decode cX9_meanWords 18 = .ok (.dreturn, 1) := by decide +kernel
theorem dX9_meanWords_19 : decode cX9_meanWords 19 = .ok (.aload_n 0, 1) := by decide +kernel
theorem dX9_meanWords_20 : decode cX9_meanWords 20 = .ok (.getfield 20, 3) := by decide +kernel
theorem dX9_meanWords_23 : decode cX9_meanWords 23 = .ok (.invokevirtual 364, 3) := by decide +kernel
theorem dX9_meanWords_26 : decode cX9_meanWords 26 = .ok (.i2d, 1) := by decide +kernel
theorem dX9_meanWords_27 : decode cX9_meanWords 27 = .ok (.iload_n 1, 1) := by decide +kernel
theorem dX9_meanWords_28 : decode cX9_meanWords 28 = .ok (.i2d, 1) := by decide +kernel
theorem dX9_meanWords_29 : decode cX9_meanWords 29 = .ok (.ddiv, 1) := by decide +kernel
theorem dX9_meanWords_30 : decode cX9_meanWords 30 = .ok (.dreturn, 1) := by decide +kernel
theorem dX9_writeAct_0 : decode cX9_writeAct 0 = .ok (.aload_n 0, 1) := by decide +kernel
theorem dX9_writeAct_1 : decode cX9_writeAct 1 = .ok (.invokevirtual 95, 3) := by decide +kernel
theorem dX9_writeAct_4 : decode cX9_writeAct 4 = .ok (.aload_n 0, 1) := by decide +kernel
theorem dX9_writeAct_5 : decode cX9_writeAct 5 = .ok (.iload_n 1, 1) := by decide +kernel
theorem dX9_writeAct_6 : decode cX9_writeAct 6 = .ok (.invokevirtual 153, 3) := by decide +kernel
theorem dX9_writeAct_9 : decode cX9_writeAct 9 = .ok (.astore_n 2, 1) := by decide +kernel
theorem dX9_writeAct_10 : decode cX9_writeAct 10 = .ok (.aload_n 0, 1) := by decide +kernel
theorem dX9_writeAct_11 : decode cX9_writeAct 11 = .ok (.getfield 20, 3) := by decide +kernel
theorem dX9_writeAct_14 : decode cX9_writeAct 14 = .ok (.getfield 114, 3) := by decide +kernel
theorem dX9_writeAct_17 : decode cX9_writeAct 17 = .ok (.astore_n 3, 1) := by decide +kernel
theorem dX9_writeAct_18 : decode cX9_writeAct 18 = .ok (.aload_n 0, 1) := by decide +kernel
theorem dX9_writeAct_19 : decode cX9_writeAct 19 = .ok (.getfield 55, 3) := by decide +kernel
theorem dX9_writeAct_22 : decode cX9_writeAct 22 = .ok (.invokevirtual 367, 3) := by decide +kernel
theorem dX9_writeAct_25 : decode cX9_writeAct 25 = .ok (.aload_n 2, 1) := by decide +kernel
theorem dX9_writeAct_26 : decode cX9_writeAct 26 = .ok (.getfield 170, 3) := by decide +kernel
theorem dX9_writeAct_29 : decode cX9_writeAct 29 = .ok (.istore 4, 2) := by decide +kernel
theorem dX9_writeAct_31 : decode cX9_writeAct 31 = .ok (.iload 4, 2) := by decide +kernel
theorem dX9_writeAct_33 : decode cX9_writeAct 33 = .ok (.aload_n 2, 1) := by decide +kernel
theorem dX9_writeAct_34 : decode cX9_writeAct 34 = .ok (.getfield 170, 3) := by decide +kernel
theorem dX9_writeAct_37 : decode cX9_writeAct 37 = .ok (.aload_n 2, 1) := by decide +kernel
theorem dX9_writeAct_38 : decode cX9_writeAct 38 = .ok (.getfield 169, 3) := by decide +kernel
theorem dX9_writeAct_41 : decode cX9_writeAct 41 = .ok (.iadd, 1) := by decide +kernel
theorem dX9_writeAct_42 : decode cX9_writeAct 42 = .ok (.if_icmp .ge 147, 3) := by decide +kernel
theorem dX9_writeAct_45 : decode cX9_writeAct 45 = .ok (.aload_n 0, 1) := by decide +kernel
theorem dX9_writeAct_46 : decode cX9_writeAct 46 = .ok (.getfield 55, 3) := by decide +kernel
theorem dX9_writeAct_49 : decode cX9_writeAct 49 = .ok (.bipush 40, 2) := by decide +kernel
theorem dX9_writeAct_51 : decode cX9_writeAct 51 = .ok (.aload_n 3, 1) := by decide +kernel
theorem dX9_writeAct_52 : decode cX9_writeAct 52 = .ok (.getfield 370, 3) := by decide +kernel
theorem dX9_writeAct_55 : decode cX9_writeAct 55 = .ok (.iload 4, 2) := by decide +kernel
theorem dX9_writeAct_57 : decode cX9_writeAct 57 = .ok (.iaload, 1) := by decide +kernel
theorem dX9_writeAct_58 : decode cX9_writeAct 58 = .ok (.invokevirtual 373, 3) := by decide +kernel
theorem dX9_writeAct_61 : decode cX9_writeAct 61 = .ok (.aload_n 0, 1) := by decide +kernel
theorem dX9_writeAct_62 : decode cX9_writeAct 62 = .ok (.getfield 20, 3) := by decide +kernel
theorem dX9_writeAct_65 : decode cX9_writeAct 65 = .ok (.iload 4, 2) := by decide +kernel
theorem dX9_writeAct_67 : decode cX9_writeAct 67 = .ok (.invokevirtual 210, 3) := by decide +kernel
theorem dX9_writeAct_70 : decode cX9_writeAct 70 = .ok (.ifCond .ne 16, 3) := by decide +kernel
theorem dX9_writeAct_73 : decode cX9_writeAct 73 = .ok (.aload_n 0, 1) := by decide +kernel
theorem dX9_writeAct_74 : decode cX9_writeAct 74 = .ok (.getfield 55, 3) := by decide +kernel
theorem dX9_writeAct_77 : decode cX9_writeAct 77 = .ok (.bipush 63, 2) := by decide +kernel
theorem dX9_writeAct_79 : decode cX9_writeAct 79 = .ok (.iconst 1, 1) := by decide +kernel
theorem dX9_writeAct_80 : decode cX9_writeAct 80 = .ok (.invokevirtual 373, 3) := by decide +kernel
theorem dX9_writeAct_83 : decode cX9_writeAct 83 = .ok (.goto 46, 3) := by decide +kernel
theorem dX9_writeAct_86 : decode cX9_writeAct 86 = .ok (.aload_n 3, 1) := by decide +kernel
theorem dX9_writeAct_87 : decode cX9_writeAct 87 = .ok (.getfield 192, 3) := by decide +kernel
theorem dX9_writeAct_90 : decode cX9_writeAct 90 = .ok (.iload 4, 2) := by decide +kernel
theorem dX9_writeAct_92 : decode cX9_writeAct 92 = .ok (.baload, 1) := by decide +kernel
theorem dX9_writeAct_93 : decode cX9_writeAct 93 = .ok (.ifCond .eq 22, 3) := by decide +kernel
theorem dX9_writeAct_96 : decode cX9_writeAct 96 = .ok (.aload_n 0, 1) := by decide +kernel
theorem dX9_writeAct_97 : decode cX9_writeAct 97 = .ok (.getfield 55, 3) := by decide +kernel
theorem dX9_writeAct_100 : decode cX9_writeAct 100 = .ok (.bipush 45, 2) := by decide +kernel
theorem dX9_writeAct_102 : decode cX9_writeAct 102 = .ok (.aload_n 3, 1) := by decide +kernel
theorem dX9_writeAct_103 : decode cX9_writeAct 103 = .ok (.getfield 202, 3) := by decide +kernel
theorem dX9_writeAct_106 : decode cX9_writeAct 106 = .ok (.iload 4, 2) := by decide +kernel
theorem dX9_writeAct_108 : decode cX9_writeAct 108 = .ok (.laload, 1) := by decide +kernel
theorem dX9_writeAct_109 : decode cX9_writeAct 109 = .ok (.invokevirtual 377, 3) := by decide +kernel
theorem dX9_writeAct_112 : decode cX9_writeAct 112 = .ok (.goto 17, 3) := by decide +kernel
theorem dX9_writeAct_115 : decode cX9_writeAct 115 = .ok (.aload_n 0, 1) := by decide +kernel
theorem dX9_writeAct_116 : decode cX9_writeAct 116 = .ok (.getfield 55, 3) := by decide +kernel
theorem dX9_writeAct_119 : decode cX9_writeAct 119 = .ok (.aload_n 3, 1) := by decide +kernel
theorem dX9_writeAct_120 : decode cX9_writeAct 120 = .ok (.getfield 202, 3) := by decide +kernel
theorem dX9_writeAct_123 : decode cX9_writeAct 123 = .ok (.iload 4, 2) := by decide +kernel
theorem dX9_writeAct_125 : decode cX9_writeAct 125 = .ok (.laload, 1) := by decide +kernel
theorem dX9_writeAct_126 : decode cX9_writeAct 126 = .ok (.invokevirtual 381, 3) := by decide +kernel
theorem dX9_writeAct_129 : decode cX9_writeAct 129 = .ok (.iconst 0, 1) := by decide +kernel
theorem dX9_writeAct_130 : decode cX9_writeAct 130 = .ok (.istore 5, 2) := by decide +kernel
theorem dX9_writeAct_132 : decode cX9_writeAct 132 = .ok (.iload 5, 2) := by decide +kernel
theorem dX9_writeAct_134 : decode cX9_writeAct 134 = .ok (.aload_n 3, 1) := by decide +kernel
theorem dX9_writeAct_135 : decode cX9_writeAct 135 = .ok (.getfield 198, 3) := by decide +kernel
theorem dX9_writeAct_138 : decode cX9_writeAct 138 = .ok (.iload 4, 2) := by decide +kernel
theorem dX9_writeAct_140 : decode cX9_writeAct 140 = .ok (.iaload, 1) := by decide +kernel
theorem dX9_writeAct_141 : decode cX9_writeAct 141 = .ok (.if_icmp .ge 26, 3) := by decide +kernel
theorem dX9_writeAct_144 : decode cX9_writeAct 144 = .ok (.aload_n 0, 1) := by decide +kernel
theorem dX9_writeAct_145 : decode cX9_writeAct 145 = .ok (.getfield 55, 3) := by decide +kernel
theorem dX9_writeAct_148 : decode cX9_writeAct 148 = .ok (.bipush 94, 2) := by decide +kernel
theorem dX9_writeAct_150 : decode cX9_writeAct 150 = .ok (.aload_n 3, 1) := by decide +kernel
theorem dX9_writeAct_151 : decode cX9_writeAct 151 = .ok (.iload 4, 2) := by decide +kernel
theorem dX9_writeAct_153 : decode cX9_writeAct 153 = .ok (.iload 5, 2) := by decide +kernel
theorem dX9_writeAct_155 : decode cX9_writeAct 155 = .ok (.invokevirtual 224, 3) := by decide +kernel
theorem dX9_writeAct_158 : decode cX9_writeAct 158 = .ok (.invokevirtual 377, 3) := by decide +kernel
theorem dX9_writeAct_161 : decode cX9_writeAct 161 = .ok (.iinc 5 1, 3) := by decide +kernel
theorem dX9_writeAct_164 : decode cX9_writeAct 164 = .ok (.goto (-32), 3) := by decide +kernel
theorem dX9_writeAct_167 : decode cX9_writeAct 167 = .ok (.aload_n 0, 1) := by decide +kernel
theorem dX9_writeAct_168 : decode cX9_writeAct 168 = .ok (.getfield 55, 3) := by decide +kernel
theorem dX9_writeAct_171 : decode cX9_writeAct 171 = .ok (.bipush 41, 2) := by decide +kernel
theorem dX9_writeAct_173 : decode cX9_writeAct 173 = .ok (.aload_n 3, 1) := by decide +kernel
theorem dX9_writeAct_174 : decode cX9_writeAct 174 = .ok (.getfield 385, 3) := by decide +kernel
theorem dX9_writeAct_177 : decode cX9_writeAct 177 = .ok (.iload 4, 2) := by decide +kernel
theorem dX9_writeAct_179 : decode cX9_writeAct 179 = .ok (.iaload, 1) := by decide +kernel
theorem dX9_writeAct_180 : decode cX9_writeAct 180 = .ok (.invokevirtual 373, 3) := by decide +kernel
theorem dX9_writeAct_183 : decode cX9_writeAct 183 = .ok (.iinc 4 1, 3) := by decide +kernel
theorem dX9_writeAct_186 : decode cX9_writeAct 186 = .ok (.goto (-155), 3) := by decide +kernel
theorem dX9_writeAct_189 : decode cX9_writeAct 189 = .ok (.aload_n 0, 1) := by decide +kernel
theorem dX9_writeAct_190 : decode cX9_writeAct 190 = .ok (.getfield 55, 3) := by decide +kernel
theorem dX9_writeAct_193 : decode cX9_writeAct 193 = .ok (.getfield 388, 3) := by decide +kernel
theorem dX9_writeAct_196 : decode cX9_writeAct 196 = .ok (.invokevirtual 392, 3) := by decide +kernel
theorem dX9_writeAct_199 : decode cX9_writeAct 199 = .ok (.ireturn, 1) := by decide +kernel
theorem dX9_writeInserts_0 : decode cX9_writeInserts 0 = .ok (.iconst 0, 1) := by decide +kernel
theorem dX9_writeInserts_1 : decode cX9_writeInserts 1 = .ok (.istore_n 2, 1) := by decide +kernel
theorem dX9_writeInserts_2 : decode cX9_writeInserts 2 = .ok (.iload_n 2, 1) := by decide +kernel
theorem dX9_writeInserts_3 : decode cX9_writeInserts 3 = .ok (.aload_n 0, 1) := by decide +kernel
theorem dX9_writeInserts_4 : decode cX9_writeInserts 4 = .ok (.getfield 20, 3) := by decide +kernel
theorem dX9_writeInserts_7 : decode cX9_writeInserts 7 = .ok (.getfield 114, 3) := by decide +kernel
theorem dX9_writeInserts_10 : decode cX9_writeInserts 10 = .ok (.getfield 198, 3) := by decide +kernel
theorem dX9_writeInserts_13 : decode cX9_writeInserts 13 = .ok (.iload_n 1, 1) := by decide +kernel
theorem dX9_writeInserts_14 : decode cX9_writeInserts 14 = .ok (.iaload, 1) := by decide +kernel
theorem dX9_writeInserts_15 : decode cX9_writeInserts 15 = .ok (.if_icmp .ge 28, 3) := by decide +kernel
theorem dX9_writeInserts_18 : decode cX9_writeInserts 18 = .ok (.aload_n 0, 1) := by decide +kernel
theorem dX9_writeInserts_19 : decode cX9_writeInserts 19 = .ok (.getfield 55, 3) := by decide +kernel
theorem dX9_writeInserts_22 : decode cX9_writeInserts 22 = .ok (.aload_n 0, 1) := by decide +kernel
theorem dX9_writeInserts_23 : decode cX9_writeInserts 23 = .ok (.getfield 20, 3) := by decide +kernel
theorem dX9_writeInserts_26 : decode cX9_writeInserts 26 = .ok (.getfield 114, 3) := by decide +kernel
theorem dX9_writeInserts_29 : decode cX9_writeInserts 29 = .ok (.iload_n 1, 1) := by decide +kernel
theorem dX9_writeInserts_30 : decode cX9_writeInserts 30 = .ok (.iload_n 2, 1) := by decide +kernel
theorem dX9_writeInserts_31 : decode cX9_writeInserts 31 = .ok (.invokevirtual 224, 3) := by decide +kernel
theorem dX9_writeInserts_34 : decode cX9_writeInserts 34 = .ok (.invokevirtual 381, 3) := by decide +kernel
theorem dX9_writeInserts_37 : decode cX9_writeInserts 37 = .ok (.iinc 2 1, 3) := by decide +kernel
theorem dX9_writeInserts_40 : decode cX9_writeInserts 40 = .ok (.goto (-38), 3) := by decide +kernel
theorem dX9_writeInserts_43 : decode cX9_writeInserts 43 = .ok (.return_, 1) := by decide +kernel
theorem dX9_endOfWords_0 : decode cX9_endOfWords 0 = .ok (.aload_n 0, 1) := by decide +kernel
theorem dX9_endOfWords_1 : decode cX9_endOfWords 1 = .ok (.getfield 55, 3) := by decide +kernel
theorem dX9_endOfWords_4 : decode cX9_endOfWords 4 = .ok (.getfield 388, 3) := by decide +kernel
theorem dX9_endOfWords_7 : decode cX9_endOfWords 7 = .ok (.invokevirtual 392, 3) := by decide +kernel
theorem dX9_endOfWords_10 : decode cX9_endOfWords 10 = .ok (.ifCond .ne 13, 3) := by decide +kernel
theorem dX9_endOfWords_13 : decode cX9_endOfWords 13 = .ok (.aload_n 0, 1) := by decide +kernel
theorem dX9_endOfWords_14 : decode cX9_endOfWords 14 = .ok (.getfield 55, 3) := by decide +kernel
theorem dX9_endOfWords_17 : decode cX9_endOfWords 17 = .ok (.bipush 46, 2) := by decide +kernel
theorem dX9_endOfWords_19 : decode cX9_endOfWords 19 = .ok (.iconst 1, 1) := by decide +kernel
theorem dX9_endOfWords_20 : decode cX9_endOfWords 20 = .ok (.invokevirtual 373, 3) := by decide +kernel
theorem dX9_endOfWords_23 : decode cX9_endOfWords 23 = .ok (.aload_n 0, 1) := by decide +kernel
theorem dX9_endOfWords_24 : decode cX9_endOfWords 24 = .ok (.getfield 55, 3) := by decide +kernel
theorem dX9_endOfWords_27 : decode cX9_endOfWords 27 = .ok (.getfield 388, 3) := by decide +kernel
theorem dX9_endOfWords_30 : decode cX9_endOfWords 30 = .ok (.invokevirtual 392, 3) := by decide +kernel
theorem dX9_endOfWords_33 : decode cX9_endOfWords 33 = .ok (.ireturn, 1) := by decide +kernel
theorem dX9_writeStanding_0 : decode cX9_writeStanding 0 = .ok (.aload_n 0, 1) := by decide +kernel
theorem dX9_writeStanding_1 : decode cX9_writeStanding 1 = .ok (.invokevirtual 95, 3) := by decide +kernel
theorem dX9_writeStanding_4 : decode cX9_writeStanding 4 = .ok (.aload_n 0, 1) := by decide +kernel
theorem dX9_writeStanding_5 : decode cX9_writeStanding 5 = .ok (.iload_n 1, 1) := by decide +kernel
theorem dX9_writeStanding_6 : decode cX9_writeStanding 6 = .ok (.invokevirtual 153, 3) := by decide +kernel
theorem dX9_writeStanding_9 : decode cX9_writeStanding 9 = .ok (.astore_n 2, 1) := by decide +kernel
theorem dX9_writeStanding_10 : decode cX9_writeStanding 10 = .ok (.aload_n 0, 1) := by decide +kernel
theorem dX9_writeStanding_11 : decode cX9_writeStanding 11 = .ok (.getfield 20, 3) := by decide +kernel
theorem dX9_writeStanding_14 : decode cX9_writeStanding 14 = .ok (.getfield 114, 3) := by decide +kernel
theorem dX9_writeStanding_17 : decode cX9_writeStanding 17 = .ok (.astore_n 3, 1) := by decide +kernel
theorem dX9_writeStanding_18 : decode cX9_writeStanding 18 = .ok (.aload_n 0, 1) := by decide +kernel
theorem dX9_writeStanding_19 : decode cX9_writeStanding 19 = .ok (.getfield 55, 3) := by decide +kernel
theorem dX9_writeStanding_22 : decode cX9_writeStanding 22 = .ok (.invokevirtual 367, 3) := by decide +kernel
theorem dX9_writeStanding_25 : decode cX9_writeStanding 25 = .ok (.aload_n 2, 1) := by decide +kernel
theorem dX9_writeStanding_26 : decode cX9_writeStanding 26 = .ok (.getfield 170, 3) := by decide +kernel
theorem dX9_writeStanding_29 : decode cX9_writeStanding 29 = .ok (.istore 4, 2) := by decide +kernel
theorem dX9_writeStanding_31 : decode cX9_writeStanding 31 = .ok (.iload 4, 2) := by decide +kernel
theorem dX9_writeStanding_33 : decode cX9_writeStanding 33 = .ok (.aload_n 2, 1) := by decide +kernel
theorem dX9_writeStanding_34 : decode cX9_writeStanding 34 = .ok (.getfield 170, 3) := by decide +kernel
theorem dX9_writeStanding_37 : decode cX9_writeStanding 37 = .ok (.aload_n 2, 1) := by decide +kernel
theorem dX9_writeStanding_38 : decode cX9_writeStanding 38 = .ok (.getfield 169, 3) := by decide +kernel
theorem dX9_writeStanding_41 : decode cX9_writeStanding 41 = .ok (.iadd, 1) := by decide +kernel
theorem dX9_writeStanding_42 : decode cX9_writeStanding 42 = .ok (.if_icmp .ge 74, 3) := by decide +kernel
theorem dX9_writeStanding_45 : decode cX9_writeStanding 45 = .ok (.aload_n 3, 1) := by decide +kernel
theorem dX9_writeStanding_46 : decode cX9_writeStanding 46 = .ok (.getfield 192, 3) := by decide +kernel
theorem dX9_writeStanding_49 : decode cX9_writeStanding 49 = .ok (.iload 4, 2) := by decide +kernel
theorem dX9_writeStanding_51 : decode cX9_writeStanding 51 = .ok (.baload, 1) := by decide +kernel
theorem dX9_writeStanding_52 : decode cX9_writeStanding 52 = .ok (.ifCond .ne 32, 3) := by decide +kernel
theorem dX9_writeStanding_55 : decode cX9_writeStanding 55 = .ok (.aload_n 0, 1) := by decide +kernel
theorem dX9_writeStanding_56 : decode cX9_writeStanding 56 = .ok (.getfield 20, 3) := by decide +kernel
theorem dX9_writeStanding_59 : decode cX9_writeStanding 59 = .ok (.iload 4, 2) := by decide +kernel
theorem dX9_writeStanding_61 : decode cX9_writeStanding 61 = .ok (.invokevirtual 210, 3) := by decide +kernel
theorem dX9_writeStanding_64 : decode cX9_writeStanding 64 = .ok (.ifCond .eq 20, 3) := by decide +kernel
theorem dX9_writeStanding_67 : decode cX9_writeStanding 67 = .ok (.aload_n 0, 1) := by decide +kernel
theorem dX9_writeStanding_68 : decode cX9_writeStanding 68 = .ok (.getfield 55, 3) := by decide +kernel
theorem dX9_writeStanding_71 : decode cX9_writeStanding 71 = .ok (.aload_n 3, 1) := by decide +kernel
theorem dX9_writeStanding_72 : decode cX9_writeStanding 72 = .ok (.getfield 202, 3) := by decide +kernel
theorem dX9_writeStanding_75 : decode cX9_writeStanding 75 = .ok (.iload 4, 2) := by decide +kernel
theorem dX9_writeStanding_77 : decode cX9_writeStanding 77 = .ok (.laload, 1) := by decide +kernel
theorem dX9_writeStanding_78 : decode cX9_writeStanding 78 = .ok (.invokevirtual 381, 3) := by decide +kernel
theorem dX9_writeStanding_81 : decode cX9_writeStanding 81 = .ok (.goto 23, 3) := by decide +kernel
theorem dX9_writeStanding_84 : decode cX9_writeStanding 84 = .ok (.aload_n 3, 1) := by decide +kernel
theorem dX9_writeStanding_85 : decode cX9_writeStanding 85 = .ok (.getfield 192, 3) := by decide +kernel
theorem dX9_writeStanding_88 : decode cX9_writeStanding 88 = .ok (.iload 4, 2) := by decide +kernel
theorem dX9_writeStanding_90 : decode cX9_writeStanding 90 = .ok (.baload, 1) := by decide +kernel
theorem dX9_writeStanding_91 : decode cX9_writeStanding 91 = .ok (.ifCond .ne 13, 3) := by decide +kernel
theorem dX9_writeStanding_94 : decode cX9_writeStanding 94 = .ok (.aload_n 0, 1) := by decide +kernel
theorem dX9_writeStanding_95 : decode cX9_writeStanding 95 = .ok (.getfield 55, 3) := by decide +kernel
theorem dX9_writeStanding_98 : decode cX9_writeStanding 98 = .ok (.bipush 63, 2) := by decide +kernel
theorem dX9_writeStanding_100 : decode cX9_writeStanding 100 = .ok (.iconst 1, 1) := by decide +kernel
theorem dX9_writeStanding_101 : decode cX9_writeStanding 101 = .ok (.invokevirtual 373, 3) := by decide +kernel
theorem dX9_writeStanding_104 : decode cX9_writeStanding 104 = .ok (.aload_n 0, 1) := by decide +kernel
theorem dX9_writeStanding_105 : decode cX9_writeStanding 105 = .ok (.iload 4, 2) := by decide +kernel
theorem dX9_writeStanding_107 : decode cX9_writeStanding 107 = .ok (.invokevirtual 397, 3) := by decide +kernel
theorem dX9_writeStanding_110 : decode cX9_writeStanding 110 = .ok (.iinc 4 1, 3) := by decide +kernel
theorem dX9_writeStanding_113 : decode cX9_writeStanding 113 = .ok (.goto (-82), 3) := by decide +kernel
theorem dX9_writeStanding_116 : decode cX9_writeStanding 116 = .ok (.aload_n 0, 1) := by decide +kernel
theorem dX9_writeStanding_117 : decode cX9_writeStanding 117 = .ok (.invokevirtual 400, 3) := by decide +kernel
theorem dX9_writeStanding_120 : decode cX9_writeStanding 120 = .ok (.ireturn, 1) := by decide +kernel
theorem dX9_writeLeaf_0 : decode cX9_writeLeaf 0 = .ok (.aload_n 0, 1) := by decide +kernel
theorem dX9_writeLeaf_1 : decode cX9_writeLeaf 1 = .ok (.invokevirtual 95, 3) := by decide +kernel
theorem dX9_writeLeaf_4 : decode cX9_writeLeaf 4 = .ok (.aload_n 0, 1) := by decide +kernel
theorem dX9_writeLeaf_5 : decode cX9_writeLeaf 5 = .ok (.iload_n 1, 1) := by decide +kernel
theorem dX9_writeLeaf_6 : decode cX9_writeLeaf 6 = .ok (.invokevirtual 254, 3) := by decide +kernel
theorem dX9_writeLeaf_9 : decode cX9_writeLeaf 9 = .ok (.aload_n 0, 1) := by decide +kernel
theorem dX9_writeLeaf_10 : decode cX9_writeLeaf 10 = .ok (.getfield 55, 3) := by decide +kernel
theorem dX9_writeLeaf_13 : decode cX9_writeLeaf 13 = .ok (.invokevirtual 367, 3) := by decide +kernel
theorem dX9_writeLeaf_16 : decode cX9_writeLeaf 16 = .ok (.aload_n 0, 1) := by decide +kernel
theorem dX9_writeLeaf_17 : decode cX9_writeLeaf 17 = .ok (.getfield 20, 3) := by decide +kernel
theorem dX9_writeLeaf_20 : decode cX9_writeLeaf 20 = .ok (.getfield 108, 3) := by decide +kernel
theorem dX9_writeLeaf_23 : decode cX9_writeLeaf 23 = .ok (.iload_n 1, 1) := by decide +kernel
theorem dX9_writeLeaf_24 : decode cX9_writeLeaf 24 = .ok (.invokevirtual 403, 3) := by decide +kernel
theorem dX9_writeLeaf_27 : decode cX9_writeLeaf 27 = .ok (.ifCond .eq 24, 3) := by decide +kernel
theorem dX9_writeLeaf_30 : decode cX9_writeLeaf 30 = .ok (.aload_n 0, 1) := by decide +kernel
theorem dX9_writeLeaf_31 : decode cX9_writeLeaf 31 = .ok (.getfield 55, 3) := by decide +kernel
theorem dX9_writeLeaf_34 : decode cX9_writeLeaf 34 = .ok (.bipush 63, 2) := by decide +kernel
theorem dX9_writeLeaf_36 : decode cX9_writeLeaf 36 = .ok (.iconst 1, 1) := by decide +kernel
theorem dX9_writeLeaf_37 : decode cX9_writeLeaf 37 = .ok (.invokevirtual 373, 3) := by decide +kernel
theorem dX9_writeLeaf_40 : decode cX9_writeLeaf 40 = .ok (.aload_n 0, 1) := by decide +kernel
theorem dX9_writeLeaf_41 : decode cX9_writeLeaf 41 = .ok (.getfield 55, 3) := by decide +kernel
theorem dX9_writeLeaf_44 : decode cX9_writeLeaf 44 = .ok (.getfield 388, 3) := by decide +kernel
theorem dX9_writeLeaf_47 : decode cX9_writeLeaf 47 = .ok (.invokevirtual 392, 3) := by decide +kernel
theorem dX9_writeLeaf_50 : decode cX9_writeLeaf 50 = .ok (.ireturn, 1) := by decide +kernel
theorem dX9_writeLeaf_51 : decode cX9_writeLeaf 51 = .ok (.iload_n 1, 1) := by decide +kernel
theorem dX9_writeLeaf_52 : decode cX9_writeLeaf 52 = .ok (.aload_n 0, 1) := by decide +kernel
theorem dX9_writeLeaf_53 : decode cX9_writeLeaf 53 = .ok (.getfield 20, 3) := by decide +kernel
theorem dX9_writeLeaf_56 : decode cX9_writeLeaf 56 = .ok (.getfield 102, 3) := by decide +kernel
theorem dX9_writeLeaf_59 : decode cX9_writeLeaf 59 = .ok (.imul, 1) := by decide +kernel
theorem dX9_writeLeaf_60 : decode cX9_writeLeaf 60 = .ok (.istore_n 2, 1) := by decide +kernel
theorem dX9_writeLeaf_61 : decode cX9_writeLeaf 61 = .ok (.iload_n 2, 1) := by decide +kernel
theorem dX9_writeLeaf_62 : decode cX9_writeLeaf 62 = .ok (.istore_n 3, 1) := by decide +kernel
theorem dX9_writeLeaf_63 : decode cX9_writeLeaf 63 = .ok (.iload_n 3, 1) := by decide +kernel
theorem dX9_writeLeaf_64 : decode cX9_writeLeaf 64 = .ok (.iload_n 2, 1) := by decide +kernel
theorem dX9_writeLeaf_65 : decode cX9_writeLeaf 65 = .ok (.aload_n 0, 1) := by decide +kernel
theorem dX9_writeLeaf_66 : decode cX9_writeLeaf 66 = .ok (.getfield 20, 3) := by decide +kernel
theorem dX9_writeLeaf_69 : decode cX9_writeLeaf 69 = .ok (.iload_n 1, 1) := by decide +kernel
theorem dX9_writeLeaf_70 : decode cX9_writeLeaf 70 = .ok (.invokevirtual 260, 3) := by decide +kernel
theorem dX9_writeLeaf_73 : decode cX9_writeLeaf 73 = .ok (.iadd, 1) := by decide +kernel
theorem dX9_writeLeaf_74 : decode cX9_writeLeaf 74 = .ok (.if_icmp .ge 67, 3) := by decide +kernel
theorem dX9_writeLeaf_77 : decode cX9_writeLeaf 77 = .ok (.aload_n 0, 1) := by decide +kernel
theorem dX9_writeLeaf_78 : decode cX9_writeLeaf 78 = .ok (.getfield 20, 3) := by decide +kernel
theorem dX9_writeLeaf_81 : decode cX9_writeLeaf 81 = .ok (.iload_n 3, 1) := by decide +kernel
theorem dX9_writeLeaf_82 : decode cX9_writeLeaf 82 = .ok (.invokevirtual 406, 3) := by decide +kernel
theorem dX9_writeLeaf_85 : decode cX9_writeLeaf 85 = .ok (.istore 4, 2) := by decide +kernel
theorem dX9_writeLeaf_87 : decode cX9_writeLeaf 87 = .ok (.iload 4, 2) := by decide +kernel
theorem dX9_writeLeaf_89 : decode cX9_writeLeaf 89 = .ok (.ifCond .ne 25, 3) := by decide +kernel
theorem dX9_writeLeaf_92 : decode cX9_writeLeaf 92 = .ok (.aload_n 0, 1) := by decide +kernel
theorem dX9_writeLeaf_93 : decode cX9_writeLeaf 93 = .ok (.getfield 55, 3) := by decide +kernel
theorem dX9_writeLeaf_96 : decode cX9_writeLeaf 96 = .ok (.aload_n 0, 1) := by decide +kernel
theorem dX9_writeLeaf_97 : decode cX9_writeLeaf 97 = .ok (.getfield 20, 3) := by decide +kernel
theorem dX9_writeLeaf_100 : decode cX9_writeLeaf 100 = .ok (.getfield 114, 3) := by decide +kernel
theorem dX9_writeLeaf_103 : decode cX9_writeLeaf 103 = .ok (.getfield 202, 3) := by decide +kernel
theorem dX9_writeLeaf_106 : decode cX9_writeLeaf 106 = .ok (.iload_n 3, 1) := by decide +kernel
theorem dX9_writeLeaf_107 : decode cX9_writeLeaf 107 = .ok (.laload, 1) := by decide +kernel
theorem dX9_writeLeaf_108 : decode cX9_writeLeaf 108 = .ok (.invokevirtual 381, 3) := by decide +kernel
theorem dX9_writeLeaf_111 : decode cX9_writeLeaf 111 = .ok (.goto 24, 3) := by decide +kernel
theorem dX9_writeLeaf_114 : decode cX9_writeLeaf 114 = .ok (.aload_n 0, 1) := by decide +kernel
theorem dX9_writeLeaf_115 : decode cX9_writeLeaf 115 = .ok (.getfield 55, 3) := by decide +kernel
theorem dX9_writeLeaf_118 : decode cX9_writeLeaf 118 = .ok (.iload 4, 2) := by decide +kernel
theorem dX9_writeLeaf_120 : decode cX9_writeLeaf 120 = .ok (.aload_n 0, 1) := by decide +kernel
theorem dX9_writeLeaf_121 : decode cX9_writeLeaf 121 = .ok (.getfield 20, 3) := by decide +kernel
theorem dX9_writeLeaf_124 : decode cX9_writeLeaf 124 = .ok (.getfield 114, 3) := by decide +kernel
theorem dX9_writeLeaf_127 : decode cX9_writeLeaf 127 = .ok (.getfield 202, 3) := by decide +kernel
theorem dX9_writeLeaf_130 : decode cX9_writeLeaf 130 = .ok (.iload_n 3, 1) := by decide +kernel
theorem dX9_writeLeaf_131 : decode cX9_writeLeaf 131 = .ok (.laload, 1) := by decide +kernel
theorem dX9_writeLeaf_132 : decode cX9_writeLeaf 132 = .ok (.invokevirtual 409, 3) := by decide +kernel
theorem dX9_writeLeaf_135 : decode cX9_writeLeaf 135 = .ok (.iinc 3 1, 3) := by decide +kernel
theorem dX9_writeLeaf_138 : decode cX9_writeLeaf 138 = .ok (.goto (-75), 3) := by decide +kernel
theorem dX9_writeLeaf_141 : decode cX9_writeLeaf 141 = .ok (.aload_n 0, 1) := by decide +kernel
theorem dX9_writeLeaf_142 : decode cX9_writeLeaf 142 = .ok (.getfield 55, 3) := by decide +kernel
theorem dX9_writeLeaf_145 : decode cX9_writeLeaf 145 = .ok (.getfield 388, 3) := by decide +kernel
theorem dX9_writeLeaf_148 : decode cX9_writeLeaf 148 = .ok (.invokevirtual 392, 3) := by decide +kernel
theorem dX9_writeLeaf_151 : decode cX9_writeLeaf 151 = .ok (.ireturn, 1) := by decide +kernel
theorem dX9_writeCopy_0 : decode cX9_writeCopy 0 = .ok (.aload_n 0, 1) := by decide +kernel
theorem dX9_writeCopy_1 : decode cX9_writeCopy 1 = .ok (.invokevirtual 95, 3) := by decide +kernel
theorem dX9_writeCopy_4 : decode cX9_writeCopy 4 = .ok (.aload_n 0, 1) := by decide +kernel
theorem dX9_writeCopy_5 : decode cX9_writeCopy 5 = .ok (.iload_n 1, 1) := by decide +kernel
theorem dX9_writeCopy_6 : decode cX9_writeCopy 6 = .ok (.invokevirtual 275, 3) := by decide +kernel
theorem dX9_writeCopy_9 : decode cX9_writeCopy 9 = .ok (.astore_n 2, 1) := by decide +kernel
theorem dX9_writeCopy_10 : decode cX9_writeCopy 10 = .ok (.aload_n 0, 1) := by decide +kernel
theorem dX9_writeCopy_11 : decode cX9_writeCopy 11 = .ok (.aload_n 2, 1) := by decide +kernel
theorem dX9_writeCopy_12 : decode cX9_writeCopy 12 = .ok (.getfield 279, 3) := by decide +kernel
theorem dX9_writeCopy_15 : decode cX9_writeCopy 15 = .ok (.invokevirtual 153, 3) := by decide +kernel
theorem dX9_writeCopy_18 : decode cX9_writeCopy 18 = .ok (.astore_n 3, 1) := by decide +kernel
theorem dX9_writeCopy_19 : decode cX9_writeCopy 19 = .ok (.aload_n 0, 1) := by decide +kernel
theorem dX9_writeCopy_20 : decode cX9_writeCopy 20 = .ok (.getfield 55, 3) := by decide +kernel
theorem dX9_writeCopy_23 : decode cX9_writeCopy 23 = .ok (.invokevirtual 367, 3) := by decide +kernel
theorem dX9_writeCopy_26 : decode cX9_writeCopy 26 = .ok (.aload_n 3, 1) := by decide +kernel
theorem dX9_writeCopy_27 : decode cX9_writeCopy 27 = .ok (.getfield 170, 3) := by decide +kernel
theorem dX9_writeCopy_30 : decode cX9_writeCopy 30 = .ok (.istore 4, 2) := by decide +kernel
theorem dX9_writeCopy_32 : decode cX9_writeCopy 32 = .ok (.iload 4, 2) := by decide +kernel
theorem dX9_writeCopy_34 : decode cX9_writeCopy 34 = .ok (.aload_n 3, 1) := by decide +kernel
theorem dX9_writeCopy_35 : decode cX9_writeCopy 35 = .ok (.getfield 170, 3) := by decide +kernel
theorem dX9_writeCopy_38 : decode cX9_writeCopy 38 = .ok (.aload_n 3, 1) := by decide +kernel
theorem dX9_writeCopy_39 : decode cX9_writeCopy 39 = .ok (.getfield 169, 3) := by decide +kernel
theorem dX9_writeCopy_42 : decode cX9_writeCopy 42 = .ok (.iadd, 1) := by decide +kernel
theorem dX9_writeCopy_43 : decode cX9_writeCopy 43 = .ok (.if_icmp .ge 58, 3) := by decide +kernel
theorem dX9_writeCopy_46 : decode cX9_writeCopy 46 = .ok (.aload_n 2, 1) := by decide +kernel
theorem dX9_writeCopy_47 : decode cX9_writeCopy 47 = .ok (.aload_n 0, 1) := by decide +kernel
theorem dX9_writeCopy_48 : decode cX9_writeCopy 48 = .ok (.getfield 20, 3) := by decide +kernel
theorem dX9_writeCopy_51 : decode cX9_writeCopy 51 = .ok (.getfield 114, 3) := by decide +kernel
theorem dX9_writeCopy_54 : decode cX9_writeCopy 54 = .ok (.iload 4, 2) := by decide +kernel
theorem dX9_writeCopy_56 : decode cX9_writeCopy 56 = .ok (.invokevirtual 294, 3) := by decide +kernel
theorem dX9_writeCopy_59 : decode cX9_writeCopy 59 = .ok (.ifCond .eq 23, 3) := by decide +kernel
theorem dX9_writeCopy_62 : decode cX9_writeCopy 62 = .ok (.aload_n 0, 1) := by decide +kernel
theorem dX9_writeCopy_63 : decode cX9_writeCopy 63 = .ok (.getfield 55, 3) := by decide +kernel
theorem dX9_writeCopy_66 : decode cX9_writeCopy 66 = .ok (.aload_n 0, 1) := by decide +kernel
theorem dX9_writeCopy_67 : decode cX9_writeCopy 67 = .ok (.getfield 20, 3) := by decide +kernel
theorem dX9_writeCopy_70 : decode cX9_writeCopy 70 = .ok (.getfield 114, 3) := by decide +kernel
theorem dX9_writeCopy_73 : decode cX9_writeCopy 73 = .ok (.getfield 202, 3) := by decide +kernel
theorem dX9_writeCopy_76 : decode cX9_writeCopy 76 = .ok (.iload 4, 2) := by decide +kernel
theorem dX9_writeCopy_78 : decode cX9_writeCopy 78 = .ok (.laload, 1) := by decide +kernel
theorem dX9_writeCopy_79 : decode cX9_writeCopy 79 = .ok (.invokevirtual 381, 3) := by decide +kernel
theorem dX9_writeCopy_82 : decode cX9_writeCopy 82 = .ok (.aload_n 2, 1) := by decide +kernel
theorem dX9_writeCopy_83 : decode cX9_writeCopy 83 = .ok (.getfield 284, 3) := by decide +kernel
theorem dX9_writeCopy_86 : decode cX9_writeCopy 86 = .ok (.ifCond .ne 9, 3) := by decide +kernel
theorem dX9_writeCopy_89 : decode cX9_writeCopy 89 = .ok (.aload_n 0, 1) := by decide +kernel
theorem dX9_writeCopy_90 : decode cX9_writeCopy 90 = .ok (.iload 4, 2) := by decide +kernel
theorem dX9_writeCopy_92 : decode cX9_writeCopy 92 = .ok (.invokevirtual 397, 3) := by decide +kernel
theorem dX9_writeCopy_95 : decode cX9_writeCopy 95 = .ok (.iinc 4 1, 3) := by decide +kernel
theorem dX9_writeCopy_98 : decode cX9_writeCopy 98 = .ok (.goto (-66), 3) := by decide +kernel
theorem dX9_writeCopy_101 : decode cX9_writeCopy 101 = .ok (.aload_n 0, 1) := by decide +kernel
theorem dX9_writeCopy_102 : decode cX9_writeCopy 102 = .ok (.invokevirtual 400, 3) := by decide +kernel
theorem dX9_writeCopy_105 : decode cX9_writeCopy 105 = .ok (.ireturn, 1) := by decide +kernel
theorem dX9_textByte_0 : decode cX9_textByte 0 = .ok (.iload_n 1, 1) := by decide +kernel
theorem dX9_textByte_1 : decode cX9_textByte 1 = .ok (.ifCond .lt 17, 3) := by decide +kernel
theorem dX9_textByte_4 : decode cX9_textByte 4 = .ok (.iload_n 1, 1) := by decide +kernel
theorem dX9_textByte_5 : decode cX9_textByte 5 = .ok (.aload_n 0, 1) := by decide +kernel
theorem dX9_textByte_6 : decode cX9_textByte 6 = .ok (.getfield 55, 3) := by decide +kernel
theorem dX9_textByte_9 : decode cX9_textByte 9 = .ok (.getfield 388, 3) := by decide +kernel
theorem dX9_textByte_12 : decode cX9_textByte 12 = .ok (.invokevirtual 392, 3) := by decide +kernel
theorem dX9_textByte_15 : decode cX9_textByte 15 = .ok (.if_icmp .lt 14, 3) := by decide +kernel
theorem dX9_textByte_18 : decode cX9_textByte 18 = .ok (.new 238, 3) := by decide +kernel
theorem dX9_textByte_21 : decode cX9_textByte 21 = .ok (.dup, 1) := by decide +kernel
theorem dX9_textByte_22 : decode cX9_textByte 22 = .ok (.ldc_w 413, 3) := by decide +kernel
theorem dX9_textByte_25 : decode cX9_textByte 25 = .ok (.invokespecial 242, 3) := by decide +kernel
theorem dX9_textByte_28 : decode cX9_textByte 28 = .ok (.athrow, 1) := by decide +kernel
theorem dX9_textByte_29 : decode cX9_textByte 29 = .ok (.aload_n 0, 1) := by decide +kernel
theorem dX9_textByte_30 : decode cX9_textByte 30 = .ok (.getfield 55, 3) := by decide +kernel
theorem dX9_textByte_33 : decode cX9_textByte 33 = .ok (.getfield 388, 3) := by decide +kernel
theorem dX9_textByte_36 : decode cX9_textByte 36 = .ok (.iload_n 1, 1) := by decide +kernel
theorem dX9_textByte_37 : decode cX9_textByte 37 = .ok (.invokevirtual 415, 3) := by decide +kernel
theorem dX9_textByte_40 : decode cX9_textByte 40 = .ok (.ireturn, 1) := by decide +kernel
theorem dX9_rowAt_0 : decode cX9_rowAt 0 = .ok (.aload_n 0, 1) := by decide +kernel
theorem dX9_rowAt_1 : decode cX9_rowAt 1 = .ok (.iload_n 1, 1) := by decide +kernel
theorem dX9_rowAt_2 : decode cX9_rowAt 2 = .ok (.aaload, 1) := by decide +kernel
theorem dX9_rowAt_3 : decode cX9_rowAt 3 = .ok (.ifnonnull 13, 3) := by decide +kernel
theorem dX9_rowAt_6 : decode cX9_rowAt 6 = .ok (.aload_n 0, 1) := by decide +kernel
theorem dX9_rowAt_7 : decode cX9_rowAt 7 = .ok (.iload_n 1, 1) := by decide +kernel
theorem dX9_rowAt_8 : decode cX9_rowAt 8 = .ok (.new 17, 3) := by decide +kernel
theorem dX9_rowAt_11 : decode cX9_rowAt 11 = .ok (.dup, 1) := by decide +kernel
theorem dX9_rowAt_12 : decode cX9_rowAt 12 = .ok (.invokespecial 19, 3) := by decide +kernel
theorem dX9_rowAt_15 : decode cX9_rowAt 15 = .ok (.aastore, 1) := by decide +kernel
theorem dX9_rowAt_16 : decode cX9_rowAt 16 = .ok (.aload_n 0, 1) := by decide +kernel
theorem dX9_rowAt_17 : decode cX9_rowAt 17 = .ok (.iload_n 1, 1) := by decide +kernel
theorem dX9_rowAt_18 : decode cX9_rowAt 18 = .ok (.aaload, 1) := by decide +kernel
theorem dX9_rowAt_19 : decode cX9_rowAt 19 = .ok (.areturn, 1) := by decide +kernel
set_option maxRecDepth 100000 in
set_option maxHeartbeats 4000000 in
theorem cX9_whyNotCopyc {l : Launch} {v0 : Option Nat} {v1 : Int32} {v2 : Int32} {σ : HpT} {o : Except Nat (Int32)} {σ' : HpT} {a b : Nat} (h : fX9_whyNotCopy v0 v1 v2 σ = some (o, σ', a, b)) : IsK σ v0 9 ∧ Ct l yX9_whyNotCopy cX9_whyNotCopy 3 (some .int) 7 111 [va_rf v0, .int v1, .int v2] σ (oI o) σ' a b := by
  unfold fX9_whyNotCopy at h
  replace h := bnP_s h
  obtain ⟨u, hk, h⟩ := h
  replace hk := isK_s hk
  refine ⟨hk, ?_⟩
  refine ct_start mi_X9_whyNotCopy.1 rfl (al_le (al_1 (rf_cat _) (al_1 rfl (al_1 rfl al_n))) (Nat.le_of_ble_eq_true rfl)) (ag_1 (rf_cat _) (ag_1 rfl (ag_1 rfl ag_n))) (fun Δ Γ B hE hnm => ?_)
  have hka : 0 + a = a := Nat.zero_add a
  have hkb : 0 + b = b := Nat.zero_add b
  have hla : a ≤ a := Nat.le_refl a
  have hlb : b ≤ b := Nat.le_refl b
  refine g_aload_n B 0 dX9_whyNotCopy_0 rfl rfl ?_
  replace h := bnXA_s h
  rcases h with ⟨e9, h2, e8, e7, e6, e5⟩ | ⟨x1, h2, h⟩
  · subst e8; subst e7; subst e6; subst e5
    exact g_callVx (st := []) B (cX9_requireBookc (o := .error e9) h2) (Nat.le_of_ble_eq_true rfl) rfl rfl mi_X9_requireBook lk_RX9_95 ⟨Nat.le_of_ble_eq_true rfl, Nat.le_of_ble_eq_true rfl⟩ rfl rfl (Nat.le_of_ble_eq_true rfl) dX9_whyNotCopy_1 (Nat.le_trans (Nat.le_of_eq hka) hla) (Nat.le_trans (Nat.le_of_eq hkb) hlb) hE
  · skip
    refine g_callVv0 (st := []) B (cX9_requireBookc (o := .ok x1) h2) (Nat.le_of_ble_eq_true rfl) rfl rfl mi_X9_requireBook lk_RX9_95 ⟨Nat.le_of_ble_eq_true rfl, Nat.le_of_ble_eq_true rfl⟩ rfl rfl (Nat.le_of_ble_eq_true rfl) dX9_whyNotCopy_1 (Nat.le_trans (bm hka) hla) (Nat.le_trans (bm hkb) hlb) ?_
    refine g_aload_n B 0 dX9_whyNotCopy_4 rfl rfl ?_
    refine g_iload_n B 1 dX9_whyNotCopy_5 rfl rfl ?_
    replace h := bnXA_s h
    rcases h with ⟨e9, h4, e8, e7, e6, e5⟩ | ⟨x3, h4, h⟩
    · subst e8; subst e7; subst e6; subst e5
      exact g_callVx (st := []) B (cX9_requireActc (o := .error e9) h4) (Nat.le_of_ble_eq_true rfl) rfl rfl mi_X9_requireAct lk_RX9_153 ⟨Nat.le_of_ble_eq_true rfl, Nat.le_of_ble_eq_true rfl⟩ rfl rfl (Nat.le_of_ble_eq_true rfl) dX9_whyNotCopy_6 (Nat.le_trans (Nat.le_of_eq hka) hla) (Nat.le_trans (Nat.le_of_eq hkb) hlb) hE
    · skip
      refine g_callVs0 (st := []) B (cX9_requireActc (o := .ok x3) h4) (Nat.le_of_ble_eq_true rfl) rfl rfl mi_X9_requireAct lk_RX9_153 ⟨Nat.le_of_ble_eq_true rfl, Nat.le_of_ble_eq_true rfl⟩ rfl rfl (Nat.le_of_ble_eq_true rfl) dX9_whyNotCopy_6 (Nat.le_trans (bm hka) hla) (Nat.le_trans (bm hkb) hlb) ?_
      refine g_pop B dX9_whyNotCopy_9 (rf_cat _) ?_
      refine g_iload_n B 2 dX9_whyNotCopy_10 rfl rfl ?_
      refine g_iconst (v := 2) B dX9_whyNotCopy_11 (by decide) ?_
      replace h := bnXA_s h
      rcases h with ⟨e9, h6, e8, e7, e6, e5⟩ | ⟨x5, h6, h⟩
      · subst e8; subst e7; subst e6; subst e5
        exact g_callSx (st := []) B (cX9_requireUpToc (o := .error e9) h6) mi_X9_requireUpTo lk_RX9_98 ⟨Nat.le_of_ble_eq_true rfl, Nat.le_of_ble_eq_true rfl⟩ rfl rfl (Nat.le_of_ble_eq_true rfl) dX9_whyNotCopy_12 (Nat.le_trans (Nat.le_of_eq hka) hla) (Nat.le_trans (Nat.le_of_eq hkb) hlb) hE
      · skip
        refine g_callSv0 (st := []) B (cX9_requireUpToc (o := .ok x5) h6) mi_X9_requireUpTo lk_RX9_98 ⟨Nat.le_of_ble_eq_true rfl, Nat.le_of_ble_eq_true rfl⟩ rfl rfl (Nat.le_of_ble_eq_true rfl) dX9_whyNotCopy_12 (Nat.le_trans (bm hka) hla) (Nat.le_trans (bm hkb) hlb) ?_
        refine g_aload_n B 0 dX9_whyNotCopy_15 rfl rfl ?_
        replace h := bnP_s h
        obtain ⟨x7, h8, h⟩ := h
        refine g_getR B fl_RX9_20 (by decide) dX9_whyNotCopy_16 h8 ?_
        refine g_iload_n B 1 dX9_whyNotCopy_19 rfl rfl ?_
        refine g_iload_n B 2 dX9_whyNotCopy_20 rfl rfl ?_
        replace h := bnS_s h
        obtain ⟨x9, s11, h10, h⟩ := h
        refine g_callVs0 (st := []) B (cX1_copyReasonc h10) (Nat.le_of_ble_eq_true rfl) rfl rfl mi_X1_copyReason lk_RX9_313 ⟨Nat.le_of_ble_eq_true rfl, Nat.le_of_ble_eq_true rfl⟩ rfl rfl (Nat.le_of_ble_eq_true rfl) dX9_whyNotCopy_21 (Nat.le_trans (bm hka) hla) (Nat.le_trans (bm hkb) hlb) ?_
        obtain ⟨w1, w2, w3, w4⟩ := inA h
        clear h
        subst w1
        subst w2
        subst w3
        subst w4
        exact g_iret B hE (Nat.le_trans (Nat.le_of_eq hka) hla) (Nat.le_trans (Nat.le_of_eq hkb) hlb) dX9_whyNotCopy_24
set_option maxRecDepth 100000 in
set_option maxHeartbeats 4000000 in
theorem cX9_whyNotStrikec {l : Launch} {v0 : Option Nat} {v1 : Int32} {σ : HpT} {o : Except Nat (Int32)} (h : fX9_whyNotStrike v0 v1 σ = some o) : IsK σ v0 9 ∧ Ct l yX9_whyNotStrike cX9_whyNotStrike 2 (some .int) 7 110 [va_rf v0, .int v1] σ (oI o) σ (xc o) (xs o) := by
  unfold fX9_whyNotStrike at h
  replace h := bnP_s h
  obtain ⟨u, hk, h⟩ := h
  replace hk := isK_s hk
  refine ⟨hk, ?_⟩
  refine ct_start mi_X9_whyNotStrike.1 rfl (al_le (al_1 (rf_cat _) (al_1 rfl al_n)) (Nat.le_of_ble_eq_true rfl)) (ag_1 (rf_cat _) (ag_1 rfl ag_n)) (fun Δ Γ B hE hnm => ?_)
  refine g_aload_n B 0 dX9_whyNotStrike_0 rfl rfl ?_
  replace h := bnX_s h
  rcases h with ⟨e9, h2, e8⟩ | ⟨x1, h2, h⟩
  · subst e8
    exact g_callVx (st := []) B (cX9_requireBookc (o := .error e9) h2) (Nat.le_of_ble_eq_true rfl) rfl rfl mi_X9_requireBook lk_RX9_95 ⟨Nat.le_of_ble_eq_true rfl, Nat.le_of_ble_eq_true rfl⟩ rfl rfl (Nat.le_of_ble_eq_true rfl) dX9_whyNotStrike_1 (Nat.le_of_eq rfl) (Nat.le_of_eq rfl) hE
  · skip
    refine g_callVv0 (st := []) B (cX9_requireBookc (o := .ok x1) h2) (Nat.le_of_ble_eq_true rfl) rfl rfl mi_X9_requireBook lk_RX9_95 ⟨Nat.le_of_ble_eq_true rfl, Nat.le_of_ble_eq_true rfl⟩ rfl rfl (Nat.le_of_ble_eq_true rfl) dX9_whyNotStrike_1 (Nat.zero_le _) (Nat.zero_le _) ?_
    refine g_aload_n B 0 dX9_whyNotStrike_4 rfl rfl ?_
    replace h := bnP_s h
    obtain ⟨x3, h4, h⟩ := h
    refine g_getR B fl_RX9_20 (by decide) dX9_whyNotStrike_5 h4 ?_
    refine g_iload_n B 1 dX9_whyNotStrike_8 rfl rfl ?_
    replace h := bnP_s h
    obtain ⟨x5, h6, h⟩ := h
    refine g_callVs0 (st := []) B (cX1_strikeReasonc h6) (Nat.le_of_ble_eq_true rfl) rfl rfl mi_X1_strikeReason lk_RX9_316 ⟨Nat.le_of_ble_eq_true rfl, Nat.le_of_ble_eq_true rfl⟩ rfl rfl (Nat.le_of_ble_eq_true rfl) dX9_whyNotStrike_9 (Nat.zero_le _) (Nat.zero_le _) ?_
    replace h := Option.some.inj h
    subst h
    exact g_iret B hE (Nat.zero_le _) (Nat.zero_le _) dX9_whyNotStrike_12
set_option maxRecDepth 100000 in
set_option maxHeartbeats 4000000 in
theorem cX9_unknownIfc {l : Launch} {v0 : Option Nat} {v1 : Int32} {σ : HpT} {o : Except Nat (Int32)} (h : fX9_unknownIf v0 v1 σ = some o) : IsK σ v0 9 ∧ Ct l yX9_unknownIf cX9_unknownIf 2 (some .int) 7 111 [va_rf v0, .int v1] σ (oI o) σ (xc o) (xs o) := by
  unfold fX9_unknownIf at h
  replace h := bnP_s h
  obtain ⟨u, hk, h⟩ := h
  replace hk := isK_s hk
  refine ⟨hk, ?_⟩
  refine ct_start mi_X9_unknownIf.1 rfl (al_le (al_1 (rf_cat _) (al_1 rfl al_n)) (Nat.le_of_ble_eq_true rfl)) (ag_1 (rf_cat _) (ag_1 rfl ag_n)) (fun Δ Γ B hE hnm => ?_)
  refine g_aload_n B 0 dX9_unknownIf_0 rfl rfl ?_
  replace h := bnX_s h
  rcases h with ⟨e9, h2, e8⟩ | ⟨x1, h2, h⟩
  · subst e8
    exact g_callVx (st := []) B (cX9_requireBookc (o := .error e9) h2) (Nat.le_of_ble_eq_true rfl) rfl rfl mi_X9_requireBook lk_RX9_95 ⟨Nat.le_of_ble_eq_true rfl, Nat.le_of_ble_eq_true rfl⟩ rfl rfl (Nat.le_of_ble_eq_true rfl) dX9_unknownIf_1 (Nat.le_of_eq rfl) (Nat.le_of_eq rfl) hE
  · skip
    refine g_callVv0 (st := []) B (cX9_requireBookc (o := .ok x1) h2) (Nat.le_of_ble_eq_true rfl) rfl rfl mi_X9_requireBook lk_RX9_95 ⟨Nat.le_of_ble_eq_true rfl, Nat.le_of_ble_eq_true rfl⟩ rfl rfl (Nat.le_of_ble_eq_true rfl) dX9_unknownIf_1 (Nat.zero_le _) (Nat.zero_le _) ?_
    refine g_aload_n B 0 dX9_unknownIf_4 rfl rfl ?_
    refine g_iload_n B 1 dX9_unknownIf_5 rfl rfl ?_
    replace h := bnX_s h
    rcases h with ⟨e9, h4, e8⟩ | ⟨x3, h4, h⟩
    · subst e8
      exact g_callVx (st := []) B (cX9_requireLeafc (o := .error e9) h4) (Nat.le_of_ble_eq_true rfl) rfl rfl mi_X9_requireLeaf lk_RX9_254 ⟨Nat.le_of_ble_eq_true rfl, Nat.le_of_ble_eq_true rfl⟩ rfl rfl (Nat.le_of_ble_eq_true rfl) dX9_unknownIf_6 (Nat.le_of_eq rfl) (Nat.le_of_eq rfl) hE
    · skip
      refine g_callVv0 (st := []) B (cX9_requireLeafc (o := .ok x3) h4) (Nat.le_of_ble_eq_true rfl) rfl rfl mi_X9_requireLeaf lk_RX9_254 ⟨Nat.le_of_ble_eq_true rfl, Nat.le_of_ble_eq_true rfl⟩ rfl rfl (Nat.le_of_ble_eq_true rfl) dX9_unknownIf_6 (Nat.zero_le _) (Nat.zero_le _) ?_
      refine g_aload_n B 0 dX9_unknownIf_9 rfl rfl ?_
      replace h := bnP_s h
      obtain ⟨x5, h6, h⟩ := h
      refine g_getR B fl_RX9_20 (by decide) dX9_unknownIf_10 h6 ?_
      refine g_iload_n B 1 dX9_unknownIf_13 rfl rfl ?_
      replace h := bnP_s h
      obtain ⟨x7, h8, h⟩ := h
      refine g_callVs0 (st := []) B (cX1_wouldBeUnknownc h8) (Nat.le_of_ble_eq_true rfl) rfl rfl mi_X1_wouldBeUnknown lk_RX9_319 ⟨Nat.le_of_ble_eq_true rfl, Nat.le_of_ble_eq_true rfl⟩ rfl rfl (Nat.le_of_ble_eq_true rfl) dX9_unknownIf_14 (Nat.zero_le _) (Nat.zero_le _) ?_
      replace h := Option.some.inj h
      subst h
      exact g_iret B hE (Nat.zero_le _) (Nat.zero_le _) dX9_unknownIf_17
set_option maxRecDepth 100000 in
set_option maxHeartbeats 4000000 in
theorem cX9_worstLeafc {l : Launch} {v0 : Option Nat} {σ : HpT} {o : Except Nat (Int32)} (h : fX9_worstLeaf v0 σ = some o) : IsK σ v0 9 ∧ Ct l yX9_worstLeaf cX9_worstLeaf 5 (some .int) 7 110 [va_rf v0] σ (oI o) σ (xc o) (xs o) := by
  unfold fX9_worstLeaf at h
  replace h := bnP_s h
  obtain ⟨u, hk, h⟩ := h
  replace hk := isK_s hk
  refine ⟨hk, ?_⟩
  refine ct_start mi_X9_worstLeaf.1 rfl (al_le (al_1 (rf_cat _) al_n) (Nat.le_of_ble_eq_true rfl)) (ag_1 (rf_cat _) ag_n) (fun Δ Γ B hE hnm => ?_)
  refine g_aload_n B 0 dX9_worstLeaf_0 rfl rfl ?_
  replace h := bnX_s h
  rcases h with ⟨e9, h2, e8⟩ | ⟨x1, h2, h⟩
  · subst e8
    exact g_callVx (st := []) B (cX9_requireBookc (o := .error e9) h2) (Nat.le_of_ble_eq_true rfl) rfl rfl mi_X9_requireBook lk_RX9_95 ⟨Nat.le_of_ble_eq_true rfl, Nat.le_of_ble_eq_true rfl⟩ rfl rfl (Nat.le_of_ble_eq_true rfl) dX9_worstLeaf_1 (Nat.le_of_eq rfl) (Nat.le_of_eq rfl) hE
  · skip
    refine g_callVv0 (st := []) B (cX9_requireBookc (o := .ok x1) h2) (Nat.le_of_ble_eq_true rfl) rfl rfl mi_X9_requireBook lk_RX9_95 ⟨Nat.le_of_ble_eq_true rfl, Nat.le_of_ble_eq_true rfl⟩ rfl rfl (Nat.le_of_ble_eq_true rfl) dX9_worstLeaf_1 (Nat.zero_le _) (Nat.zero_le _) ?_
    refine g_iconst (v := (-1)) B dX9_worstLeaf_4 (by decide) ?_
    refine g_istore_n B dX9_worstLeaf_5 rfl (Nat.le_of_ble_eq_true rfl) (s1_c (f1_1 rfl (rf_cat _) f1_n)) ?_
    refine g_iconst (v := (-1)) B dX9_worstLeaf_6 (by decide) ?_
    refine g_istore_n B dX9_worstLeaf_7 rfl (Nat.le_of_ble_eq_true rfl) (s1_c (f1_1 rfl rfl (f1_k rfl f1_n))) ?_
    refine g_iconst (v := 0) B dX9_worstLeaf_8 (by decide) ?_
    refine g_istore_n B dX9_worstLeaf_9 rfl (Nat.le_of_ble_eq_true rfl) (s1_c (f1_1 rfl rfl (f1_k rfl (f1_k rfl f1_n)))) ?_
    replace h := bnP_s h
    obtain ⟨r4, h5, h⟩ := h
    have kE6 : GW Δ Γ (0) (0) 51 [(1, .int r4)] [] σ := by
      refine g_iload_n B 0 dX9_worstLeaf_51 rfl rfl ?_
      replace h := Option.some.inj h
      subst h
      exact g_iret B hE (Nat.zero_le _) (Nat.zero_le _) dX9_worstLeaf_52
    clear h
    refine g_sub [3, 2, 1, 0] rfl ?_
    refine lpP_w (I := fun q3 => GW Δ Γ (0) (0) 10 [(0, va_rf v0), (1, .int q3.1), (2, .int q3.2.1), (3, .int q3.2.2)] [] σ) (r := r4) ?_ FUEL ((-1), (-1), 0) h5
    intro q3 x10 h hI8 hR9
    unfold fX9_worstLeaf_l1 at h
    obtain ⟨qv12, qv13, qv14⟩ := q3
    show GW Δ Γ (0) (0) 10 [(0, va_rf v0), (1, .int qv12), (2, .int qv13), (3, .int qv14)] [] σ
    dsimp only at h
    refine g_iload_n B 3 dX9_worstLeaf_10 rfl rfl ?_
    refine g_aload_n B 0 dX9_worstLeaf_11 rfl rfl ?_
    replace h := bnP_s h
    obtain ⟨x15, h16, h⟩ := h
    refine g_getR B fl_RX9_20 (by decide) dX9_worstLeaf_12 h16 ?_
    replace h := bnP_s h
    obtain ⟨x17, h18, h⟩ := h
    refine g_getRg B fl_RX9_108 (by decide) dX9_worstLeaf_15 h18 ?_
    replace h := bnP_s h
    obtain ⟨x19, h20, h⟩ := h
    refine g_getI B fl_RX9_123 (by decide) dX9_worstLeaf_18 h20 ?_
    refine g_icmp_ge B 51 dX9_worstLeaf_21 (by decide) (fun hc => ?_) (fun hc => ?_)
    · replace h := ifp hc h
      replace h := Option.some.inj h
      subst h
      have e8 := hR9 _ rfl
      subst e8
      exact g_sub [1] rfl kE6
    · replace h := ifn hc h
      refine g_aload_n B 0 dX9_worstLeaf_24 rfl rfl ?_
      replace h := bnP_s h
      obtain ⟨x21, h22, h⟩ := h
      refine g_getR B fl_RX9_20 (by decide) dX9_worstLeaf_25 h22 ?_
      refine g_iload_n B 3 dX9_worstLeaf_28 rfl rfl ?_
      replace h := bnP_s h
      obtain ⟨x23, h24, h⟩ := h
      refine g_callVs0 (st := []) B (cX1_wouldBeUnknownc h24) (Nat.le_of_ble_eq_true rfl) rfl rfl mi_X1_wouldBeUnknown lk_RX9_319 ⟨Nat.le_of_ble_eq_true rfl, Nat.le_of_ble_eq_true rfl⟩ rfl rfl (Nat.le_of_ble_eq_true rfl) dX9_worstLeaf_29 (Nat.zero_le _) (Nat.zero_le _) ?_
      refine g_istore B dX9_worstLeaf_32 (Nat.le_of_ble_eq_true rfl) (s1_c (f1_k rfl (f1_k rfl (f1_k rfl (f1_1 rfl rfl f1_n))))) ?_
      refine g_iload B 0 dX9_worstLeaf_34 rfl ?_
      refine g_iload_n B 3 dX9_worstLeaf_36 rfl rfl ?_
      refine g_icmp_le B 45 dX9_worstLeaf_37 (by decide) (fun hc => ?_) (fun hc => ?_)
      · replace h := ifp hc h
        refine g_iinc (v := (qv14 + 1)) B 4 dX9_worstLeaf_45 rfl (by first | rfl | (congr 1; decide)) (Nat.le_of_ble_eq_true rfl) (s1_c (f1_k rfl (f1_k rfl (f1_k rfl (f1_1 rfl rfl (f1_x f1_n)))))) ?_
        refine g_goto B 10 dX9_worstLeaf_48 (by decide) ?_
        replace h := Option.some.inj h
        subst h
        exact g_sub [2, 3, 4, 0] rfl (hI8 (qv12, qv13, (qv14 + 1)) rfl)
      · replace h := ifn hc h
        refine g_iload B 0 dX9_worstLeaf_40 rfl ?_
        refine g_istore_n B dX9_worstLeaf_42 rfl (Nat.le_of_ble_eq_true rfl) (s1_c (f1_k rfl (f1_k rfl (f1_1 rfl rfl (f1_x (f1_k rfl f1_n)))))) ?_
        refine g_iload_n B 4 dX9_worstLeaf_43 rfl rfl ?_
        refine g_istore_n B dX9_worstLeaf_44 rfl (Nat.le_of_ble_eq_true rfl) (s1_c (f1_k rfl (f1_k rfl (f1_1 rfl (rf_cat _) (f1_x (f1_k rfl f1_n)))))) ?_
        refine g_iinc (v := (qv14 + 1)) B 4 dX9_worstLeaf_45 rfl (by first | rfl | (congr 1; decide)) (Nat.le_of_ble_eq_true rfl) (s1_c (f1_k rfl (f1_1 rfl rfl (f1_k rfl (f1_k rfl (f1_x f1_n)))))) ?_
        refine g_goto B 10 dX9_worstLeaf_48 (by decide) ?_
        replace h := Option.some.inj h
        subst h
        exact g_sub [4, 1, 2, 0] rfl (hI8 (qv14, x23, (qv14 + 1)) rfl)
set_option maxRecDepth 100000 in
set_option maxHeartbeats 4000000 in
theorem cX9_shakenOutc {l : Launch} {v0 : Option Nat} {σ : HpT} {o : Except Nat (Int32)} {σ' : HpT} {a b : Nat} (h : fX9_shakenOut v0 σ = some (o, σ', a, b)) : IsK σ v0 9 ∧ Ct l yX9_shakenOut cX9_shakenOut 2 (some .int) 7 110 [va_rf v0] σ (oI o) σ' a b := by
  unfold fX9_shakenOut at h
  replace h := bnP_s h
  obtain ⟨u, hk, h⟩ := h
  replace hk := isK_s hk
  refine ⟨hk, ?_⟩
  refine ct_start mi_X9_shakenOut.1 rfl (al_le (al_1 (rf_cat _) al_n) (Nat.le_of_ble_eq_true rfl)) (ag_1 (rf_cat _) ag_n) (fun Δ Γ B hE hnm => ?_)
  have hka : 0 + a = a := Nat.zero_add a
  have hkb : 0 + b = b := Nat.zero_add b
  have hla : a ≤ a := Nat.le_refl a
  have hlb : b ≤ b := Nat.le_refl b
  refine g_aload_n B 0 dX9_shakenOut_0 rfl rfl ?_
  replace h := bnXA_s h
  rcases h with ⟨e9, h2, e8, e7, e6, e5⟩ | ⟨x1, h2, h⟩
  · subst e8; subst e7; subst e6; subst e5
    exact g_callVx (st := []) B (cX9_requireBookc (o := .error e9) h2) (Nat.le_of_ble_eq_true rfl) rfl rfl mi_X9_requireBook lk_RX9_95 ⟨Nat.le_of_ble_eq_true rfl, Nat.le_of_ble_eq_true rfl⟩ rfl rfl (Nat.le_of_ble_eq_true rfl) dX9_shakenOut_1 (Nat.le_trans (Nat.le_of_eq hka) hla) (Nat.le_trans (Nat.le_of_eq hkb) hlb) hE
  · skip
    refine g_callVv0 (st := []) B (cX9_requireBookc (o := .ok x1) h2) (Nat.le_of_ble_eq_true rfl) rfl rfl mi_X9_requireBook lk_RX9_95 ⟨Nat.le_of_ble_eq_true rfl, Nat.le_of_ble_eq_true rfl⟩ rfl rfl (Nat.le_of_ble_eq_true rfl) dX9_shakenOut_1 (Nat.le_trans (bm hka) hla) (Nat.le_trans (bm hkb) hlb) ?_
    refine g_aload_n B 0 dX9_shakenOut_4 rfl rfl ?_
    replace h := bnP_s h
    obtain ⟨x3, h4, h⟩ := h
    refine g_getR B fl_RX9_48 (by decide) dX9_shakenOut_5 h4 ?_
    refine g_aload_n B 0 dX9_shakenOut_8 rfl rfl ?_
    replace h := bnP_s h
    obtain ⟨x5, h6, h⟩ := h
    refine g_getR B fl_RX9_20 (by decide) dX9_shakenOut_9 h6 ?_
    replace h := bnP_s h
    obtain ⟨x7, h8, h⟩ := h
    refine g_getRg B fl_RX9_108 (by decide) dX9_shakenOut_12 h8 ?_
    replace h := bnP_s h
    obtain ⟨s11, h10, h⟩ := h
    refine g_callVv0 (st := []) B (cX4_takec h10) (Nat.le_of_ble_eq_true rfl) rfl rfl mi_X4_take lk_RX9_322 ⟨Nat.le_of_ble_eq_true rfl, Nat.le_of_ble_eq_true rfl⟩ rfl rfl (Nat.le_of_ble_eq_true rfl) dX9_shakenOut_15 (Nat.le_trans (bm hka) hla) (Nat.le_trans (bm hkb) hlb) ?_
    refine g_iconst (v := 0) B dX9_shakenOut_18 (by decide) ?_
    refine g_istore_n B dX9_shakenOut_19 rfl (Nat.le_of_ble_eq_true rfl) (s1_c (f1_1 rfl (rf_cat _) f1_n)) ?_
    replace h := bnS_s h
    obtain ⟨r13, s27, h14, h⟩ := h
    have kE15 : GW Δ Γ (0) (0) 42 [(1, .int r13)] [] s27 := by
      refine g_iload_n B 0 dX9_shakenOut_42 rfl rfl ?_
      obtain ⟨w1, w2, w3, w4⟩ := inA h
      clear h
      subst w1
      subst w2
      subst w3
      subst w4
      exact g_iret B hE (Nat.le_trans (Nat.le_of_eq hka) hla) (Nat.le_trans (Nat.le_of_eq hkb) hlb) dX9_shakenOut_43
    clear h
    refine g_sub [1, 0] rfl ?_
    refine lpS_w (I := fun q12 s21 => GW Δ Γ (0) (0) 20 [(0, va_rf v0), (1, .int q12)] [] s21) (r := r13) (σr := s27) ?_ FUEL 0 s11 h14
    intro q12 s21 x19 s9 h hI17 hR18
    unfold fX9_shakenOut_l1 at h
    refine g_iload_n B 1 dX9_shakenOut_20 rfl rfl ?_
    refine g_bipush (v := 12) B dX9_shakenOut_21 (by decide) ?_
    refine g_icmp_ge B 42 dX9_shakenOut_23 (by decide) (fun hc => ?_) (fun hc => ?_)
    · replace h := ifp hc h
      obtain ⟨w1, w2⟩ := inS h
      clear h
      subst w1
      subst w2
      obtain ⟨e8, e7⟩ := hR18 _ rfl
      subst e8
      subst e7
      exact g_sub [1] rfl kE15
    · replace h := ifn hc h
      refine g_aload_n B 0 dX9_shakenOut_26 rfl rfl ?_
      replace h := bnP_s h
      obtain ⟨x22, h23, h⟩ := h
      refine g_getR B fl_RX9_48 (by decide) dX9_shakenOut_27 h23 ?_
      replace h := bnS_s h
      obtain ⟨x24, s26, h25, h⟩ := h
      refine g_callVs0 (st := []) B (cX4_dropLoosec h25) (Nat.le_of_ble_eq_true rfl) rfl rfl mi_X4_dropLoose lk_RX9_326 ⟨Nat.le_of_ble_eq_true rfl, Nat.le_of_ble_eq_true rfl⟩ rfl rfl (Nat.le_of_ble_eq_true rfl) dX9_shakenOut_30 (Nat.le_trans (bm hka) hla) (Nat.le_trans (bm hkb) hlb) ?_
      refine g_if_le B 42 dX9_shakenOut_33 (by decide) (fun hc => ?_) (fun hc => ?_)
      · replace h := ifp hc h
        obtain ⟨w1, w2⟩ := inS h
        clear h
        subst w1
        subst w2
        obtain ⟨e8, e7⟩ := hR18 _ rfl
        subst e8
        subst e7
        exact g_sub [1] rfl kE15
      · replace h := ifn hc h
        refine g_iinc (v := (q12 + 1)) B 1 dX9_shakenOut_36 rfl (by first | rfl | (congr 1; decide)) (Nat.le_of_ble_eq_true rfl) (s1_c (f1_1 rfl (rf_cat _) (f1_x f1_n))) ?_
        refine g_goto B 20 dX9_shakenOut_39 (by decide) ?_
        obtain ⟨w1, w2⟩ := inS h
        clear h
        subst w1
        subst w2
        exact g_sub [1, 0] rfl (hI17 _ rfl)
set_option maxRecDepth 100000 in
set_option maxHeartbeats 4000000 in
theorem cX9_leavesForc {l : Launch} {v0 : Option Nat} {v1 : Int32} {σ : HpT} {o : Except Nat (Int32)} (h : fX9_leavesFor v0 v1 σ = some o) : IsK σ v0 9 ∧ Ct l yX9_leavesFor cX9_leavesFor 3 (some .int) 7 111 [va_rf v0, .int v1] σ (oI o) σ (xc o) (xs o) := by
  unfold fX9_leavesFor at h
  replace h := bnP_s h
  obtain ⟨u, hk, h⟩ := h
  replace hk := isK_s hk
  refine ⟨hk, ?_⟩
  refine ct_start mi_X9_leavesFor.1 rfl (al_le (al_1 (rf_cat _) (al_1 rfl al_n)) (Nat.le_of_ble_eq_true rfl)) (ag_1 (rf_cat _) (ag_1 rfl ag_n)) (fun Δ Γ B hE hnm => ?_)
  refine g_aload_n B 0 dX9_leavesFor_0 rfl rfl ?_
  replace h := bnX_s h
  rcases h with ⟨e9, h2, e8⟩ | ⟨x1, h2, h⟩
  · subst e8
    exact g_callVx (st := []) B (cX9_requireBookc (o := .error e9) h2) (Nat.le_of_ble_eq_true rfl) rfl rfl mi_X9_requireBook lk_RX9_95 ⟨Nat.le_of_ble_eq_true rfl, Nat.le_of_ble_eq_true rfl⟩ rfl rfl (Nat.le_of_ble_eq_true rfl) dX9_leavesFor_1 (Nat.le_of_eq rfl) (Nat.le_of_eq rfl) hE
  · skip
    refine g_callVv0 (st := []) B (cX9_requireBookc (o := .ok x1) h2) (Nat.le_of_ble_eq_true rfl) rfl rfl mi_X9_requireBook lk_RX9_95 ⟨Nat.le_of_ble_eq_true rfl, Nat.le_of_ble_eq_true rfl⟩ rfl rfl (Nat.le_of_ble_eq_true rfl) dX9_leavesFor_1 (Nat.zero_le _) (Nat.zero_le _) ?_
    refine g_iload_n B 1 dX9_leavesFor_4 rfl rfl ?_
    refine g_sipush (v := 240) B dX9_leavesFor_5 (by decide) ?_
    replace h := bnX_s h
    rcases h with ⟨e9, h4, e8⟩ | ⟨x3, h4, h⟩
    · subst e8
      exact g_callSx (st := []) B (cX9_requireUpToc (o := .error e9) h4) mi_X9_requireUpTo lk_RX9_98 ⟨Nat.le_of_ble_eq_true rfl, Nat.le_of_ble_eq_true rfl⟩ rfl rfl (Nat.le_of_ble_eq_true rfl) dX9_leavesFor_8 (Nat.le_of_eq rfl) (Nat.le_of_eq rfl) hE
    · skip
      refine g_callSv0 (st := []) B (cX9_requireUpToc (o := .ok x3) h4) mi_X9_requireUpTo lk_RX9_98 ⟨Nat.le_of_ble_eq_true rfl, Nat.le_of_ble_eq_true rfl⟩ rfl rfl (Nat.le_of_ble_eq_true rfl) dX9_leavesFor_8 (Nat.zero_le _) (Nat.zero_le _) ?_
      refine g_aload_n B 0 dX9_leavesFor_11 rfl rfl ?_
      replace h := bnP_s h
      obtain ⟨x5, h6, h⟩ := h
      refine g_getR B fl_RX9_20 (by decide) dX9_leavesFor_12 h6 ?_
      refine g_aload_n B 0 dX9_leavesFor_15 rfl rfl ?_
      replace h := bnP_s h
      obtain ⟨x7, h8, h⟩ := h
      refine g_getR B fl_RX9_20 (by decide) dX9_leavesFor_16 h8 ?_
      replace h := bnP_s h
      obtain ⟨x9, h10, h⟩ := h
      refine g_getRg B fl_RX9_114 (by decide) dX9_leavesFor_19 h10 ?_
      replace h := bnP_s h
      obtain ⟨x11, h12, h⟩ := h
      refine g_getI B fl_RX9_118 (by decide) dX9_leavesFor_22 h12 ?_
      refine g_iload_n B 1 dX9_leavesFor_25 rfl rfl ?_
      refine g_iadd B dX9_leavesFor_26 ?_
      replace h := bnP_s h
      obtain ⟨x13, h14, h⟩ := h
      refine g_callVs0 (st := []) B (cX1_leavesOfc h14) (Nat.le_of_ble_eq_true rfl) rfl rfl mi_X1_leavesOf lk_RX9_329 ⟨Nat.le_of_ble_eq_true rfl, Nat.le_of_ble_eq_true rfl⟩ rfl rfl (Nat.le_of_ble_eq_true rfl) dX9_leavesFor_27 (Nat.zero_le _) (Nat.zero_le _) ?_
      refine g_istore_n B dX9_leavesFor_30 rfl (Nat.le_of_ble_eq_true rfl) (s1_c (f1_k rfl (f1_1 rfl rfl f1_n))) ?_
      refine g_iload_n B 0 dX9_leavesFor_31 rfl rfl ?_
      refine g_bipush (v := 12) B dX9_leavesFor_32 (by decide) ?_
      refine g_icmp_le B 41 dX9_leavesFor_34 (by decide) (fun hc => ?_) (fun hc => ?_)
      · replace h := ifp hc h
        refine g_iload_n B 0 dX9_leavesFor_41 rfl rfl ?_
        refine g_aload_n B 1 dX9_leavesFor_42 rfl rfl ?_
        replace h := bnP_s h
        obtain ⟨x15, h16, h⟩ := h
        refine g_getR B fl_RX9_20 (by decide) dX9_leavesFor_43 h16 ?_
        replace h := bnP_s h
        obtain ⟨x17, h18, h⟩ := h
        refine g_getRg B fl_RX9_108 (by decide) dX9_leavesFor_46 h18 ?_
        replace h := bnP_s h
        obtain ⟨x19, h20, h⟩ := h
        refine g_getI B fl_RX9_123 (by decide) dX9_leavesFor_49 h20 ?_
        refine g_isub B dX9_leavesFor_52 ?_
        replace h := Option.some.inj h
        subst h
        exact g_iret B hE (Nat.zero_le _) (Nat.zero_le _) dX9_leavesFor_53
      · replace h := ifn hc h
        refine g_iconst (v := (-1)) B dX9_leavesFor_37 (by decide) ?_
        refine g_goto B 53 dX9_leavesFor_38 (by decide) ?_
        replace h := Option.some.inj h
        subst h
        exact g_iret B hE (Nat.zero_le _) (Nat.zero_le _) dX9_leavesFor_53
set_option maxRecDepth 100000 in
set_option maxHeartbeats 4000000 in
theorem cX9_copyWordsc {l : Launch} {v0 : Option Nat} {v1 : Int32} {v2 : Int32} {σ : HpT} {o : Except Nat (Int32)} {σ' : HpT} {a b : Nat} (h : fX9_copyWords v0 v1 v2 σ = some (o, σ', a, b)) : IsK σ v0 9 ∧ Ct l yX9_copyWords cX9_copyWords 4 (some .int) 7 111 [va_rf v0, .int v1, .int v2] σ (oI o) σ' a b := by
  unfold fX9_copyWords at h
  replace h := bnP_s h
  obtain ⟨u, hk, h⟩ := h
  replace hk := isK_s hk
  refine ⟨hk, ?_⟩
  refine ct_start mi_X9_copyWords.1 rfl (al_le (al_1 (rf_cat _) (al_1 rfl (al_1 rfl al_n))) (Nat.le_of_ble_eq_true rfl)) (ag_1 (rf_cat _) (ag_1 rfl (ag_1 rfl ag_n))) (fun Δ Γ B hE hnm => ?_)
  have hka : 0 + a = a := Nat.zero_add a
  have hkb : 0 + b = b := Nat.zero_add b
  have hla : a ≤ a := Nat.le_refl a
  have hlb : b ≤ b := Nat.le_refl b
  refine g_aload_n B 0 dX9_copyWords_0 rfl rfl ?_
  replace h := bnXA_s h
  rcases h with ⟨e9, h2, e8, e7, e6, e5⟩ | ⟨x1, h2, h⟩
  · subst e8; subst e7; subst e6; subst e5
    exact g_callVx (st := []) B (cX9_requireBookc (o := .error e9) h2) (Nat.le_of_ble_eq_true rfl) rfl rfl mi_X9_requireBook lk_RX9_95 ⟨Nat.le_of_ble_eq_true rfl, Nat.le_of_ble_eq_true rfl⟩ rfl rfl (Nat.le_of_ble_eq_true rfl) dX9_copyWords_1 (Nat.le_trans (Nat.le_of_eq hka) hla) (Nat.le_trans (Nat.le_of_eq hkb) hlb) hE
  · skip
    refine g_callVv0 (st := []) B (cX9_requireBookc (o := .ok x1) h2) (Nat.le_of_ble_eq_true rfl) rfl rfl mi_X9_requireBook lk_RX9_95 ⟨Nat.le_of_ble_eq_true rfl, Nat.le_of_ble_eq_true rfl⟩ rfl rfl (Nat.le_of_ble_eq_true rfl) dX9_copyWords_1 (Nat.le_trans (bm hka) hla) (Nat.le_trans (bm hkb) hlb) ?_
    refine g_aload_n B 0 dX9_copyWords_4 rfl rfl ?_
    refine g_iload_n B 1 dX9_copyWords_5 rfl rfl ?_
    replace h := bnXA_s h
    rcases h with ⟨e9, h4, e8, e7, e6, e5⟩ | ⟨x3, h4, h⟩
    · subst e8; subst e7; subst e6; subst e5
      exact g_callVx (st := []) B (cX9_requireActc (o := .error e9) h4) (Nat.le_of_ble_eq_true rfl) rfl rfl mi_X9_requireAct lk_RX9_153 ⟨Nat.le_of_ble_eq_true rfl, Nat.le_of_ble_eq_true rfl⟩ rfl rfl (Nat.le_of_ble_eq_true rfl) dX9_copyWords_6 (Nat.le_trans (Nat.le_of_eq hka) hla) (Nat.le_trans (Nat.le_of_eq hkb) hlb) hE
    · skip
      refine g_callVs0 (st := []) B (cX9_requireActc (o := .ok x3) h4) (Nat.le_of_ble_eq_true rfl) rfl rfl mi_X9_requireAct lk_RX9_153 ⟨Nat.le_of_ble_eq_true rfl, Nat.le_of_ble_eq_true rfl⟩ rfl rfl (Nat.le_of_ble_eq_true rfl) dX9_copyWords_6 (Nat.le_trans (bm hka) hla) (Nat.le_trans (bm hkb) hlb) ?_
      refine g_astore_n B dX9_copyWords_9 rfl (Nat.le_of_ble_eq_true rfl) (s1_c (f1_k rfl (f1_k rfl (f1_1 rfl rfl f1_n)))) ?_
      refine g_iload_n B 3 dX9_copyWords_10 rfl rfl ?_
      refine g_iconst (v := 2) B dX9_copyWords_11 (by decide) ?_
      replace h := bnXA_s h
      rcases h with ⟨e9, h6, e8, e7, e6, e5⟩ | ⟨x5, h6, h⟩
      · subst e8; subst e7; subst e6; subst e5
        exact g_callSx (st := []) B (cX9_requireUpToc (o := .error e9) h6) mi_X9_requireUpTo lk_RX9_98 ⟨Nat.le_of_ble_eq_true rfl, Nat.le_of_ble_eq_true rfl⟩ rfl rfl (Nat.le_of_ble_eq_true rfl) dX9_copyWords_12 (Nat.le_trans (Nat.le_of_eq hka) hla) (Nat.le_trans (Nat.le_of_eq hkb) hlb) hE
      · skip
        refine g_callSv0 (st := []) B (cX9_requireUpToc (o := .ok x5) h6) mi_X9_requireUpTo lk_RX9_98 ⟨Nat.le_of_ble_eq_true rfl, Nat.le_of_ble_eq_true rfl⟩ rfl rfl (Nat.le_of_ble_eq_true rfl) dX9_copyWords_12 (Nat.le_trans (bm hka) hla) (Nat.le_trans (bm hkb) hlb) ?_
        refine g_aload_n B 1 dX9_copyWords_15 rfl rfl ?_
        replace h := bnP_s h
        obtain ⟨x7, h8, h⟩ := h
        refine g_getR B fl_RX9_20 (by decide) dX9_copyWords_16 h8 ?_
        replace h := bnP_s h
        obtain ⟨x9, h10, h⟩ := h
        refine g_getRg B fl_RX9_332 (by decide) dX9_copyWords_19 h10 ?_
        refine g_aload_n B 1 dX9_copyWords_22 rfl rfl ?_
        replace h := bnP_s h
        obtain ⟨x11, h12, h⟩ := h
        refine g_getR B fl_RX9_20 (by decide) dX9_copyWords_23 h12 ?_
        replace h := bnP_s h
        obtain ⟨x13, h14, h⟩ := h
        refine g_getRg B fl_RX9_114 (by decide) dX9_copyWords_26 h14 ?_
        refine g_aload_n B 0 dX9_copyWords_29 rfl rfl ?_
        refine g_iload_n B 3 dX9_copyWords_30 rfl rfl ?_
        replace h := bnP_s h
        obtain ⟨s17, h16, h⟩ := h
        refine g_callVv0 (st := []) B (cX3_drawc h16) (Nat.le_of_ble_eq_true rfl) rfl rfl mi_X3_draw lk_RX9_336 ⟨Nat.le_of_ble_eq_true rfl, Nat.le_of_ble_eq_true rfl⟩ rfl rfl (Nat.le_of_ble_eq_true rfl) dX9_copyWords_31 (Nat.le_trans (bm hka) hla) (Nat.le_trans (bm hkb) hlb) ?_
        refine g_aload_n B 1 dX9_copyWords_34 rfl rfl ?_
        replace h := bnP_s h
        obtain ⟨x18, h19, h⟩ := h
        refine g_getR B fl_RX9_20 (by decide) dX9_copyWords_35 h19 ?_
        replace h := bnP_s h
        obtain ⟨x20, h21, h⟩ := h
        refine g_getRg B fl_RX9_332 (by decide) dX9_copyWords_38 h21 ?_
        replace h := bnP_s h
        obtain ⟨x22, h23, h⟩ := h
        refine g_getI B fl_RX9_287 (by decide) dX9_copyWords_41 h23 ?_
        obtain ⟨w1, w2, w3, w4⟩ := inA h
        clear h
        subst w1
        subst w2
        subst w3
        subst w4
        exact g_iret B hE (Nat.le_trans (Nat.le_of_eq hka) hla) (Nat.le_trans (Nat.le_of_eq hkb) hlb) dX9_copyWords_44
set_option maxRecDepth 100000 in
set_option maxHeartbeats 4000000 in
theorem cX9_bestCopyc {l : Launch} {v0 : Option Nat} {v1 : Int32} {σ : HpT} {o : Except Nat (Int32)} {σ' : HpT} {a b : Nat} (h : fX9_bestCopy v0 v1 σ = some (o, σ', a, b)) : IsK σ v0 9 ∧ Ct l yX9_bestCopy cX9_bestCopy 7 (some .int) 7 111 [va_rf v0, .int v1] σ (oI o) σ' a b := by
  unfold fX9_bestCopy at h
  replace h := bnP_s h
  obtain ⟨u, hk, h⟩ := h
  replace hk := isK_s hk
  refine ⟨hk, ?_⟩
  refine ct_start mi_X9_bestCopy.1 rfl (al_le (al_1 (rf_cat _) (al_1 rfl al_n)) (Nat.le_of_ble_eq_true rfl)) (ag_1 (rf_cat _) (ag_1 rfl ag_n)) (fun Δ Γ B hE hnm => ?_)
  have hka : 0 + a = a := Nat.zero_add a
  have hkb : 0 + b = b := Nat.zero_add b
  have hla : a ≤ a := Nat.le_refl a
  have hlb : b ≤ b := Nat.le_refl b
  refine g_aload_n B 0 dX9_bestCopy_0 rfl rfl ?_
  replace h := bnXA_s h
  rcases h with ⟨e9, h2, e8, e7, e6, e5⟩ | ⟨x1, h2, h⟩
  · subst e8; subst e7; subst e6; subst e5
    exact g_callVx (st := []) B (cX9_requireBookc (o := .error e9) h2) (Nat.le_of_ble_eq_true rfl) rfl rfl mi_X9_requireBook lk_RX9_95 ⟨Nat.le_of_ble_eq_true rfl, Nat.le_of_ble_eq_true rfl⟩ rfl rfl (Nat.le_of_ble_eq_true rfl) dX9_bestCopy_1 (Nat.le_trans (Nat.le_of_eq hka) hla) (Nat.le_trans (Nat.le_of_eq hkb) hlb) hE
  · skip
    refine g_callVv0 (st := []) B (cX9_requireBookc (o := .ok x1) h2) (Nat.le_of_ble_eq_true rfl) rfl rfl mi_X9_requireBook lk_RX9_95 ⟨Nat.le_of_ble_eq_true rfl, Nat.le_of_ble_eq_true rfl⟩ rfl rfl (Nat.le_of_ble_eq_true rfl) dX9_bestCopy_1 (Nat.le_trans (bm hka) hla) (Nat.le_trans (bm hkb) hlb) ?_
    refine g_aload_n B 0 dX9_bestCopy_4 rfl rfl ?_
    refine g_iload_n B 1 dX9_bestCopy_5 rfl rfl ?_
    replace h := bnXA_s h
    rcases h with ⟨e9, h4, e8, e7, e6, e5⟩ | ⟨x3, h4, h⟩
    · subst e8; subst e7; subst e6; subst e5
      exact g_callVx (st := []) B (cX9_requireActc (o := .error e9) h4) (Nat.le_of_ble_eq_true rfl) rfl rfl mi_X9_requireAct lk_RX9_153 ⟨Nat.le_of_ble_eq_true rfl, Nat.le_of_ble_eq_true rfl⟩ rfl rfl (Nat.le_of_ble_eq_true rfl) dX9_bestCopy_6 (Nat.le_trans (Nat.le_of_eq hka) hla) (Nat.le_trans (Nat.le_of_eq hkb) hlb) hE
    · skip
      refine g_callVs0 (st := []) B (cX9_requireActc (o := .ok x3) h4) (Nat.le_of_ble_eq_true rfl) rfl rfl mi_X9_requireAct lk_RX9_153 ⟨Nat.le_of_ble_eq_true rfl, Nat.le_of_ble_eq_true rfl⟩ rfl rfl (Nat.le_of_ble_eq_true rfl) dX9_bestCopy_6 (Nat.le_trans (bm hka) hla) (Nat.le_trans (bm hkb) hlb) ?_
      refine g_astore_n B dX9_bestCopy_9 rfl (Nat.le_of_ble_eq_true rfl) (s1_c (f1_k rfl (f1_1 rfl rfl f1_n))) ?_
      refine g_iconst (v := (-1)) B dX9_bestCopy_10 (by decide) ?_
      refine g_istore_n B dX9_bestCopy_11 rfl (Nat.le_of_ble_eq_true rfl) (s1_c (f1_1 rfl (rf_cat _) (f1_k rfl (f1_k rfl f1_n)))) ?_
      refine g_iconst (v := 0) B dX9_bestCopy_12 (by decide) ?_
      refine g_istore B dX9_bestCopy_13 (Nat.le_of_ble_eq_true rfl) (s1_c (f1_1 rfl rfl (f1_k rfl (f1_k rfl (f1_k rfl f1_n))))) ?_
      refine g_iconst (v := 0) B dX9_bestCopy_15 (by decide) ?_
      refine g_istore B dX9_bestCopy_16 (Nat.le_of_ble_eq_true rfl) (s1_c (f1_1 rfl rfl (f1_k rfl (f1_k rfl (f1_k rfl (f1_k rfl f1_n)))))) ?_
      replace h := bnS_s h
      obtain ⟨r6, s28, h7, h⟩ := h
      have kE8 : GW Δ Γ (0) (0) 69 [(3, .int r6)] [] s28 := by
        refine g_iload_n B 0 dX9_bestCopy_69 rfl rfl ?_
        obtain ⟨w1, w2, w3, w4⟩ := inA h
        clear h
        subst w1
        subst w2
        subst w3
        subst w4
        exact g_iret B hE (Nat.le_trans (Nat.le_of_eq hka) hla) (Nat.le_trans (Nat.le_of_eq hkb) hlb) dX9_bestCopy_70
      clear h
      refine g_sub [4, 5, 3, 2, 1, 0] rfl ?_
      refine lpS_w (I := fun q5 s14 => GW Δ Γ (0) (0) 18 [(0, va_rf v0), (1, .int v1), (2, va_rf x3), (3, .int q5.1), (4, .int q5.2.1), (5, .int q5.2.2)] [] s14) (r := r6) (σr := s28) ?_ FUEL ((-1), 0, 0) σ h7
      intro q5 s14 x12 s9 h hI10 hR11
      unfold fX9_bestCopy_l1 at h
      obtain ⟨qv15, qv16, qv17⟩ := q5
      show GW Δ Γ (0) (0) 18 [(0, va_rf v0), (1, .int v1), (2, va_rf x3), (3, .int qv15), (4, .int qv16), (5, .int qv17)] [] s14
      dsimp only at h
      refine g_iload B 5 dX9_bestCopy_18 rfl ?_
      refine g_iconst (v := 2) B dX9_bestCopy_20 (by decide) ?_
      refine g_icmp_gt B 69 dX9_bestCopy_21 (by decide) (fun hc => ?_) (fun hc => ?_)
      · replace h := ifp hc h
        obtain ⟨w1, w2⟩ := inS h
        clear h
        subst w1
        subst w2
        obtain ⟨e8, e7⟩ := hR11 _ rfl
        subst e8
        subst e7
        exact g_sub [3] rfl kE8
      · replace h := ifn hc h
        refine g_aload_n B 0 dX9_bestCopy_24 rfl rfl ?_
        replace h := bnP_s h
        obtain ⟨x18, h19, h⟩ := h
        refine g_getR B fl_RX9_20 (by decide) dX9_bestCopy_25 h19 ?_
        refine g_iload_n B 1 dX9_bestCopy_28 rfl rfl ?_
        refine g_iload B 5 dX9_bestCopy_29 rfl ?_
        replace h := bnS_s h
        obtain ⟨x20, s22, h21, h⟩ := h
        refine g_callVs0 (st := []) B (cX1_copyReasonc h21) (Nat.le_of_ble_eq_true rfl) rfl rfl mi_X1_copyReason lk_RX9_313 ⟨Nat.le_of_ble_eq_true rfl, Nat.le_of_ble_eq_true rfl⟩ rfl rfl (Nat.le_of_ble_eq_true rfl) dX9_bestCopy_31 (Nat.le_trans (bm hka) hla) (Nat.le_trans (bm hkb) hlb) ?_
        refine g_if_ne B 63 dX9_bestCopy_34 (by decide) (fun hc => ?_) (fun hc => ?_)
        · replace h := ifn hc h
          refine g_iinc (v := (qv17 + 1)) B 5 dX9_bestCopy_63 rfl (by first | rfl | (congr 1; decide)) (Nat.le_of_ble_eq_true rfl) (s1_c (f1_k rfl (f1_k rfl (f1_k rfl (f1_k rfl (f1_1 rfl rfl (f1_x f1_n))))))) ?_
          refine g_goto B 18 dX9_bestCopy_66 (by decide) ?_
          obtain ⟨w1, w2⟩ := inS h
          clear h
          subst w1
          subst w2
          exact g_sub [1, 2, 3, 4, 5, 0] rfl (hI10 (qv15, qv16, (qv17 + 1)) rfl)
        · replace h := ifp hc h
          refine g_aload_n B 0 dX9_bestCopy_37 rfl rfl ?_
          replace h := bnP_s h
          obtain ⟨x23, h24, h⟩ := h
          refine g_getR B fl_RX9_20 (by decide) dX9_bestCopy_38 h24 ?_
          refine g_aload_n B 2 dX9_bestCopy_41 rfl rfl ?_
          refine g_iload B 5 dX9_bestCopy_42 rfl ?_
          replace h := bnS_s h
          obtain ⟨x25, s27, h26, h⟩ := h
          refine g_callVs0 (st := []) B (cX1_copiedWithc h26) (Nat.le_of_ble_eq_true rfl) rfl rfl mi_X1_copiedWith lk_RX9_340 ⟨Nat.le_of_ble_eq_true rfl, Nat.le_of_ble_eq_true rfl⟩ rfl rfl (Nat.le_of_ble_eq_true rfl) dX9_bestCopy_44 (Nat.le_trans (bm hka) hla) (Nat.le_trans (bm hkb) hlb) ?_
          refine g_istore B dX9_bestCopy_47 (Nat.le_of_ble_eq_true rfl) (s1_c (f1_k rfl (f1_k rfl (f1_k rfl (f1_k rfl (f1_k rfl (f1_1 rfl rfl f1_n))))))) ?_
          refine g_iload B 0 dX9_bestCopy_49 rfl ?_
          refine g_iload B 5 dX9_bestCopy_51 rfl ?_
          refine g_icmp_lt B 63 dX9_bestCopy_53 (by decide) (fun hc => ?_) (fun hc => ?_)
          · replace h := ifp hc h
            refine g_iinc (v := (qv17 + 1)) B 6 dX9_bestCopy_63 rfl (by first | rfl | (congr 1; decide)) (Nat.le_of_ble_eq_true rfl) (s1_c (f1_k rfl (f1_k rfl (f1_k rfl (f1_k rfl (f1_k rfl (f1_1 rfl rfl (f1_x f1_n)))))))) ?_
            refine g_goto B 18 dX9_bestCopy_66 (by decide) ?_
            obtain ⟨w1, w2⟩ := inS h
            clear h
            subst w1
            subst w2
            exact g_sub [2, 3, 4, 5, 6, 0] rfl (hI10 (qv15, qv16, (qv17 + 1)) rfl)
          · replace h := ifn hc h
            refine g_iload B 0 dX9_bestCopy_56 rfl ?_
            refine g_istore B dX9_bestCopy_58 (Nat.le_of_ble_eq_true rfl) (s1_c (f1_k rfl (f1_k rfl (f1_k rfl (f1_k rfl (f1_1 rfl rfl (f1_x (f1_k rfl f1_n)))))))) ?_
            refine g_iload B 6 dX9_bestCopy_60 rfl ?_
            refine g_istore_n B dX9_bestCopy_62 rfl (Nat.le_of_ble_eq_true rfl) (s1_c (f1_k rfl (f1_k rfl (f1_k rfl (f1_k rfl (f1_1 rfl (rf_cat _) (f1_x (f1_k rfl f1_n)))))))) ?_
            refine g_iinc (v := (qv17 + 1)) B 6 dX9_bestCopy_63 rfl (by first | rfl | (congr 1; decide)) (Nat.le_of_ble_eq_true rfl) (s1_c (f1_k rfl (f1_1 rfl rfl (f1_k rfl (f1_k rfl (f1_k rfl (f1_k rfl (f1_x f1_n)))))))) ?_
            refine g_goto B 18 dX9_bestCopy_66 (by decide) ?_
            obtain ⟨w1, w2⟩ := inS h
            clear h
            subst w1
            subst w2
            exact g_sub [4, 5, 6, 1, 2, 0] rfl (hI10 (qv17, x25, (qv17 + 1)) rfl)
set_option maxRecDepth 100000 in
set_option maxHeartbeats 4000000 in
theorem cX9_standingIfc {l : Launch} {v0 : Option Nat} {v1 : Int32} {v2 : Int32} {σ : HpT} {o : Except Nat (Int32)} {σ' : HpT} {a b : Nat} (h : fX9_standingIf v0 v1 v2 σ = some (o, σ', a, b)) : IsK σ v0 9 ∧ Ct l yX9_standingIf cX9_standingIf 4 (some .int) 7 110 [va_rf v0, .int v1, .int v2] σ (oI o) σ' a b := by
  unfold fX9_standingIf at h
  replace h := bnP_s h
  obtain ⟨u, hk, h⟩ := h
  replace hk := isK_s hk
  refine ⟨hk, ?_⟩
  refine ct_start mi_X9_standingIf.1 rfl (al_le (al_1 (rf_cat _) (al_1 rfl (al_1 rfl al_n))) (Nat.le_of_ble_eq_true rfl)) (ag_1 (rf_cat _) (ag_1 rfl (ag_1 rfl ag_n))) (fun Δ Γ B hE hnm => ?_)
  have hka : 0 + a = a := Nat.zero_add a
  have hkb : 0 + b = b := Nat.zero_add b
  have hla : a ≤ a := Nat.le_refl a
  have hlb : b ≤ b := Nat.le_refl b
  refine g_aload_n B 0 dX9_standingIf_0 rfl rfl ?_
  replace h := bnXA_s h
  rcases h with ⟨e9, h2, e8, e7, e6, e5⟩ | ⟨x1, h2, h⟩
  · subst e8; subst e7; subst e6; subst e5
    exact g_callVx (st := []) B (cX9_requireBookc (o := .error e9) h2) (Nat.le_of_ble_eq_true rfl) rfl rfl mi_X9_requireBook lk_RX9_95 ⟨Nat.le_of_ble_eq_true rfl, Nat.le_of_ble_eq_true rfl⟩ rfl rfl (Nat.le_of_ble_eq_true rfl) dX9_standingIf_1 (Nat.le_trans (Nat.le_of_eq hka) hla) (Nat.le_trans (Nat.le_of_eq hkb) hlb) hE
  · skip
    refine g_callVv0 (st := []) B (cX9_requireBookc (o := .ok x1) h2) (Nat.le_of_ble_eq_true rfl) rfl rfl mi_X9_requireBook lk_RX9_95 ⟨Nat.le_of_ble_eq_true rfl, Nat.le_of_ble_eq_true rfl⟩ rfl rfl (Nat.le_of_ble_eq_true rfl) dX9_standingIf_1 (Nat.le_trans (bm hka) hla) (Nat.le_trans (bm hkb) hlb) ?_
    refine g_aload_n B 0 dX9_standingIf_4 rfl rfl ?_
    replace h := bnP_s h
    obtain ⟨x3, h4, h⟩ := h
    refine g_getR B fl_RX9_20 (by decide) dX9_standingIf_5 h4 ?_
    refine g_iload_n B 1 dX9_standingIf_8 rfl rfl ?_
    replace h := bnP_s h
    obtain ⟨x5, h6, h⟩ := h
    refine g_callVs0 (st := []) B (cX1_strikeReasonc h6) (Nat.le_of_ble_eq_true rfl) rfl rfl mi_X1_strikeReason lk_RX9_316 ⟨Nat.le_of_ble_eq_true rfl, Nat.le_of_ble_eq_true rfl⟩ rfl rfl (Nat.le_of_ble_eq_true rfl) dX9_standingIf_9 (Nat.le_trans (bm hka) hla) (Nat.le_trans (bm hkb) hlb) ?_
    refine g_istore_n B dX9_standingIf_12 rfl (Nat.le_of_ble_eq_true rfl) (s1_c (f1_k rfl (f1_k rfl (f1_1 rfl rfl f1_n)))) ?_
    refine g_iload_n B 0 dX9_standingIf_13 rfl rfl ?_
    refine g_iconst (v := 1) B dX9_standingIf_14 (by decide) ?_
    refine g_icmp_eq B 23 dX9_standingIf_15 (by decide) (fun hc => ?_) (fun hc => ?_)
    · replace h := ifp hc h
      obtain ⟨w1, w2, w3, w4⟩ := inA h
      clear h
      subst w1
      subst w2
      subst w3
      subst w4
      exact g_throwW B tw_RX9_78_82 (j := 24) rfl hE (by decide) (Nat.le_of_ble_eq_true rfl) dX9_standingIf_23 dX9_standingIf_26 dX9_standingIf_27 dX9_standingIf_30 dX9_standingIf_33 (Nat.le_trans (Nat.le_of_eq hka) hla) (Nat.le_trans (Nat.le_of_eq hkb) hlb)
    · replace h := ifn hc h
      refine g_iload_n B 0 dX9_standingIf_18 rfl rfl ?_
      refine g_iconst (v := 2) B dX9_standingIf_19 (by decide) ?_
      refine g_icmp_ne B 34 dX9_standingIf_20 (by decide) (fun hc => ?_) (fun hc => ?_)
      · replace h := ifn hc h
        refine g_iload_n B 3 dX9_standingIf_34 rfl rfl ?_
        refine g_if_ne B 63 dX9_standingIf_35 (by decide) (fun hc => ?_) (fun hc => ?_)
        · replace h := ifn hc h
          refine g_aload_n B 1 dX9_standingIf_63 rfl rfl ?_
          replace h := bnP_s h
          obtain ⟨x7, h8, h⟩ := h
          refine g_getR B fl_RX9_20 (by decide) dX9_standingIf_64 h8 ?_
          refine g_iload_n B 2 dX9_standingIf_67 rfl rfl ?_
          replace h := bnS_s h
          obtain ⟨x9, s11, h10, h⟩ := h
          refine g_callVs0 (st := []) B (cX1_seekClauseAroundc h10) (Nat.le_of_ble_eq_true rfl) rfl rfl mi_X1_seekClauseAround lk_RX9_348 ⟨Nat.le_of_ble_eq_true rfl, Nat.le_of_ble_eq_true rfl⟩ rfl rfl (Nat.le_of_ble_eq_true rfl) dX9_standingIf_68 (Nat.le_trans (bm hka) hla) (Nat.le_trans (bm hkb) hlb) ?_
          refine g_if_ne B 85 dX9_standingIf_71 (by decide) (fun hc => ?_) (fun hc => ?_)
          · replace h := ifp (bI1 hc) h
            refine g_aload_n B 1 dX9_standingIf_85 rfl rfl ?_
            replace h := bnP_s h
            obtain ⟨x12, h13, h⟩ := h
            refine g_getR B fl_RX9_20 (by decide) dX9_standingIf_86 h13 ?_
            replace h := bnP_s h
            obtain ⟨x14, h15, h⟩ := h
            refine g_callVs0 (st := []) B (cX1_openStandingc h15) (Nat.le_of_ble_eq_true rfl) rfl rfl mi_X1_openStanding lk_RX9_345 ⟨Nat.le_of_ble_eq_true rfl, Nat.le_of_ble_eq_true rfl⟩ rfl rfl (Nat.le_of_ble_eq_true rfl) dX9_standingIf_89 (Nat.le_trans (bm hka) hla) (Nat.le_trans (bm hkb) hlb) ?_
            refine g_aload_n B 1 dX9_standingIf_92 rfl rfl ?_
            replace h := bnP_s h
            obtain ⟨x16, h17, h⟩ := h
            refine g_getR B fl_RX9_20 (by decide) dX9_standingIf_93 h17 ?_
            replace h := bnP_s h
            obtain ⟨x18, h19, h⟩ := h
            refine g_getRg B fl_RX9_114 (by decide) dX9_standingIf_96 h19 ?_
            refine g_aload_n B 1 dX9_standingIf_99 rfl rfl ?_
            replace h := bnP_s h
            obtain ⟨x20, h21, h⟩ := h
            refine g_getR B fl_RX9_20 (by decide) dX9_standingIf_100 h21 ?_
            replace h := bnP_s h
            obtain ⟨x22, h23, h⟩ := h
            refine g_getRg B fl_RX9_228 (by decide) dX9_standingIf_103 h23 ?_
            replace h := bnP_s h
            obtain ⟨x24, h25, h⟩ := h
            refine g_getI B fl_RX9_243 (by decide) dX9_standingIf_106 h25 ?_
            refine g_aload_n B 1 dX9_standingIf_109 rfl rfl ?_
            replace h := bnP_s h
            obtain ⟨x26, h27, h⟩ := h
            refine g_getR B fl_RX9_20 (by decide) dX9_standingIf_110 h27 ?_
            replace h := bnP_s h
            obtain ⟨x28, h29, h⟩ := h
            refine g_getRg B fl_RX9_228 (by decide) dX9_standingIf_113 h29 ?_
            replace h := bnP_s h
            obtain ⟨x30, h31, h⟩ := h
            refine g_getI B fl_RX9_244 (by decide) dX9_standingIf_116 h31 ?_
            replace h := bnP_s h
            obtain ⟨x32, h33, h⟩ := h
            refine g_callVs0 (st := [.int x14]) B (cX8_unstruckFromc h33) (Nat.le_of_ble_eq_true rfl) rfl rfl mi_X8_unstruckFrom lk_RX9_245 ⟨Nat.le_of_ble_eq_true rfl, Nat.le_of_ble_eq_true rfl⟩ rfl rfl (Nat.le_of_ble_eq_true rfl) dX9_standingIf_119 (Nat.le_trans (bm hka) hla) (Nat.le_trans (bm hkb) hlb) ?_
            refine g_isub B dX9_standingIf_122 ?_
            obtain ⟨w1, w2, w3, w4⟩ := inA h
            clear h
            subst w1
            subst w2
            subst w3
            subst w4
            exact g_iret B hE (Nat.le_trans (Nat.le_of_eq hka) hla) (Nat.le_trans (Nat.le_of_eq hkb) hlb) dX9_standingIf_123
          · replace h := ifn (bI0 hc) h
            obtain ⟨w1, w2, w3, w4⟩ := inA h
            clear h
            subst w1
            subst w2
            subst w3
            subst w4
            exact g_throwW B tw_RX9_78_82 (j := 25) rfl hE (by decide) (Nat.le_of_ble_eq_true rfl) dX9_standingIf_74 dX9_standingIf_77 dX9_standingIf_78 dX9_standingIf_81 dX9_standingIf_84 (Nat.le_trans (Nat.le_of_eq hka) hla) (Nat.le_trans (Nat.le_of_eq hkb) hlb)
        · replace h := ifp hc h
          refine g_iload_n B 0 dX9_standingIf_38 rfl rfl ?_
          refine g_iconst (v := 3) B dX9_standingIf_39 (by decide) ?_
          refine g_icmp_ne B 53 dX9_standingIf_40 (by decide) (fun hc => ?_) (fun hc => ?_)
          · replace h := ifn hc h
            refine g_aload_n B 1 dX9_standingIf_53 rfl rfl ?_
            replace h := bnP_s h
            obtain ⟨x34, h35, h⟩ := h
            refine g_getR B fl_RX9_20 (by decide) dX9_standingIf_54 h35 ?_
            replace h := bnP_s h
            obtain ⟨x36, h37, h⟩ := h
            refine g_callVs0 (st := []) B (cX1_openStandingc h37) (Nat.le_of_ble_eq_true rfl) rfl rfl mi_X1_openStanding lk_RX9_345 ⟨Nat.le_of_ble_eq_true rfl, Nat.le_of_ble_eq_true rfl⟩ rfl rfl (Nat.le_of_ble_eq_true rfl) dX9_standingIf_57 (Nat.le_trans (bm hka) hla) (Nat.le_trans (bm hkb) hlb) ?_
            refine g_iconst (v := 1) B dX9_standingIf_60 (by decide) ?_
            refine g_isub B dX9_standingIf_61 ?_
            obtain ⟨w1, w2, w3, w4⟩ := inA h
            clear h
            subst w1
            subst w2
            subst w3
            subst w4
            exact g_iret B hE (Nat.le_trans (Nat.le_of_eq hka) hla) (Nat.le_trans (Nat.le_of_eq hkb) hlb) dX9_standingIf_62
          · replace h := ifp hc h
            refine g_aload_n B 1 dX9_standingIf_43 rfl rfl ?_
            replace h := bnP_s h
            obtain ⟨x38, h39, h⟩ := h
            refine g_getR B fl_RX9_20 (by decide) dX9_standingIf_44 h39 ?_
            replace h := bnP_s h
            obtain ⟨x40, h41, h⟩ := h
            refine g_callVs0 (st := []) B (cX1_openStandingc h41) (Nat.le_of_ble_eq_true rfl) rfl rfl mi_X1_openStanding lk_RX9_345 ⟨Nat.le_of_ble_eq_true rfl, Nat.le_of_ble_eq_true rfl⟩ rfl rfl (Nat.le_of_ble_eq_true rfl) dX9_standingIf_47 (Nat.le_trans (bm hka) hla) (Nat.le_trans (bm hkb) hlb) ?_
            refine g_goto B 62 dX9_standingIf_50 (by decide) ?_
            obtain ⟨w1, w2, w3, w4⟩ := inA h
            clear h
            subst w1
            subst w2
            subst w3
            subst w4
            exact g_iret B hE (Nat.le_trans (Nat.le_of_eq hka) hla) (Nat.le_trans (Nat.le_of_eq hkb) hlb) dX9_standingIf_62
      · replace h := ifp hc h
        obtain ⟨w1, w2, w3, w4⟩ := inA h
        clear h
        subst w1
        subst w2
        subst w3
        subst w4
        exact g_throwW B tw_RX9_78_82 (j := 24) rfl hE (by decide) (Nat.le_of_ble_eq_true rfl) dX9_standingIf_23 dX9_standingIf_26 dX9_standingIf_27 dX9_standingIf_30 dX9_standingIf_33 (Nat.le_trans (Nat.le_of_eq hka) hla) (Nat.le_trans (Nat.le_of_eq hkb) hlb)
set_option maxRecDepth 100000 in
set_option maxHeartbeats 4000000 in
theorem cX9_inputWordc {l : Launch} {v0 : Option Nat} {v1 : Int32} {σ : HpT} {r : Int64} (h : fX9_inputWord v0 v1 σ = some r) : IsK σ v0 9 ∧ Ct l yX9_inputWord cX9_inputWord 5 (some .long) 1 22 [va_rf v0, .int v1] σ (.ok (some (.long r))) σ 0 0 := by
  unfold fX9_inputWord at h
  replace h := bnP_s h
  obtain ⟨u, hk, h⟩ := h
  replace hk := isK_s hk
  refine ⟨hk, ?_⟩
  refine ct_start mi_X9_inputWord.1 rfl (al_le (al_1 (rf_cat _) (al_1 rfl al_n)) (Nat.le_of_ble_eq_true rfl)) (ag_1 (rf_cat _) (ag_1 rfl ag_n)) (fun Δ Γ B hE hnm => ?_)
  refine g_iload_n B 1 dX9_inputWord_0 rfl rfl ?_
  refine g_bipush (v := 8) B dX9_inputWord_1 (by decide) ?_
  refine g_icmp_le B 8 dX9_inputWord_3 (by decide) (fun hc => ?_) (fun hc => ?_)
  · replace h := ifp hc h
    refine g_lconst (v := 0) B dX9_inputWord_8 (by decide) ?_
    refine g_lstore_n B dX9_inputWord_9 rfl (Nat.le_of_ble_eq_true rfl) (s2_c (f2_k rfl (f2_1 rfl rfl f2_n))) ?_
    refine g_iconst (v := 0) B dX9_inputWord_10 (by decide) ?_
    refine g_istore B dX9_inputWord_11 (Nat.le_of_ble_eq_true rfl) (s1_c (f1_k rfl (f1_k rfl (f1_k rfl f1_n)))) ?_
    replace h := bnP_s h
    obtain ⟨r2, h3, h⟩ := h
    have kE4 : ∀ y22, r2 = .inl y22 → GW Δ Γ (0) (0) 52 [(2, .long y22)] [] σ := by
      intro y22 er
      subst er
      dsimp only at h
      refine g_lload_n B 0 dX9_inputWord_52 rfl rfl ?_
      replace h := Option.some.inj h
      subst h
      exact g_lret B hE (Nat.zero_le _) (Nat.zero_le _) dX9_inputWord_53
    have kR5 : ∀ vv, r2 = .inr vv → En Δ Γ (.ok (some (.long vv))) σ 0 0 (some .long) ∧ 0 ≤ 0 ∧ 0 ≤ 0 := by
      intro vv er
      subst er
      dsimp only at h
      replace h := Option.some.inj h
      subst h
      exact ⟨hE, Nat.zero_le _, Nat.zero_le _⟩
    clear h
    refine g_sub [2, 3, 1, 0] rfl ?_
    refine lpP_w (I := fun q1 => GW Δ Γ (0) (0) 13 [(0, va_rf v0), (1, .int v1), (2, .long q1.1), (4, .int q1.2)] [] σ) (r := r2) ?_ FUEL (0, 0) h3
    intro q1 x8 h hI6 hR7
    unfold fX9_inputWord_l1 at h
    refine g_iload B 3 dX9_inputWord_13 rfl ?_
    refine g_iload_n B 1 dX9_inputWord_15 rfl rfl ?_
    refine g_icmp_ge B 52 dX9_inputWord_16 (by decide) (fun hc => ?_) (fun hc => ?_)
    · replace h := ifp hc h
      replace h := Option.some.inj h
      subst h
      have e8 := hR7 _ rfl
      subst e8
      exact g_sub [2] rfl (kE4 _ rfl)
    · replace h := ifn hc h
      refine g_aload_n B 0 dX9_inputWord_19 rfl rfl ?_
      replace h := bnP_s h
      obtain ⟨x10, h11, h⟩ := h
      refine g_getR B fl_RX9_9 (by decide) dX9_inputWord_20 h11 ?_
      refine g_iload B 3 dX9_inputWord_23 rfl ?_
      replace h := bnP_s h
      obtain ⟨x12, h13, h⟩ := h
      refine g_bald B dX9_inputWord_25 h13 ?_
      replace h := bnP_s h
      obtain ⟨x14, h15, h⟩ := h
      refine g_callSs0 (st := []) B (cX9_isLetterc h15) mi_X9_isLetter lk_RX9_551 ⟨Nat.le_of_ble_eq_true rfl, Nat.le_of_ble_eq_true rfl⟩ rfl rfl (Nat.le_of_ble_eq_true rfl) dX9_inputWord_26 (Nat.zero_le _) (Nat.zero_le _) ?_
      refine g_if_ne B 34 dX9_inputWord_29 (by decide) (fun hc => ?_) (fun hc => ?_)
      · replace h := ifp (bI1 hc) h
        refine g_lload_n B 2 dX9_inputWord_34 rfl rfl ?_
        refine g_aload_n B 0 dX9_inputWord_35 rfl rfl ?_
        replace h := bnP_s h
        obtain ⟨x16, h17, h⟩ := h
        refine g_getR B fl_RX9_9 (by decide) dX9_inputWord_36 h17 ?_
        refine g_iload B 3 dX9_inputWord_39 rfl ?_
        replace h := bnP_s h
        obtain ⟨x18, h19, h⟩ := h
        refine g_bald B dX9_inputWord_41 h19 ?_
        replace h := bnP_s h
        obtain ⟨x20, h21, h⟩ := h
        refine g_callSs0 (st := []) B (cX9_joinedc h21) mi_X9_joined lk_RX9_547 ⟨Nat.le_of_ble_eq_true rfl, Nat.le_of_ble_eq_true rfl⟩ rfl rfl (Nat.le_of_ble_eq_true rfl) dX9_inputWord_42 (Nat.zero_le _) (Nat.zero_le _) ?_
        refine g_lstore_n B dX9_inputWord_45 rfl (Nat.le_of_ble_eq_true rfl) (s2_c (f2_k rfl (f2_1 rfl rfl (f2_x (f2_k rfl f2_n))))) ?_
        refine g_iinc (v := (q1.2 + 1)) B 3 dX9_inputWord_46 rfl (by first | rfl | (congr 1; decide)) (Nat.le_of_ble_eq_true rfl) (s1_c (f1_k rfl (f1_k rfl (f1_k rfl (f1_x f1_n))))) ?_
        refine g_goto B 13 dX9_inputWord_49 (by decide) ?_
        replace h := Option.some.inj h
        subst h
        exact g_sub [2, 3, 1, 0] rfl (hI6 _ rfl)
      · replace h := ifn (bI0 hc) h
        refine g_lconst (v := 0) B dX9_inputWord_32 (by decide) ?_
        replace h := Option.some.inj h
        subst h
        have e8 := hR7 _ rfl
        obtain ⟨hE, hc9, hs9⟩ := kR5 _ e8.symm
        exact g_lret B hE hc9 hs9 dX9_inputWord_33
  · replace h := ifn hc h
    refine g_lconst (v := 0) B dX9_inputWord_6 (by decide) ?_
    replace h := Option.some.inj h
    subst h
    exact g_lret B hE (Nat.zero_le _) (Nat.zero_le _) dX9_inputWord_7
set_option maxRecDepth 100000 in
set_option maxHeartbeats 4000000 in
theorem cX9_findWordc {l : Launch} {v0 : Option Nat} {v1 : Int32} {σ : HpT} {o : Except Nat (Int32)} {σ' : HpT} {a b : Nat} (h : fX9_findWord v0 v1 σ = some (o, σ', a, b)) : IsK σ v0 9 ∧ Ct l yX9_findWord cX9_findWord 4 (some .int) 7 111 [va_rf v0, .int v1] σ (oI o) σ' a b := by
  unfold fX9_findWord at h
  replace h := bnP_s h
  obtain ⟨u, hk, h⟩ := h
  replace hk := isK_s hk
  refine ⟨hk, ?_⟩
  refine ct_start mi_X9_findWord.1 rfl (al_le (al_1 (rf_cat _) (al_1 rfl al_n)) (Nat.le_of_ble_eq_true rfl)) (ag_1 (rf_cat _) (ag_1 rfl ag_n)) (fun Δ Γ B hE hnm => ?_)
  have hka : 0 + a = a := Nat.zero_add a
  have hkb : 0 + b = b := Nat.zero_add b
  have hla : a ≤ a := Nat.le_refl a
  have hlb : b ≤ b := Nat.le_refl b
  refine g_aload_n B 0 dX9_findWord_0 rfl rfl ?_
  replace h := bnXA_s h
  rcases h with ⟨e9, h2, e8, e7, e6, e5⟩ | ⟨x1, h2, h⟩
  · subst e8; subst e7; subst e6; subst e5
    exact g_callVx (st := []) B (cX9_requireBookc (o := .error e9) h2) (Nat.le_of_ble_eq_true rfl) rfl rfl mi_X9_requireBook lk_RX9_95 ⟨Nat.le_of_ble_eq_true rfl, Nat.le_of_ble_eq_true rfl⟩ rfl rfl (Nat.le_of_ble_eq_true rfl) dX9_findWord_1 (Nat.le_trans (Nat.le_of_eq hka) hla) (Nat.le_trans (Nat.le_of_eq hkb) hlb) hE
  · skip
    refine g_callVv0 (st := []) B (cX9_requireBookc (o := .ok x1) h2) (Nat.le_of_ble_eq_true rfl) rfl rfl mi_X9_requireBook lk_RX9_95 ⟨Nat.le_of_ble_eq_true rfl, Nat.le_of_ble_eq_true rfl⟩ rfl rfl (Nat.le_of_ble_eq_true rfl) dX9_findWord_1 (Nat.le_trans (bm hka) hla) (Nat.le_trans (bm hkb) hlb) ?_
    refine g_aload_n B 0 dX9_findWord_4 rfl rfl ?_
    refine g_iload_n B 1 dX9_findWord_5 rfl rfl ?_
    replace h := bnXA_s h
    rcases h with ⟨e9, h4, e8, e7, e6, e5⟩ | ⟨x3, h4, h⟩
    · subst e8; subst e7; subst e6; subst e5
      exact g_callVx (st := []) B (cX9_requireBytesc (o := .error e9) h4) (Nat.le_of_ble_eq_true rfl) rfl rfl mi_X9_requireBytes lk_RX9_66 ⟨Nat.le_of_ble_eq_true rfl, Nat.le_of_ble_eq_true rfl⟩ rfl rfl (Nat.le_of_ble_eq_true rfl) dX9_findWord_6 (Nat.le_trans (Nat.le_of_eq hka) hla) (Nat.le_trans (Nat.le_of_eq hkb) hlb) hE
    · skip
      refine g_callVv0 (st := []) B (cX9_requireBytesc (o := .ok x3) h4) (Nat.le_of_ble_eq_true rfl) rfl rfl mi_X9_requireBytes lk_RX9_66 ⟨Nat.le_of_ble_eq_true rfl, Nat.le_of_ble_eq_true rfl⟩ rfl rfl (Nat.le_of_ble_eq_true rfl) dX9_findWord_6 (Nat.le_trans (bm hka) hla) (Nat.le_trans (bm hkb) hlb) ?_
      refine g_aload_n B 0 dX9_findWord_9 rfl rfl ?_
      refine g_iload_n B 1 dX9_findWord_10 rfl rfl ?_
      replace h := bnP_s h
      obtain ⟨x5, h6, h⟩ := h
      refine g_callVs0 (st := []) B (cX9_inputWordc h6) (Nat.le_of_ble_eq_true rfl) rfl rfl mi_X9_inputWord lk_RX9_353 ⟨Nat.le_of_ble_eq_true rfl, Nat.le_of_ble_eq_true rfl⟩ rfl rfl (Nat.le_of_ble_eq_true rfl) dX9_findWord_11 (Nat.le_trans (bm hka) hla) (Nat.le_trans (bm hkb) hlb) ?_
      refine g_lstore_n B dX9_findWord_14 rfl (Nat.le_of_ble_eq_true rfl) (s2_c (f2_k rfl (f2_1 rfl rfl f2_n))) ?_
      refine g_aload_n B 1 dX9_findWord_15 rfl rfl ?_
      refine g_iconst (v := 0) B dX9_findWord_16 (by decide) ?_
      replace h := bnP_s h
      obtain ⟨s9, h8, h⟩ := h
      refine g_putI B fl_RX9_59 (by decide) dX9_findWord_17 h8 ?_
      refine g_lload_n B 0 dX9_findWord_20 rfl rfl ?_
      refine g_lconst (v := 0) B dX9_findWord_21 (by decide) ?_
      refine g_lcmp B dX9_findWord_22 ?_
      refine g_if_ne B 30 dX9_findWord_23 (by decide) (fun hc => ?_) (fun hc => ?_)
      · replace h := ifn hc h
        refine g_aload_n B 1 dX9_findWord_30 rfl rfl ?_
        replace h := bnP_s h
        obtain ⟨x10, h11, h⟩ := h
        refine g_getR B fl_RX9_20 (by decide) dX9_findWord_31 h11 ?_
        refine g_lload_n B 0 dX9_findWord_34 rfl rfl ?_
        replace h := bnP_s h
        obtain ⟨x12, h13, h⟩ := h
        refine g_callVs0 (st := []) B (cX1_firstActWithc h13) (Nat.le_of_ble_eq_true rfl) rfl rfl mi_X1_firstActWith lk_RX9_357 ⟨Nat.le_of_ble_eq_true rfl, Nat.le_of_ble_eq_true rfl⟩ rfl rfl (Nat.le_of_ble_eq_true rfl) dX9_findWord_35 (Nat.le_trans (bm hka) hla) (Nat.le_trans (bm hkb) hlb) ?_
        obtain ⟨w1, w2, w3, w4⟩ := inA h
        clear h
        subst w1
        subst w2
        subst w3
        subst w4
        exact g_iret B hE (Nat.le_trans (Nat.le_of_eq hka) hla) (Nat.le_trans (Nat.le_of_eq hkb) hlb) dX9_findWord_38
      · replace h := ifp hc h
        refine g_iconst (v := 0) B dX9_findWord_26 (by decide) ?_
        refine g_goto B 38 dX9_findWord_27 (by decide) ?_
        obtain ⟨w1, w2, w3, w4⟩ := inA h
        clear h
        subst w1
        subst w2
        subst w3
        subst w4
        exact g_iret B hE (Nat.le_trans (Nat.le_of_eq hka) hla) (Nat.le_trans (Nat.le_of_eq hkb) hlb) dX9_findWord_38
set_option maxRecDepth 100000 in
set_option maxHeartbeats 4000000 in
theorem cX9_longestc {l : Launch} {v0 : Option Nat} {v1 : Int32} {σ : HpT} {o : Except Nat (Int32)} (h : fX9_longest v0 v1 σ = some o) : IsK σ v0 9 ∧ Ct l yX9_longest cX9_longest 7 (some .int) 7 111 [va_rf v0, .int v1] σ (oI o) σ (xc o) (xs o) := by
  unfold fX9_longest at h
  replace h := bnP_s h
  obtain ⟨u, hk, h⟩ := h
  replace hk := isK_s hk
  refine ⟨hk, ?_⟩
  refine ct_start mi_X9_longest.1 rfl (al_le (al_1 (rf_cat _) (al_1 rfl al_n)) (Nat.le_of_ble_eq_true rfl)) (ag_1 (rf_cat _) (ag_1 rfl ag_n)) (fun Δ Γ B hE hnm => ?_)
  refine g_aload_n B 0 dX9_longest_0 rfl rfl ?_
  replace h := bnX_s h
  rcases h with ⟨e9, h2, e8⟩ | ⟨x1, h2, h⟩
  · subst e8
    exact g_callVx (st := []) B (cX9_requireBookc (o := .error e9) h2) (Nat.le_of_ble_eq_true rfl) rfl rfl mi_X9_requireBook lk_RX9_95 ⟨Nat.le_of_ble_eq_true rfl, Nat.le_of_ble_eq_true rfl⟩ rfl rfl (Nat.le_of_ble_eq_true rfl) dX9_longest_1 (Nat.le_of_eq rfl) (Nat.le_of_eq rfl) hE
  · skip
    refine g_callVv0 (st := []) B (cX9_requireBookc (o := .ok x1) h2) (Nat.le_of_ble_eq_true rfl) rfl rfl mi_X9_requireBook lk_RX9_95 ⟨Nat.le_of_ble_eq_true rfl, Nat.le_of_ble_eq_true rfl⟩ rfl rfl (Nat.le_of_ble_eq_true rfl) dX9_longest_1 (Nat.zero_le _) (Nat.zero_le _) ?_
    refine g_aload_n B 0 dX9_longest_4 rfl rfl ?_
    refine g_iload_n B 1 dX9_longest_5 rfl rfl ?_
    replace h := bnX_s h
    rcases h with ⟨e9, h4, e8⟩ | ⟨x3, h4, h⟩
    · subst e8
      exact g_callVx (st := []) B (cX9_requireActc (o := .error e9) h4) (Nat.le_of_ble_eq_true rfl) rfl rfl mi_X9_requireAct lk_RX9_153 ⟨Nat.le_of_ble_eq_true rfl, Nat.le_of_ble_eq_true rfl⟩ rfl rfl (Nat.le_of_ble_eq_true rfl) dX9_longest_6 (Nat.le_of_eq rfl) (Nat.le_of_eq rfl) hE
    · skip
      refine g_callVs0 (st := []) B (cX9_requireActc (o := .ok x3) h4) (Nat.le_of_ble_eq_true rfl) rfl rfl mi_X9_requireAct lk_RX9_153 ⟨Nat.le_of_ble_eq_true rfl, Nat.le_of_ble_eq_true rfl⟩ rfl rfl (Nat.le_of_ble_eq_true rfl) dX9_longest_6 (Nat.zero_le _) (Nat.zero_le _) ?_
      refine g_astore_n B dX9_longest_9 rfl (Nat.le_of_ble_eq_true rfl) (s1_c (f1_k rfl (f1_1 rfl rfl f1_n))) ?_
      refine g_iconst (v := (-1)) B dX9_longest_10 (by decide) ?_
      refine g_istore_n B dX9_longest_11 rfl (Nat.le_of_ble_eq_true rfl) (s1_c (f1_1 rfl (rf_cat _) (f1_k rfl (f1_k rfl f1_n)))) ?_
      refine g_iconst (v := 0) B dX9_longest_12 (by decide) ?_
      refine g_istore B dX9_longest_13 (Nat.le_of_ble_eq_true rfl) (s1_c (f1_1 rfl rfl (f1_k rfl (f1_k rfl (f1_k rfl f1_n))))) ?_
      refine g_iconst (v := 0) B dX9_longest_15 (by decide) ?_
      refine g_istore B dX9_longest_16 (Nat.le_of_ble_eq_true rfl) (s1_c (f1_1 rfl rfl (f1_k rfl (f1_k rfl (f1_k rfl (f1_k rfl f1_n)))))) ?_
      replace h := bnP_s h
      obtain ⟨r6, h7, h⟩ := h
      have kE8 : GW Δ Γ (0) (0) 91 [(3, .int r6)] [] σ := by
        refine g_iload_n B 0 dX9_longest_91 rfl rfl ?_
        replace h := Option.some.inj h
        subst h
        exact g_iret B hE (Nat.zero_le _) (Nat.zero_le _) dX9_longest_92
      clear h
      refine g_sub [4, 3, 2, 1, 0] rfl ?_
      refine lpP_w (I := fun q5 => GW Δ Γ (0) (0) 18 [(0, va_rf v0), (2, va_rf x3), (3, .int q5.1), (4, .int q5.2.1), (5, .int q5.2.2)] [] σ) (r := r6) ?_ FUEL ((-1), 0, 0) h7
      intro q5 x12 h hI10 hR11
      unfold fX9_longest_l1 at h
      obtain ⟨qv14, qv15, qv16⟩ := q5
      show GW Δ Γ (0) (0) 18 [(0, va_rf v0), (2, va_rf x3), (3, .int qv14), (4, .int qv15), (5, .int qv16)] [] σ
      dsimp only at h
      refine g_iload B 4 dX9_longest_18 rfl ?_
      refine g_aload_n B 1 dX9_longest_20 rfl rfl ?_
      replace h := bnP_s h
      obtain ⟨x17, h18, h⟩ := h
      refine g_getI B fl_RX9_169 (by decide) dX9_longest_21 h18 ?_
      refine g_icmp_ge B 91 dX9_longest_24 (by decide) (fun hc => ?_) (fun hc => ?_)
      · replace h := ifp hc h
        replace h := Option.some.inj h
        subst h
        have e8 := hR11 _ rfl
        subst e8
        exact g_sub [2] rfl kE8
      · replace h := ifn hc h
        refine g_aload_n B 0 dX9_longest_27 rfl rfl ?_
        replace h := bnP_s h
        obtain ⟨x19, h20, h⟩ := h
        refine g_getR B fl_RX9_20 (by decide) dX9_longest_28 h20 ?_
        replace h := bnP_s h
        obtain ⟨x21, h22, h⟩ := h
        refine g_getRg B fl_RX9_114 (by decide) dX9_longest_31 h22 ?_
        replace h := bnP_s h
        obtain ⟨x23, h24, h⟩ := h
        refine g_getRg B fl_RX9_202 (by decide) dX9_longest_34 h24 ?_
        refine g_aload_n B 1 dX9_longest_37 rfl rfl ?_
        replace h := bnP_s h
        obtain ⟨x25, h26, h⟩ := h
        refine g_getI B fl_RX9_170 (by decide) dX9_longest_38 h26 ?_
        refine g_iload B 4 dX9_longest_41 rfl ?_
        refine g_iadd B dX9_longest_43 ?_
        replace h := bnP_s h
        obtain ⟨x27, h28, h⟩ := h
        refine g_lald B dX9_longest_44 h28 ?_
        replace h := bnP_s h
        obtain ⟨x29, h30, h⟩ := h
        refine g_callSs0 (st := []) B (cX9_lettersInc h30) mi_X9_lettersIn lk_RX9_206 ⟨Nat.le_of_ble_eq_true rfl, Nat.le_of_ble_eq_true rfl⟩ rfl rfl (Nat.le_of_ble_eq_true rfl) dX9_longest_45 (Nat.zero_le _) (Nat.zero_le _) ?_
        refine g_istore B dX9_longest_48 (Nat.le_of_ble_eq_true rfl) (s1_c (f1_k rfl (f1_k rfl (f1_k rfl (f1_k rfl (f1_1 rfl rfl f1_n)))))) ?_
        refine g_aload_n B 1 dX9_longest_50 rfl rfl ?_
        replace h := bnP_s h
        obtain ⟨x31, h32, h⟩ := h
        refine g_getR B fl_RX9_20 (by decide) dX9_longest_51 h32 ?_
        replace h := bnP_s h
        obtain ⟨x33, h34, h⟩ := h
        refine g_getRg B fl_RX9_114 (by decide) dX9_longest_54 h34 ?_
        replace h := bnP_s h
        obtain ⟨x35, h36, h⟩ := h
        refine g_getRg B fl_RX9_192 (by decide) dX9_longest_57 h36 ?_
        refine g_aload_n B 2 dX9_longest_60 rfl rfl ?_
        replace h := bnP_s h
        obtain ⟨x37, h38, h⟩ := h
        refine g_getI B fl_RX9_170 (by decide) dX9_longest_61 h38 ?_
        refine g_iload B 5 dX9_longest_64 rfl ?_
        refine g_iadd B dX9_longest_66 ?_
        replace h := bnP_s h
        obtain ⟨x39, h40, h⟩ := h
        refine g_zald B dX9_longest_67 h40 ?_
        refine g_if_ne B 85 dX9_longest_68 (by decide) (fun hc => ?_) (fun hc => ?_)
        · replace h := ifn hc h
          refine g_iinc (v := (qv16 + 1)) B 5 dX9_longest_85 rfl (by first | rfl | (congr 1; decide)) (Nat.le_of_ble_eq_true rfl) (s1_c (f1_k rfl (f1_k rfl (f1_k rfl (f1_k rfl (f1_1 rfl rfl (f1_x f1_n))))))) ?_
          refine g_goto B 18 dX9_longest_88 (by decide) ?_
          replace h := Option.some.inj h
          subst h
          exact g_sub [2, 3, 4, 5, 0] rfl (hI10 (qv14, qv15, (qv16 + 1)) rfl)
        · replace h := ifp hc h
          refine g_iload B 0 dX9_longest_71 rfl ?_
          refine g_iload B 4 dX9_longest_73 rfl ?_
          refine g_icmp_le B 85 dX9_longest_75 (by decide) (fun hc => ?_) (fun hc => ?_)
          · replace h := ifp hc h
            refine g_iinc (v := (qv16 + 1)) B 5 dX9_longest_85 rfl (by first | rfl | (congr 1; decide)) (Nat.le_of_ble_eq_true rfl) (s1_c (f1_k rfl (f1_k rfl (f1_k rfl (f1_k rfl (f1_1 rfl rfl (f1_x f1_n))))))) ?_
            refine g_goto B 18 dX9_longest_88 (by decide) ?_
            replace h := Option.some.inj h
            subst h
            exact g_sub [2, 3, 4, 5, 0] rfl (hI10 (qv14, qv15, (qv16 + 1)) rfl)
          · replace h := ifn hc h
            refine g_iload B 0 dX9_longest_78 rfl ?_
            refine g_istore B dX9_longest_80 (Nat.le_of_ble_eq_true rfl) (s1_c (f1_k rfl (f1_k rfl (f1_k rfl (f1_1 rfl rfl (f1_x (f1_k rfl f1_n))))))) ?_
            refine g_iload B 5 dX9_longest_82 rfl ?_
            refine g_istore_n B dX9_longest_84 rfl (Nat.le_of_ble_eq_true rfl) (s1_c (f1_k rfl (f1_k rfl (f1_k rfl (f1_1 rfl (rf_cat _) (f1_x (f1_k rfl f1_n))))))) ?_
            refine g_iinc (v := (qv16 + 1)) B 5 dX9_longest_85 rfl (by first | rfl | (congr 1; decide)) (Nat.le_of_ble_eq_true rfl) (s1_c (f1_k rfl (f1_1 rfl rfl (f1_k rfl (f1_k rfl (f1_k rfl (f1_x f1_n))))))) ?_
            refine g_goto B 18 dX9_longest_88 (by decide) ?_
            replace h := Option.some.inj h
            subst h
            exact g_sub [4, 5, 1, 2, 0] rfl (hI10 (qv16, x29, (qv16 + 1)) rfl)
set_option maxRecDepth 100000 in
set_option maxHeartbeats 4000000 in
theorem cX9_commonc {l : Launch} {v0 : Option Nat} {v1 : Int32} {v2 : Int32} {σ : HpT} {o : Except Nat (Int32)} (h : fX9_common v0 v1 v2 σ = some o) : IsK σ v0 9 ∧ Ct l yX9_common cX9_common 7 (some .int) 7 111 [va_rf v0, .int v1, .int v2] σ (oI o) σ (xc o) (xs o) := by
  unfold fX9_common at h
  replace h := bnP_s h
  obtain ⟨u, hk, h⟩ := h
  replace hk := isK_s hk
  refine ⟨hk, ?_⟩
  refine ct_start mi_X9_common.1 rfl (al_le (al_1 (rf_cat _) (al_1 rfl (al_1 rfl al_n))) (Nat.le_of_ble_eq_true rfl)) (ag_1 (rf_cat _) (ag_1 rfl (ag_1 rfl ag_n))) (fun Δ Γ B hE hnm => ?_)
  refine g_aload_n B 0 dX9_common_0 rfl rfl ?_
  replace h := bnX_s h
  rcases h with ⟨e9, h2, e8⟩ | ⟨x1, h2, h⟩
  · subst e8
    exact g_callVx (st := []) B (cX9_requireBookc (o := .error e9) h2) (Nat.le_of_ble_eq_true rfl) rfl rfl mi_X9_requireBook lk_RX9_95 ⟨Nat.le_of_ble_eq_true rfl, Nat.le_of_ble_eq_true rfl⟩ rfl rfl (Nat.le_of_ble_eq_true rfl) dX9_common_1 (Nat.le_of_eq rfl) (Nat.le_of_eq rfl) hE
  · skip
    refine g_callVv0 (st := []) B (cX9_requireBookc (o := .ok x1) h2) (Nat.le_of_ble_eq_true rfl) rfl rfl mi_X9_requireBook lk_RX9_95 ⟨Nat.le_of_ble_eq_true rfl, Nat.le_of_ble_eq_true rfl⟩ rfl rfl (Nat.le_of_ble_eq_true rfl) dX9_common_1 (Nat.zero_le _) (Nat.zero_le _) ?_
    refine g_aload_n B 0 dX9_common_4 rfl rfl ?_
    refine g_iload_n B 1 dX9_common_5 rfl rfl ?_
    replace h := bnX_s h
    rcases h with ⟨e9, h4, e8⟩ | ⟨x3, h4, h⟩
    · subst e8
      exact g_callVx (st := []) B (cX9_requireActc (o := .error e9) h4) (Nat.le_of_ble_eq_true rfl) rfl rfl mi_X9_requireAct lk_RX9_153 ⟨Nat.le_of_ble_eq_true rfl, Nat.le_of_ble_eq_true rfl⟩ rfl rfl (Nat.le_of_ble_eq_true rfl) dX9_common_6 (Nat.le_of_eq rfl) (Nat.le_of_eq rfl) hE
    · skip
      refine g_callVs0 (st := []) B (cX9_requireActc (o := .ok x3) h4) (Nat.le_of_ble_eq_true rfl) rfl rfl mi_X9_requireAct lk_RX9_153 ⟨Nat.le_of_ble_eq_true rfl, Nat.le_of_ble_eq_true rfl⟩ rfl rfl (Nat.le_of_ble_eq_true rfl) dX9_common_6 (Nat.zero_le _) (Nat.zero_le _) ?_
      refine g_astore_n B dX9_common_9 rfl (Nat.le_of_ble_eq_true rfl) (s1_c (f1_k rfl (f1_k rfl (f1_1 rfl rfl f1_n)))) ?_
      refine g_aload_n B 1 dX9_common_10 rfl rfl ?_
      refine g_iload_n B 3 dX9_common_11 rfl rfl ?_
      replace h := bnX_s h
      rcases h with ⟨e9, h6, e8⟩ | ⟨x5, h6, h⟩
      · subst e8
        exact g_callVx (st := []) B (cX9_requireActc (o := .error e9) h6) (Nat.le_of_ble_eq_true rfl) rfl rfl mi_X9_requireAct lk_RX9_153 ⟨Nat.le_of_ble_eq_true rfl, Nat.le_of_ble_eq_true rfl⟩ rfl rfl (Nat.le_of_ble_eq_true rfl) dX9_common_12 (Nat.le_of_eq rfl) (Nat.le_of_eq rfl) hE
      · skip
        refine g_callVs0 (st := []) B (cX9_requireActc (o := .ok x5) h6) (Nat.le_of_ble_eq_true rfl) rfl rfl mi_X9_requireAct lk_RX9_153 ⟨Nat.le_of_ble_eq_true rfl, Nat.le_of_ble_eq_true rfl⟩ rfl rfl (Nat.le_of_ble_eq_true rfl) dX9_common_12 (Nat.zero_le _) (Nat.zero_le _) ?_
        refine g_astore B dX9_common_15 (Nat.le_of_ble_eq_true rfl) (s1_c (f1_1 rfl (rf_cat _) (f1_k rfl (f1_k rfl (f1_k rfl f1_n))))) ?_
        refine g_iconst (v := 0) B dX9_common_17 (by decide) ?_
        refine g_istore B dX9_common_18 (Nat.le_of_ble_eq_true rfl) (s1_c (f1_1 rfl (rf_cat _) (f1_k rfl (f1_k rfl (f1_k rfl (f1_k rfl f1_n)))))) ?_
        refine g_aload_n B 2 dX9_common_20 rfl rfl ?_
        replace h := bnP_s h
        obtain ⟨x7, h8, h⟩ := h
        refine g_getI B fl_RX9_170 (by decide) dX9_common_21 h8 ?_
        refine g_istore B dX9_common_24 (Nat.le_of_ble_eq_true rfl) (s1_c (f1_1 rfl rfl (f1_k rfl (f1_k rfl (f1_k rfl (f1_k rfl (f1_k rfl f1_n))))))) ?_
        replace h := bnP_s h
        obtain ⟨r10, h11, h⟩ := h
        have kE12 : GW Δ Γ (0) (0) 93 [(5, .int r10)] [] σ := by
          refine g_iload B 0 dX9_common_93 rfl ?_
          replace h := Option.some.inj h
          subst h
          exact g_iret B hE (Nat.zero_le _) (Nat.zero_le _) dX9_common_95
        clear h
        refine g_sub [4, 3, 2, 1, 0] rfl ?_
        refine lpP_w (I := fun q9 => GW Δ Γ (0) (0) 26 [(0, va_rf v0), (3, va_rf x3), (4, va_rf x5), (5, .int q9.1), (6, .int q9.2)] [] σ) (r := r10) ?_ FUEL (0, x7) h11
        intro q9 x16 h hI14 hR15
        unfold fX9_common_l1 at h
        obtain ⟨qv18, qv19⟩ := q9
        show GW Δ Γ (0) (0) 26 [(0, va_rf v0), (3, va_rf x3), (4, va_rf x5), (5, .int qv18), (6, .int qv19)] [] σ
        dsimp only at h
        refine g_iload B 4 dX9_common_26 rfl ?_
        refine g_aload_n B 1 dX9_common_28 rfl rfl ?_
        replace h := bnP_s h
        obtain ⟨x20, h21, h⟩ := h
        refine g_getI B fl_RX9_170 (by decide) dX9_common_29 h21 ?_
        refine g_aload_n B 1 dX9_common_32 rfl rfl ?_
        replace h := bnP_s h
        obtain ⟨x22, h23, h⟩ := h
        refine g_getI B fl_RX9_169 (by decide) dX9_common_33 h23 ?_
        refine g_iadd B dX9_common_36 ?_
        refine g_icmp_ge B 93 dX9_common_37 (by decide) (fun hc => ?_) (fun hc => ?_)
        · replace h := ifp hc h
          replace h := Option.some.inj h
          subst h
          have e8 := hR15 _ rfl
          subst e8
          exact g_sub [3] rfl kE12
        · replace h := ifn hc h
          refine g_aload_n B 0 dX9_common_40 rfl rfl ?_
          replace h := bnP_s h
          obtain ⟨x24, h25, h⟩ := h
          refine g_getR B fl_RX9_20 (by decide) dX9_common_41 h25 ?_
          replace h := bnP_s h
          obtain ⟨x26, h27, h⟩ := h
          refine g_getRg B fl_RX9_114 (by decide) dX9_common_44 h27 ?_
          replace h := bnP_s h
          obtain ⟨x28, h29, h⟩ := h
          refine g_getRg B fl_RX9_192 (by decide) dX9_common_47 h29 ?_
          refine g_iload B 4 dX9_common_50 rfl ?_
          replace h := bnP_s h
          obtain ⟨x30, h31, h⟩ := h
          refine g_zald B dX9_common_52 h31 ?_
          refine g_if_ne B 87 dX9_common_53 (by decide) (fun hc => ?_) (fun hc => ?_)
          · replace h := ifn hc h
            refine g_iinc (v := (qv19 + 1)) B 4 dX9_common_87 rfl (by first | rfl | (congr 1; decide)) (Nat.le_of_ble_eq_true rfl) (s1_c (f1_k rfl (f1_k rfl (f1_k rfl (f1_1 rfl rfl (f1_x f1_n)))))) ?_
            refine g_goto B 26 dX9_common_90 (by decide) ?_
            replace h := Option.some.inj h
            subst h
            exact g_sub [1, 2, 3, 4, 0] rfl (hI14 (qv18, (qv19 + 1)) rfl)
          · replace h := ifp hc h
            refine g_aload_n B 0 dX9_common_56 rfl rfl ?_
            replace h := bnP_s h
            obtain ⟨x32, h33, h⟩ := h
            refine g_getR B fl_RX9_20 (by decide) dX9_common_57 h33 ?_
            replace h := bnP_s h
            obtain ⟨x34, h35, h⟩ := h
            refine g_getRg B fl_RX9_114 (by decide) dX9_common_60 h35 ?_
            refine g_aload B 2 dX9_common_63 rfl ?_
            refine g_aload_n B 0 dX9_common_65 rfl rfl ?_
            replace h := bnP_s h
            obtain ⟨x36, h37, h⟩ := h
            refine g_getR B fl_RX9_20 (by decide) dX9_common_66 h37 ?_
            replace h := bnP_s h
            obtain ⟨x38, h39, h⟩ := h
            refine g_getRg B fl_RX9_114 (by decide) dX9_common_69 h39 ?_
            replace h := bnP_s h
            obtain ⟨x40, h41, h⟩ := h
            refine g_getRg B fl_RX9_202 (by decide) dX9_common_72 h41 ?_
            refine g_iload B 4 dX9_common_75 rfl ?_
            replace h := bnP_s h
            obtain ⟨x42, h43, h⟩ := h
            refine g_lald B dX9_common_77 h43 ?_
            replace h := bnP_s h
            obtain ⟨x44, h45, h⟩ := h
            refine g_callVs0 (st := []) B (cX8_standsWrittenc h45) (Nat.le_of_ble_eq_true rfl) rfl rfl mi_X8_standsWritten lk_RX9_360 ⟨Nat.le_of_ble_eq_true rfl, Nat.le_of_ble_eq_true rfl⟩ rfl rfl (Nat.le_of_ble_eq_true rfl) dX9_common_78 (Nat.zero_le _) (Nat.zero_le _) ?_
            refine g_if_eq B 87 dX9_common_81 (by decide) (fun hc => ?_) (fun hc => ?_)
            · replace h := ifn (bI0 hc) h
              refine g_iinc (v := (qv19 + 1)) B 4 dX9_common_87 rfl (by first | rfl | (congr 1; decide)) (Nat.le_of_ble_eq_true rfl) (s1_c (f1_k rfl (f1_k rfl (f1_k rfl (f1_1 rfl rfl (f1_x f1_n)))))) ?_
              refine g_goto B 26 dX9_common_90 (by decide) ?_
              replace h := Option.some.inj h
              subst h
              exact g_sub [1, 2, 3, 4, 0] rfl (hI14 (qv18, (qv19 + 1)) rfl)
            · replace h := ifp (bI1 hc) h
              refine g_iinc (v := (qv18 + 1)) B 3 dX9_common_84 rfl (by first | rfl | (congr 1; decide)) (Nat.le_of_ble_eq_true rfl) (s1_c (f1_k rfl (f1_k rfl (f1_1 rfl (rf_cat _) (f1_x (f1_k rfl f1_n)))))) ?_
              refine g_iinc (v := (qv19 + 1)) B 4 dX9_common_87 rfl (by first | rfl | (congr 1; decide)) (Nat.le_of_ble_eq_true rfl) (s1_c (f1_1 rfl rfl (f1_k rfl (f1_k rfl (f1_k rfl (f1_x f1_n)))))) ?_
              refine g_goto B 26 dX9_common_90 (by decide) ?_
              replace h := Option.some.inj h
              subst h
              exact g_sub [2, 3, 4, 1, 0] rfl (hI14 ((qv18 + 1), (qv19 + 1)) rfl)
set_option maxRecDepth 100000 in
set_option maxHeartbeats 4000000 in
theorem cX9_knownSharec {l : Launch} {v0 : Option Nat} {σ : HpT} {o : Except Nat (UInt32)} (h : fX9_knownShare v0 σ = some o) : IsK σ v0 9 ∧ Ct l yX9_knownShare cX9_knownShare 2 (some .float) 7 110 [va_rf v0] σ (oF o) σ (xc o) (xs o) := by
  unfold fX9_knownShare at h
  replace h := bnP_s h
  obtain ⟨u, hk, h⟩ := h
  replace hk := isK_s hk
  refine ⟨hk, ?_⟩
  refine ct_start mi_X9_knownShare.1 rfl (al_le (al_1 (rf_cat _) al_n) (Nat.le_of_ble_eq_true rfl)) (ag_1 (rf_cat _) ag_n) (fun Δ Γ B hE hnm => ?_)
  refine g_aload_n B 0 dX9_knownShare_0 rfl rfl ?_
  replace h := bnX_s h
  rcases h with ⟨e9, h2, e8⟩ | ⟨x1, h2, h⟩
  · subst e8
    exact g_callVx (st := []) B (cX9_requireBookc (o := .error e9) h2) (Nat.le_of_ble_eq_true rfl) rfl rfl mi_X9_requireBook lk_RX9_95 ⟨Nat.le_of_ble_eq_true rfl, Nat.le_of_ble_eq_true rfl⟩ rfl rfl (Nat.le_of_ble_eq_true rfl) dX9_knownShare_1 (Nat.le_of_eq rfl) (Nat.le_of_eq rfl) hE
  · skip
    refine g_callVv0 (st := []) B (cX9_requireBookc (o := .ok x1) h2) (Nat.le_of_ble_eq_true rfl) rfl rfl mi_X9_requireBook lk_RX9_95 ⟨Nat.le_of_ble_eq_true rfl, Nat.le_of_ble_eq_true rfl⟩ rfl rfl (Nat.le_of_ble_eq_true rfl) dX9_knownShare_1 (Nat.zero_le _) (Nat.zero_le _) ?_
    refine g_aload_n B 0 dX9_knownShare_4 rfl rfl ?_
    replace h := bnP_s h
    obtain ⟨x3, h4, h⟩ := h
    refine g_getR B fl_RX9_20 (by decide) dX9_knownShare_5 h4 ?_
    replace h := bnP_s h
    obtain ⟨x5, h6, h⟩ := h
    refine g_getRg B fl_RX9_114 (by decide) dX9_knownShare_8 h6 ?_
    replace h := bnP_s h
    obtain ⟨x7, h8, h⟩ := h
    refine g_getI B fl_RX9_118 (by decide) dX9_knownShare_11 h8 ?_
    refine g_istore_n B dX9_knownShare_14 rfl (Nat.le_of_ble_eq_true rfl) (s1_c (f1_1 rfl (rf_cat _) f1_n)) ?_
    refine g_iload_n B 0 dX9_knownShare_15 rfl rfl ?_
    refine g_if_ne B 21 dX9_knownShare_16 (by decide) (fun hc => ?_) (fun hc => ?_)
    · replace h := ifn hc h
      refine g_iload_n B 0 dX9_knownShare_21 rfl rfl ?_
      refine g_aload_n B 1 dX9_knownShare_22 rfl rfl ?_
      replace h := bnP_s h
      obtain ⟨x9, h10, h⟩ := h
      refine g_getR B fl_RX9_20 (by decide) dX9_knownShare_23 h10 ?_
      refine g_iconst (v := 0) B dX9_knownShare_26 (by decide) ?_
      refine g_iload_n B 0 dX9_knownShare_27 rfl rfl ?_
      replace h := bnP_s h
      obtain ⟨x11, h12, h⟩ := h
      refine g_callVs0 (st := [.int x7]) B (cX1_unknownFromc h12) (Nat.le_of_ble_eq_true rfl) rfl rfl mi_X1_unknownFrom lk_RX9_150 ⟨Nat.le_of_ble_eq_true rfl, Nat.le_of_ble_eq_true rfl⟩ rfl rfl (Nat.le_of_ble_eq_true rfl) dX9_knownShare_28 (Nat.zero_le _) (Nat.zero_le _) ?_
      refine g_isub B dX9_knownShare_31 ?_
      refine g_i2f B dX9_knownShare_32 ?_
      refine g_iload_n B 0 dX9_knownShare_33 rfl rfl ?_
      refine g_i2f B dX9_knownShare_34 ?_
      replace h := bnP_s h
      obtain ⟨u13, h14, h⟩ := h
      refine g_fdiv B dX9_knownShare_35 (chF_s h14) ?_
      replace h := Option.some.inj h
      subst h
      exact g_fret B hE (Nat.zero_le _) (Nat.zero_le _) dX9_knownShare_36
    · replace h := ifp hc h
      refine g_fconst0 B dX9_knownShare_19 ?_
      replace h := Option.some.inj h
      subst h
      exact g_fret B hE (Nat.zero_le _) (Nat.zero_le _) dX9_knownShare_20
set_option maxRecDepth 100000 in
set_option maxHeartbeats 4000000 in
theorem cX9_meanWordsc {l : Launch} {v0 : Option Nat} {σ : HpT} {o : Except Nat (UInt64)} (h : fX9_meanWords v0 σ = some o) : IsK σ v0 9 ∧ Ct l yX9_meanWords cX9_meanWords 2 (some .double) 7 110 [va_rf v0] σ (oD o) σ (xc o) (xs o) := by
  unfold fX9_meanWords at h
  replace h := bnP_s h
  obtain ⟨u, hk, h⟩ := h
  replace hk := isK_s hk
  refine ⟨hk, ?_⟩
  refine ct_start mi_X9_meanWords.1 rfl (al_le (al_1 (rf_cat _) al_n) (Nat.le_of_ble_eq_true rfl)) (ag_1 (rf_cat _) ag_n) (fun Δ Γ B hE hnm => ?_)
  refine g_aload_n B 0 dX9_meanWords_0 rfl rfl ?_
  replace h := bnX_s h
  rcases h with ⟨e9, h2, e8⟩ | ⟨x1, h2, h⟩
  · subst e8
    exact g_callVx (st := []) B (cX9_requireBookc (o := .error e9) h2) (Nat.le_of_ble_eq_true rfl) rfl rfl mi_X9_requireBook lk_RX9_95 ⟨Nat.le_of_ble_eq_true rfl, Nat.le_of_ble_eq_true rfl⟩ rfl rfl (Nat.le_of_ble_eq_true rfl) dX9_meanWords_1 (Nat.le_of_eq rfl) (Nat.le_of_eq rfl) hE
  · skip
    refine g_callVv0 (st := []) B (cX9_requireBookc (o := .ok x1) h2) (Nat.le_of_ble_eq_true rfl) rfl rfl mi_X9_requireBook lk_RX9_95 ⟨Nat.le_of_ble_eq_true rfl, Nat.le_of_ble_eq_true rfl⟩ rfl rfl (Nat.le_of_ble_eq_true rfl) dX9_meanWords_1 (Nat.zero_le _) (Nat.zero_le _) ?_
    refine g_aload_n B 0 dX9_meanWords_4 rfl rfl ?_
    replace h := bnP_s h
    obtain ⟨x3, h4, h⟩ := h
    refine g_getR B fl_RX9_20 (by decide) dX9_meanWords_5 h4 ?_
    refine g_iconst (v := 1) B dX9_meanWords_8 (by decide) ?_
    replace h := bnP_s h
    obtain ⟨x5, h6, h⟩ := h
    refine g_callVs0 (st := []) B (cX1_actsAtc h6) (Nat.le_of_ble_eq_true rfl) rfl rfl mi_X1_actsAt lk_RX9_144 ⟨Nat.le_of_ble_eq_true rfl, Nat.le_of_ble_eq_true rfl⟩ rfl rfl (Nat.le_of_ble_eq_true rfl) dX9_meanWords_9 (Nat.zero_le _) (Nat.zero_le _) ?_
    refine g_istore_n B dX9_meanWords_12 rfl (Nat.le_of_ble_eq_true rfl) (s1_c (f1_1 rfl (rf_cat _) f1_n)) ?_
    refine g_iload_n B 0 dX9_meanWords_13 rfl rfl ?_
    refine g_if_ne B 19 dX9_meanWords_14 (by decide) (fun hc => ?_) (fun hc => ?_)
    · replace h := ifn hc h
      refine g_aload_n B 1 dX9_meanWords_19 rfl rfl ?_
      replace h := bnP_s h
      obtain ⟨x7, h8, h⟩ := h
      refine g_getR B fl_RX9_20 (by decide) dX9_meanWords_20 h8 ?_
      replace h := bnP_s h
      obtain ⟨x9, h10, h⟩ := h
      refine g_callVs0 (st := []) B (cX1_standingOfSealedc h10) (Nat.le_of_ble_eq_true rfl) rfl rfl mi_X1_standingOfSealed lk_RX9_364 ⟨Nat.le_of_ble_eq_true rfl, Nat.le_of_ble_eq_true rfl⟩ rfl rfl (Nat.le_of_ble_eq_true rfl) dX9_meanWords_23 (Nat.zero_le _) (Nat.zero_le _) ?_
      refine g_i2d B dX9_meanWords_26 ?_
      refine g_iload_n B 0 dX9_meanWords_27 rfl rfl ?_
      refine g_i2d B dX9_meanWords_28 ?_
      replace h := bnP_s h
      obtain ⟨u11, h12, h⟩ := h
      refine g_ddiv B dX9_meanWords_29 (chD_s h12) ?_
      replace h := Option.some.inj h
      subst h
      exact g_dret B hE (Nat.zero_le _) (Nat.zero_le _) dX9_meanWords_30
    · replace h := ifp hc h
      refine g_dconst0 B dX9_meanWords_17 ?_
      replace h := Option.some.inj h
      subst h
      exact g_dret B hE (Nat.zero_le _) (Nat.zero_le _) dX9_meanWords_18
set_option maxRecDepth 100000 in
set_option maxHeartbeats 4000000 in
theorem cX9_writeActc {l : Launch} {v0 : Option Nat} {v1 : Int32} {σ : HpT} {o : Except Nat (Int32)} {σ' : HpT} {a b : Nat} (h : fX9_writeAct v0 v1 σ = some (o, σ', a, b)) : IsK σ v0 9 ∧ Ct l yX9_writeAct cX9_writeAct 6 (some .int) 8 193 [va_rf v0, .int v1] σ (oI o) σ' a b := by
  unfold fX9_writeAct at h
  replace h := bnP_s h
  obtain ⟨u, hk, h⟩ := h
  replace hk := isK_s hk
  refine ⟨hk, ?_⟩
  refine ct_start mi_X9_writeAct.1 rfl (al_le (al_1 (rf_cat _) (al_1 rfl al_n)) (Nat.le_of_ble_eq_true rfl)) (ag_1 (rf_cat _) (ag_1 rfl ag_n)) (fun Δ Γ B hE hnm => ?_)
  have hka : 0 + a = a := Nat.zero_add a
  have hkb : 0 + b = b := Nat.zero_add b
  have hla : a ≤ a := Nat.le_refl a
  have hlb : b ≤ b := Nat.le_refl b
  refine g_aload_n B 0 dX9_writeAct_0 rfl rfl ?_
  replace h := bnXA_s h
  rcases h with ⟨e9, h2, e8, e7, e6, e5⟩ | ⟨x1, h2, h⟩
  · subst e8; subst e7; subst e6; subst e5
    exact g_callVx (st := []) B (cX9_requireBookc (o := .error e9) h2) (Nat.le_of_ble_eq_true rfl) rfl rfl mi_X9_requireBook lk_RX9_95 ⟨Nat.le_of_ble_eq_true rfl, Nat.le_of_ble_eq_true rfl⟩ rfl rfl (Nat.le_of_ble_eq_true rfl) dX9_writeAct_1 (Nat.le_trans (Nat.le_of_eq hka) hla) (Nat.le_trans (Nat.le_of_eq hkb) hlb) hE
  · skip
    refine g_callVv0 (st := []) B (cX9_requireBookc (o := .ok x1) h2) (Nat.le_of_ble_eq_true rfl) rfl rfl mi_X9_requireBook lk_RX9_95 ⟨Nat.le_of_ble_eq_true rfl, Nat.le_of_ble_eq_true rfl⟩ rfl rfl (Nat.le_of_ble_eq_true rfl) dX9_writeAct_1 (Nat.le_trans (bm hka) hla) (Nat.le_trans (bm hkb) hlb) ?_
    refine g_aload_n B 0 dX9_writeAct_4 rfl rfl ?_
    refine g_iload_n B 1 dX9_writeAct_5 rfl rfl ?_
    replace h := bnXA_s h
    rcases h with ⟨e9, h4, e8, e7, e6, e5⟩ | ⟨x3, h4, h⟩
    · subst e8; subst e7; subst e6; subst e5
      exact g_callVx (st := []) B (cX9_requireActc (o := .error e9) h4) (Nat.le_of_ble_eq_true rfl) rfl rfl mi_X9_requireAct lk_RX9_153 ⟨Nat.le_of_ble_eq_true rfl, Nat.le_of_ble_eq_true rfl⟩ rfl rfl (Nat.le_of_ble_eq_true rfl) dX9_writeAct_6 (Nat.le_trans (Nat.le_of_eq hka) hla) (Nat.le_trans (Nat.le_of_eq hkb) hlb) hE
    · skip
      refine g_callVs0 (st := []) B (cX9_requireActc (o := .ok x3) h4) (Nat.le_of_ble_eq_true rfl) rfl rfl mi_X9_requireAct lk_RX9_153 ⟨Nat.le_of_ble_eq_true rfl, Nat.le_of_ble_eq_true rfl⟩ rfl rfl (Nat.le_of_ble_eq_true rfl) dX9_writeAct_6 (Nat.le_trans (bm hka) hla) (Nat.le_trans (bm hkb) hlb) ?_
      refine g_astore_n B dX9_writeAct_9 rfl (Nat.le_of_ble_eq_true rfl) (s1_c (f1_k rfl (f1_1 rfl rfl f1_n))) ?_
      refine g_aload_n B 1 dX9_writeAct_10 rfl rfl ?_
      replace h := bnP_s h
      obtain ⟨x5, h6, h⟩ := h
      refine g_getR B fl_RX9_20 (by decide) dX9_writeAct_11 h6 ?_
      replace h := bnP_s h
      obtain ⟨x7, h8, h⟩ := h
      refine g_getRg B fl_RX9_114 (by decide) dX9_writeAct_14 h8 ?_
      refine g_astore_n B dX9_writeAct_17 rfl (Nat.le_of_ble_eq_true rfl) (s1_c (f1_1 rfl (rf_cat _) (f1_k rfl (f1_k rfl f1_n)))) ?_
      refine g_aload_n B 2 dX9_writeAct_18 rfl rfl ?_
      replace h := bnP_s h
      obtain ⟨x9, h10, h⟩ := h
      refine g_getR B fl_RX9_55 (by decide) dX9_writeAct_19 h10 ?_
      replace h := bnA_s h
      rcases h with ⟨e9, h12, e8⟩ | ⟨x11, s13, a14, b15, a16, b17, h12, h, ea, eb⟩
      · subst e8
        exact g_callVx (st := []) B (cX6_startTextc (o := .error e9) h12) (Nat.le_of_ble_eq_true rfl) rfl rfl mi_X6_startText lk_RX9_367 ⟨Nat.le_of_ble_eq_true rfl, Nat.le_of_ble_eq_true rfl⟩ rfl rfl (Nat.le_of_ble_eq_true rfl) dX9_writeAct_22 (Nat.le_trans (Nat.le_of_eq hka) hla) (Nat.le_trans (Nat.le_of_eq hkb) hlb) hE
      · subst ea; subst eb
        have hka := bk hka
        have hkb := bk hkb
        refine g_callVvA (st := []) B (cX6_startTextc (o := .ok x11) h12) (Nat.le_of_ble_eq_true rfl) rfl rfl mi_X6_startText lk_RX9_367 ⟨Nat.le_of_ble_eq_true rfl, Nat.le_of_ble_eq_true rfl⟩ rfl rfl (Nat.le_of_ble_eq_true rfl) dX9_writeAct_22 (Nat.le_trans (bm hka) hla) (Nat.le_trans (bm hkb) hlb) ?_
        refine g_aload_n B 1 dX9_writeAct_25 rfl rfl ?_
        replace h := bnP_s h
        obtain ⟨x18, h19, h⟩ := h
        refine g_getI B fl_RX9_170 (by decide) dX9_writeAct_26 h19 ?_
        refine g_istore B dX9_writeAct_29 (Nat.le_of_ble_eq_true rfl) (s1_c (f1_1 rfl (rf_cat _) (f1_k rfl (f1_k rfl (f1_k rfl f1_n))))) ?_
        replace h := bnA_o h
        obtain ⟨z160, s149, a150, b151, h22, er28o, h, la, lb⟩ := h
        have kE23 : ∀ r21, z160 = .ok r21 → GW Δ Γ (0 + a14 + a150) (0 + b15 + b151) 189 [(0, va_rf v0)] [] s149 := by
          intro r21 ej
          replace h := h _ ej
          obtain ⟨a152, b153, h, ea, eb⟩ := h
          subst ea; subst eb
          have hka := bk hka
          have hkb := bk hkb
          refine g_aload_n B 0 dX9_writeAct_189 rfl rfl ?_
          replace h := bnP_s h
          obtain ⟨x154, h155, h⟩ := h
          refine g_getR B fl_RX9_55 (by decide) dX9_writeAct_190 h155 ?_
          replace h := bnP_s h
          obtain ⟨x156, h157, h⟩ := h
          refine g_getRg B fl_RX9_388 (by decide) dX9_writeAct_193 h157 ?_
          replace h := bnP_s h
          obtain ⟨x158, h159, h⟩ := h
          refine g_callVs0 (st := []) B (cJ4_length_8abf5c h159) (Nat.le_of_ble_eq_true rfl) rfl rfl mi_J4_length_8abf5 lk_RX9_392 ⟨Nat.le_of_ble_eq_true rfl, Nat.le_of_ble_eq_true rfl⟩ rfl rfl (Nat.le_of_ble_eq_true rfl) dX9_writeAct_196 (Nat.le_trans (bm hka) hla) (Nat.le_trans (bm hkb) hlb) ?_
          obtain ⟨w1, w2, w3, w4⟩ := inA h
          clear h
          subst w1
          subst w2
          subst w3
          subst w4
          exact g_iret B hE (Nat.le_trans (Nat.le_of_eq hka) hla) (Nat.le_trans (Nat.le_of_eq hkb) hlb) dX9_writeAct_199
        clear h
        refine g_sub [3, 2, 1, 0] rfl ?_
        have hla9 := Nat.le_trans (bj hka la) hla
        have hlb9 := Nat.le_trans (bj hkb lb) hlb
        refine lpA_w (I := fun q20 s29 ka30 kb31 => GW Δ Γ (ka30) (kb31) 31 [(0, va_rf v0), (2, va_rf x3), (3, va_rf x7), (4, .int q20)] [] s29) (r := z160) (σr := s149) (A := 0 + a14 + a150) (B := 0 + b15 + b151) ?_ FUEL x18 s13 _ _ _ _ h22 rfl rfl
        intro q20 s29 ka30 kb31 x27 s9 i9 j9 h hI25 hle9 hR26 er28i
        unfold fX9_writeAct_l1 at h
        have hka : ka30 + i9 = _ := rfl
        have hkb : kb31 + j9 = _ := rfl
        have hlab : ka30 + i9 ≤ 0 + a14 + a150 ∧ kb31 + j9 ≤ 0 + b15 + b151 := by
          rcases x27 with e | (x | x)
          · obtain ⟨-, -, e1, e2⟩ := er28i e rfl; exact ⟨Nat.le_of_eq e1, Nat.le_of_eq e2⟩
          · exact hle9 x rfl
          · obtain ⟨-, -, e1, e2⟩ := hR26 x rfl; exact ⟨Nat.le_of_eq e1, Nat.le_of_eq e2⟩
        have hla := Nat.le_trans hlab.1 hla9
        have hlb := Nat.le_trans hlab.2 hlb9
        have er28n : ∀ e, x27 = .error e → z160 = .error e ∧ s9 = s149 ∧ ka30 + i9 = 0 + a14 + a150 ∧ kb31 + j9 = 0 + b15 + b151 := fun e q => (fun r9 => ⟨r9.1, r9.2.1.symm, r9.2.2.1, r9.2.2.2⟩) (er28i e q)
        refine g_iload B 3 dX9_writeAct_31 rfl ?_
        refine g_aload_n B 1 dX9_writeAct_33 rfl rfl ?_
        replace h := bnP_s h
        obtain ⟨x32, h33, h⟩ := h
        refine g_getI B fl_RX9_170 (by decide) dX9_writeAct_34 h33 ?_
        refine g_aload_n B 1 dX9_writeAct_37 rfl rfl ?_
        replace h := bnP_s h
        obtain ⟨x34, h35, h⟩ := h
        refine g_getI B fl_RX9_169 (by decide) dX9_writeAct_38 h35 ?_
        refine g_iadd B dX9_writeAct_41 ?_
        refine g_icmp_ge B 189 dX9_writeAct_42 (by decide) (fun hc => ?_) (fun hc => ?_)
        · replace h := ifp hc h
          obtain ⟨w1, w2, w3, w4⟩ := inA h
          clear h
          subst w1
          subst w2
          subst w3
          subst w4
          obtain ⟨e8, e7, e6, e5⟩ := hR26 _ rfl
          subst e8
          subst e7
          refine g_cost (by omega) (by omega) ?_
          exact g_sub [0] rfl (kE23 _ rfl)
        · replace h := ifn hc h
          refine g_aload_n B 0 dX9_writeAct_45 rfl rfl ?_
          replace h := bnP_s h
          obtain ⟨x36, h37, h⟩ := h
          refine g_getR B fl_RX9_55 (by decide) dX9_writeAct_46 h37 ?_
          refine g_bipush (v := 40) B dX9_writeAct_49 (by decide) ?_
          refine g_aload_n B 2 dX9_writeAct_51 rfl rfl ?_
          replace h := bnP_s h
          obtain ⟨x38, h39, h⟩ := h
          refine g_getRg B fl_RX9_370 (by decide) dX9_writeAct_52 h39 ?_
          refine g_iload B 3 dX9_writeAct_55 rfl ?_
          replace h := bnP_s h
          obtain ⟨x40, h41, h⟩ := h
          refine g_iald B dX9_writeAct_57 h41 ?_
          replace h := bnA_s h
          rcases h with ⟨e9, h43, e8⟩ | ⟨x42, s44, a45, b46, a47, b48, h43, h, ea, eb⟩
          · subst e8; obtain ⟨e8, e7, e6, e5⟩ := er28n _ rfl; subst e8; subst e7; obtain ⟨d8, d7, d6, d5⟩ := er28o _ rfl; subst d8; subst d7; subst d6; subst d5
            exact g_callVx (st := []) B (cX6_putSignsc (o := .error e9) h43) (Nat.le_of_ble_eq_true rfl) rfl rfl mi_X6_putSigns lk_RX9_373 ⟨Nat.le_of_ble_eq_true rfl, Nat.le_of_ble_eq_true rfl⟩ rfl rfl (Nat.le_of_ble_eq_true rfl) dX9_writeAct_58 (Nat.le_trans (Nat.le_of_eq hka) hla) (Nat.le_trans (Nat.le_of_eq hkb) hlb) hE
          · subst ea; subst eb
            have hka := bk hka
            have hkb := bk hkb
            refine g_callVvA (st := []) B (cX6_putSignsc (o := .ok x42) h43) (Nat.le_of_ble_eq_true rfl) rfl rfl mi_X6_putSigns lk_RX9_373 ⟨Nat.le_of_ble_eq_true rfl, Nat.le_of_ble_eq_true rfl⟩ rfl rfl (Nat.le_of_ble_eq_true rfl) dX9_writeAct_58 (Nat.le_trans (bm hka) hla) (Nat.le_trans (bm hkb) hlb) ?_
            refine g_aload_n B 0 dX9_writeAct_61 rfl rfl ?_
            replace h := bnP_s h
            obtain ⟨x49, h50, h⟩ := h
            refine g_getR B fl_RX9_20 (by decide) dX9_writeAct_62 h50 ?_
            refine g_iload B 3 dX9_writeAct_65 rfl ?_
            replace h := bnP_s h
            obtain ⟨x51, h52, h⟩ := h
            refine g_callVs0 (st := []) B (cX1_isKnownc h52) (Nat.le_of_ble_eq_true rfl) rfl rfl mi_X1_isKnown lk_RX9_210 ⟨Nat.le_of_ble_eq_true rfl, Nat.le_of_ble_eq_true rfl⟩ rfl rfl (Nat.le_of_ble_eq_true rfl) dX9_writeAct_67 (Nat.le_trans (bm hka) hla) (Nat.le_trans (bm hkb) hlb) ?_
            replace h := bnA_o h
            obtain ⟨z148, s97, a98, b99, h54, er57, h, la, lb⟩ := h
            have k56 : ∀ j53, z148 = .ok j53 → GW Δ Γ (ka30 + a45 + a98) (kb31 + b46 + b99) 129 [(0, va_rf v0), (2, va_rf x3), (3, va_rf x7), (4, .int q20)] [] s97 := by
              intro j53 ej
              replace h := h _ ej
              obtain ⟨a100, b101, h, ea, eb⟩ := h
              subst ea; subst eb
              have hka := bk hka
              have hkb := bk hkb
              refine g_iconst (v := 0) B dX9_writeAct_129 (by decide) ?_
              refine g_istore B dX9_writeAct_130 (Nat.le_of_ble_eq_true rfl) (s1_c (f1_k rfl (f1_k rfl (f1_k rfl (f1_1 rfl rfl f1_n))))) ?_
              replace h := bnA_o h
              obtain ⟨z147, s129, a130, b131, h104, er110o, h, la, lb⟩ := h
              have kE105 : ∀ r103, z147 = .ok r103 → GW Δ Γ (ka30 + a45 + a98 + a130) (kb31 + b46 + b99 + b131) 167 [(0, va_rf v0), (2, va_rf x3), (3, va_rf x7), (4, .int q20)] [] s129 := by
                intro r103 ej
                replace h := h _ ej
                obtain ⟨a132, b133, h, ea, eb⟩ := h
                subst ea; subst eb
                have hka := bk hka
                have hkb := bk hkb
                refine g_aload_n B 0 dX9_writeAct_167 rfl rfl ?_
                replace h := bnP_s h
                obtain ⟨x134, h135, h⟩ := h
                refine g_getR B fl_RX9_55 (by decide) dX9_writeAct_168 h135 ?_
                refine g_bipush (v := 41) B dX9_writeAct_171 (by decide) ?_
                refine g_aload_n B 2 dX9_writeAct_173 rfl rfl ?_
                replace h := bnP_s h
                obtain ⟨x136, h137, h⟩ := h
                refine g_getRg B fl_RX9_385 (by decide) dX9_writeAct_174 h137 ?_
                refine g_iload B 3 dX9_writeAct_177 rfl ?_
                replace h := bnP_s h
                obtain ⟨x138, h139, h⟩ := h
                refine g_iald B dX9_writeAct_179 h139 ?_
                replace h := bnA_s h
                rcases h with ⟨e9, h141, e8⟩ | ⟨x140, s142, a143, b144, a145, b146, h141, h, ea, eb⟩
                · subst e8; obtain ⟨e8, e7, e6, e5⟩ := er28n _ rfl; subst e8; subst e7; obtain ⟨d8, d7, d6, d5⟩ := er28o _ rfl; subst d8; subst d7; subst d6; subst d5
                  exact g_callVx (st := []) B (cX6_putSignsc (o := .error e9) h141) (Nat.le_of_ble_eq_true rfl) rfl rfl mi_X6_putSigns lk_RX9_373 ⟨Nat.le_of_ble_eq_true rfl, Nat.le_of_ble_eq_true rfl⟩ rfl rfl (Nat.le_of_ble_eq_true rfl) dX9_writeAct_180 (Nat.le_trans (Nat.le_of_eq hka) hla) (Nat.le_trans (Nat.le_of_eq hkb) hlb) hE
                · subst ea; subst eb
                  have hka := bk hka
                  have hkb := bk hkb
                  refine g_callVvA (st := []) B (cX6_putSignsc (o := .ok x140) h141) (Nat.le_of_ble_eq_true rfl) rfl rfl mi_X6_putSigns lk_RX9_373 ⟨Nat.le_of_ble_eq_true rfl, Nat.le_of_ble_eq_true rfl⟩ rfl rfl (Nat.le_of_ble_eq_true rfl) dX9_writeAct_180 (Nat.le_trans (bm hka) hla) (Nat.le_trans (bm hkb) hlb) ?_
                  refine g_iinc (v := (q20 + 1)) B 3 dX9_writeAct_183 rfl (by first | rfl | (congr 1; decide)) (Nat.le_of_ble_eq_true rfl) (s1_c (f1_k rfl (f1_k rfl (f1_1 rfl (rf_cat _) (f1_x f1_n))))) ?_
                  refine g_goto B 31 dX9_writeAct_186 (by decide) ?_
                  obtain ⟨w1, w2, w3, w4⟩ := inA h
                  clear h
                  subst w1
                  subst w2
                  subst w3
                  subst w4
                  refine g_cost (by omega) (by omega) ?_
                  exact g_sub [1, 2, 3, 0] rfl (hI25 _ rfl)
              clear h
              refine g_sub [1, 2, 3, 4, 0] rfl ?_
              have hla9 := Nat.le_trans (bj hka la) hla
              have hlb9 := Nat.le_trans (bj hkb lb) hlb
              refine lpA_w (I := fun q102 s111 ka112 kb113 => GW Δ Γ (ka112) (kb113) 132 [(0, va_rf v0), (2, va_rf x3), (3, va_rf x7), (4, .int q20), (5, .int q102)] [] s111) (r := z147) (σr := s129) (A := ka30 + a45 + a98 + a130) (B := kb31 + b46 + b99 + b131) ?_ FUEL 0 s97 _ _ _ _ h104 rfl rfl
              intro q102 s111 ka112 kb113 x109 s9 i9 j9 h hI107 hle9 hR108 er110i
              unfold fX9_writeAct_l2 at h
              have hka : ka112 + i9 = _ := rfl
              have hkb : kb113 + j9 = _ := rfl
              have hlab : ka112 + i9 ≤ ka30 + a45 + a98 + a130 ∧ kb113 + j9 ≤ kb31 + b46 + b99 + b131 := by
                rcases x109 with e | (x | x)
                · obtain ⟨-, -, e1, e2⟩ := er110i e rfl; exact ⟨Nat.le_of_eq e1, Nat.le_of_eq e2⟩
                · exact hle9 x rfl
                · obtain ⟨-, -, e1, e2⟩ := hR108 x rfl; exact ⟨Nat.le_of_eq e1, Nat.le_of_eq e2⟩
              have hla := Nat.le_trans hlab.1 hla9
              have hlb := Nat.le_trans hlab.2 hlb9
              have er110n : ∀ e, x109 = .error e → z147 = .error e ∧ s9 = s129 ∧ ka112 + i9 = ka30 + a45 + a98 + a130 ∧ kb113 + j9 = kb31 + b46 + b99 + b131 := fun e q => (fun r9 => ⟨r9.1, r9.2.1.symm, r9.2.2.1, r9.2.2.2⟩) (er110i e q)
              refine g_iload B 4 dX9_writeAct_132 rfl ?_
              refine g_aload_n B 2 dX9_writeAct_134 rfl rfl ?_
              replace h := bnP_s h
              obtain ⟨x114, h115, h⟩ := h
              refine g_getRg B fl_RX9_198 (by decide) dX9_writeAct_135 h115 ?_
              refine g_iload B 3 dX9_writeAct_138 rfl ?_
              replace h := bnP_s h
              obtain ⟨x116, h117, h⟩ := h
              refine g_iald B dX9_writeAct_140 h117 ?_
              refine g_icmp_ge B 167 dX9_writeAct_141 (by decide) (fun hc => ?_) (fun hc => ?_)
              · replace h := ifp hc h
                obtain ⟨w1, w2, w3, w4⟩ := inA h
                clear h
                subst w1
                subst w2
                subst w3
                subst w4
                obtain ⟨e8, e7, e6, e5⟩ := hR108 _ rfl
                subst e8
                subst e7
                refine g_cost (by omega) (by omega) ?_
                exact g_sub [0, 1, 2, 3] rfl (kE105 _ rfl)
              · replace h := ifn hc h
                refine g_aload_n B 0 dX9_writeAct_144 rfl rfl ?_
                replace h := bnP_s h
                obtain ⟨x118, h119, h⟩ := h
                refine g_getR B fl_RX9_55 (by decide) dX9_writeAct_145 h119 ?_
                refine g_bipush (v := 94) B dX9_writeAct_148 (by decide) ?_
                refine g_aload_n B 2 dX9_writeAct_150 rfl rfl ?_
                refine g_iload B 3 dX9_writeAct_151 rfl ?_
                refine g_iload B 4 dX9_writeAct_153 rfl ?_
                replace h := bnP_s h
                obtain ⟨x120, h121, h⟩ := h
                refine g_callVs0 (st := [.int 94, va_rf x118]) B (cX8_insertOfc h121) (Nat.le_of_ble_eq_true rfl) rfl rfl mi_X8_insertOf lk_RX9_224 ⟨Nat.le_of_ble_eq_true rfl, Nat.le_of_ble_eq_true rfl⟩ rfl rfl (Nat.le_of_ble_eq_true rfl) dX9_writeAct_155 (Nat.le_trans (bm hka) hla) (Nat.le_trans (bm hkb) hlb) ?_
                replace h := bnA_s h
                rcases h with ⟨e9, h123, e8⟩ | ⟨x122, s124, a125, b126, a127, b128, h123, h, ea, eb⟩
                · subst e8; obtain ⟨e8, e7, e6, e5⟩ := er110n _ rfl; subst e8; subst e7; obtain ⟨d8, d7, d6, d5⟩ := er110o _ rfl; subst d8; subst d7; subst d6; subst d5; obtain ⟨e8, e7, e6, e5⟩ := er28n _ rfl; subst e8; subst e7; obtain ⟨d8, d7, d6, d5⟩ := er28o _ rfl; subst d8; subst d7; subst d6; subst d5
                  exact g_callVx (st := []) B (cX6_putMarkedWordc (o := .error e9) h123) (Nat.le_of_ble_eq_true rfl) rfl rfl mi_X6_putMarkedWord lk_RX9_377 ⟨Nat.le_of_ble_eq_true rfl, Nat.le_of_ble_eq_true rfl⟩ rfl rfl (Nat.le_of_ble_eq_true rfl) dX9_writeAct_158 (Nat.le_trans (Nat.le_of_eq hka) hla) (Nat.le_trans (Nat.le_of_eq hkb) hlb) hE
                · subst ea; subst eb
                  have hka := bk hka
                  have hkb := bk hkb
                  refine g_callVvA (st := []) B (cX6_putMarkedWordc (o := .ok x122) h123) (Nat.le_of_ble_eq_true rfl) rfl rfl mi_X6_putMarkedWord lk_RX9_377 ⟨Nat.le_of_ble_eq_true rfl, Nat.le_of_ble_eq_true rfl⟩ rfl rfl (Nat.le_of_ble_eq_true rfl) dX9_writeAct_158 (Nat.le_trans (bm hka) hla) (Nat.le_trans (bm hkb) hlb) ?_
                  refine g_iinc (v := (q102 + 1)) B 4 dX9_writeAct_161 rfl (by first | rfl | (congr 1; decide)) (Nat.le_of_ble_eq_true rfl) (s1_c (f1_k rfl (f1_k rfl (f1_k rfl (f1_1 rfl rfl (f1_x f1_n)))))) ?_
                  refine g_goto B 132 dX9_writeAct_164 (by decide) ?_
                  obtain ⟨w1, w2, w3, w4⟩ := inA h
                  clear h
                  subst w1
                  subst w2
                  subst w3
                  subst w4
                  refine g_cost (by omega) (by omega) ?_
                  exact g_sub [1, 2, 3, 4, 0] rfl (hI107 _ rfl)
            clear h
            have h := h54
            clear h54
            replace hla := Nat.le_trans (bj hka la) hla
            replace hlb := Nat.le_trans (bj hkb lb) hlb
            replace hka : ka30 + a45 + a98 = _ := rfl
            replace hkb : kb31 + b46 + b99 = _ := rfl
            refine g_if_ne B 86 dX9_writeAct_70 (by decide) (fun hc => ?_) (fun hc => ?_)
            · replace h := ifp (bI1 hc) h
              refine g_aload_n B 2 dX9_writeAct_86 rfl rfl ?_
              replace h := bnP_s h
              obtain ⟨x58, h59, h⟩ := h
              refine g_getRg B fl_RX9_192 (by decide) dX9_writeAct_87 h59 ?_
              refine g_iload B 3 dX9_writeAct_90 rfl ?_
              replace h := bnP_s h
              obtain ⟨x60, h61, h⟩ := h
              refine g_zald B dX9_writeAct_92 h61 ?_
              refine g_if_eq B 115 dX9_writeAct_93 (by decide) (fun hc => ?_) (fun hc => ?_)
              · replace h := ifp hc h
                refine g_aload_n B 0 dX9_writeAct_115 rfl rfl ?_
                replace h := bnP_s h
                obtain ⟨x62, h63, h⟩ := h
                refine g_getR B fl_RX9_55 (by decide) dX9_writeAct_116 h63 ?_
                refine g_aload_n B 2 dX9_writeAct_119 rfl rfl ?_
                replace h := bnP_s h
                obtain ⟨x64, h65, h⟩ := h
                refine g_getRg B fl_RX9_202 (by decide) dX9_writeAct_120 h65 ?_
                refine g_iload B 3 dX9_writeAct_123 rfl ?_
                replace h := bnP_s h
                obtain ⟨x66, h67, h⟩ := h
                refine g_lald B dX9_writeAct_125 h67 ?_
                replace h := bnA_s h
                rcases h with ⟨e9, h69, e8⟩ | ⟨x68, s70, a71, b72, a73, b74, h69, h, ea, eb⟩
                · subst e8; obtain ⟨e8, e7, e6, e5⟩ := er57 _ rfl; subst e8; subst e7; subst e6; subst e5; obtain ⟨e8, e7, e6, e5⟩ := er28n _ rfl; subst e8; subst e7; obtain ⟨d8, d7, d6, d5⟩ := er28o _ rfl; subst d8; subst d7; subst d6; subst d5
                  exact g_callVx (st := []) B (cX6_putWordc (o := .error e9) h69) (Nat.le_of_ble_eq_true rfl) rfl rfl mi_X6_putWord lk_RX9_381 ⟨Nat.le_of_ble_eq_true rfl, Nat.le_of_ble_eq_true rfl⟩ rfl rfl (Nat.le_of_ble_eq_true rfl) dX9_writeAct_126 (Nat.le_trans (Nat.le_of_eq hka) hla) (Nat.le_trans (Nat.le_of_eq hkb) hlb) hE
                · subst ea; subst eb
                  have hka := bk hka
                  have hkb := bk hkb
                  refine g_callVvA (st := []) B (cX6_putWordc (o := .ok x68) h69) (Nat.le_of_ble_eq_true rfl) rfl rfl mi_X6_putWord lk_RX9_381 ⟨Nat.le_of_ble_eq_true rfl, Nat.le_of_ble_eq_true rfl⟩ rfl rfl (Nat.le_of_ble_eq_true rfl) dX9_writeAct_126 (Nat.le_trans (bm hka) hla) (Nat.le_trans (bm hkb) hlb) ?_
                  obtain ⟨w1, w2, w3, w4⟩ := inA h
                  clear h
                  subst w1
                  subst w2
                  subst w3
                  subst w4
                  refine g_cost hka hkb ?_
                  exact g_sub [0, 1, 2, 3] rfl (k56 _ rfl)
              · replace h := ifn hc h
                refine g_aload_n B 0 dX9_writeAct_96 rfl rfl ?_
                replace h := bnP_s h
                obtain ⟨x75, h76, h⟩ := h
                refine g_getR B fl_RX9_55 (by decide) dX9_writeAct_97 h76 ?_
                refine g_bipush (v := 45) B dX9_writeAct_100 (by decide) ?_
                refine g_aload_n B 2 dX9_writeAct_102 rfl rfl ?_
                replace h := bnP_s h
                obtain ⟨x77, h78, h⟩ := h
                refine g_getRg B fl_RX9_202 (by decide) dX9_writeAct_103 h78 ?_
                refine g_iload B 3 dX9_writeAct_106 rfl ?_
                replace h := bnP_s h
                obtain ⟨x79, h80, h⟩ := h
                refine g_lald B dX9_writeAct_108 h80 ?_
                replace h := bnA_s h
                rcases h with ⟨e9, h82, e8⟩ | ⟨x81, s83, a84, b85, a86, b87, h82, h, ea, eb⟩
                · subst e8; obtain ⟨e8, e7, e6, e5⟩ := er57 _ rfl; subst e8; subst e7; subst e6; subst e5; obtain ⟨e8, e7, e6, e5⟩ := er28n _ rfl; subst e8; subst e7; obtain ⟨d8, d7, d6, d5⟩ := er28o _ rfl; subst d8; subst d7; subst d6; subst d5
                  exact g_callVx (st := []) B (cX6_putMarkedWordc (o := .error e9) h82) (Nat.le_of_ble_eq_true rfl) rfl rfl mi_X6_putMarkedWord lk_RX9_377 ⟨Nat.le_of_ble_eq_true rfl, Nat.le_of_ble_eq_true rfl⟩ rfl rfl (Nat.le_of_ble_eq_true rfl) dX9_writeAct_109 (Nat.le_trans (Nat.le_of_eq hka) hla) (Nat.le_trans (Nat.le_of_eq hkb) hlb) hE
                · subst ea; subst eb
                  have hka := bk hka
                  have hkb := bk hkb
                  refine g_callVvA (st := []) B (cX6_putMarkedWordc (o := .ok x81) h82) (Nat.le_of_ble_eq_true rfl) rfl rfl mi_X6_putMarkedWord lk_RX9_377 ⟨Nat.le_of_ble_eq_true rfl, Nat.le_of_ble_eq_true rfl⟩ rfl rfl (Nat.le_of_ble_eq_true rfl) dX9_writeAct_109 (Nat.le_trans (bm hka) hla) (Nat.le_trans (bm hkb) hlb) ?_
                  refine g_goto B 129 dX9_writeAct_112 (by decide) ?_
                  obtain ⟨w1, w2, w3, w4⟩ := inA h
                  clear h
                  subst w1
                  subst w2
                  subst w3
                  subst w4
                  refine g_cost hka hkb ?_
                  exact g_sub [0, 1, 2, 3] rfl (k56 _ rfl)
            · replace h := ifn (bI0 hc) h
              refine g_aload_n B 0 dX9_writeAct_73 rfl rfl ?_
              replace h := bnP_s h
              obtain ⟨x88, h89, h⟩ := h
              refine g_getR B fl_RX9_55 (by decide) dX9_writeAct_74 h89 ?_
              refine g_bipush (v := 63) B dX9_writeAct_77 (by decide) ?_
              refine g_iconst (v := 1) B dX9_writeAct_79 (by decide) ?_
              replace h := bnA_s h
              rcases h with ⟨e9, h91, e8⟩ | ⟨x90, s92, a93, b94, a95, b96, h91, h, ea, eb⟩
              · subst e8; obtain ⟨e8, e7, e6, e5⟩ := er57 _ rfl; subst e8; subst e7; subst e6; subst e5; obtain ⟨e8, e7, e6, e5⟩ := er28n _ rfl; subst e8; subst e7; obtain ⟨d8, d7, d6, d5⟩ := er28o _ rfl; subst d8; subst d7; subst d6; subst d5
                exact g_callVx (st := []) B (cX6_putSignsc (o := .error e9) h91) (Nat.le_of_ble_eq_true rfl) rfl rfl mi_X6_putSigns lk_RX9_373 ⟨Nat.le_of_ble_eq_true rfl, Nat.le_of_ble_eq_true rfl⟩ rfl rfl (Nat.le_of_ble_eq_true rfl) dX9_writeAct_80 (Nat.le_trans (Nat.le_of_eq hka) hla) (Nat.le_trans (Nat.le_of_eq hkb) hlb) hE
              · subst ea; subst eb
                have hka := bk hka
                have hkb := bk hkb
                refine g_callVvA (st := []) B (cX6_putSignsc (o := .ok x90) h91) (Nat.le_of_ble_eq_true rfl) rfl rfl mi_X6_putSigns lk_RX9_373 ⟨Nat.le_of_ble_eq_true rfl, Nat.le_of_ble_eq_true rfl⟩ rfl rfl (Nat.le_of_ble_eq_true rfl) dX9_writeAct_80 (Nat.le_trans (bm hka) hla) (Nat.le_trans (bm hkb) hlb) ?_
                refine g_goto B 129 dX9_writeAct_83 (by decide) ?_
                obtain ⟨w1, w2, w3, w4⟩ := inA h
                clear h
                subst w1
                subst w2
                subst w3
                subst w4
                refine g_cost hka hkb ?_
                exact g_sub [0, 1, 2, 3] rfl (k56 _ rfl)
set_option maxRecDepth 100000 in
set_option maxHeartbeats 4000000 in
theorem cX9_writeInsertsc {l : Launch} {v0 : Option Nat} {v1 : Int32} {σ : HpT} {o : Except Nat (Unit)} {σ' : HpT} {a b : Nat} (h : fX9_writeInserts v0 v1 σ = some (o, σ', a, b)) : IsK σ v0 9 ∧ Ct l yX9_writeInserts cX9_writeInserts 3 none 8 192 [va_rf v0, .int v1] σ (oU o) σ' a b := by
  unfold fX9_writeInserts at h
  replace h := bnP_s h
  obtain ⟨u, hk, h⟩ := h
  replace hk := isK_s hk
  refine ⟨hk, ?_⟩
  refine ct_start mi_X9_writeInserts.1 rfl (al_le (al_1 (rf_cat _) (al_1 rfl al_n)) (Nat.le_of_ble_eq_true rfl)) (ag_1 (rf_cat _) (ag_1 rfl ag_n)) (fun Δ Γ B hE hnm => ?_)
  have hka : 0 + a = a := Nat.zero_add a
  have hkb : 0 + b = b := Nat.zero_add b
  have hla : a ≤ a := Nat.le_refl a
  have hlb : b ≤ b := Nat.le_refl b
  refine g_iconst (v := 0) B dX9_writeInserts_0 (by decide) ?_
  refine g_istore_n B dX9_writeInserts_1 rfl (Nat.le_of_ble_eq_true rfl) (s1_c (f1_k rfl (f1_1 rfl rfl f1_n))) ?_
  replace h := bnA_o h
  obtain ⟨z41, s36, a37, b38, h3, er9o, h, la, lb⟩ := h
  have kE4 : ∀ r2, z41 = .ok r2 → GW Δ Γ (0 + a37) (0 + b38) 43 [] [] s36 := by
    intro r2 ej
    replace h := h _ ej
    obtain ⟨a39, b40, h, ea, eb⟩ := h
    subst ea; subst eb
    have hka := bk hka
    have hkb := bk hkb
    obtain ⟨w1, w2, w3, w4⟩ := inA h
    clear h
    subst w1
    subst w2
    subst w3
    subst w4
    exact g_vret B hE (Nat.le_trans (Nat.le_of_eq hka) hla) (Nat.le_trans (Nat.le_of_eq hkb) hlb) dX9_writeInserts_43
  clear h
  refine g_sub [1, 2, 0] rfl ?_
  have hla9 := Nat.le_trans (bj hka la) hla
  have hlb9 := Nat.le_trans (bj hkb lb) hlb
  refine lpA_w (I := fun q1 s10 ka11 kb12 => GW Δ Γ (ka11) (kb12) 2 [(0, va_rf v0), (1, .int v1), (2, .int q1)] [] s10) (r := z41) (σr := s36) (A := 0 + a37) (B := 0 + b38) ?_ FUEL 0 σ _ _ _ _ h3 rfl rfl
  intro q1 s10 ka11 kb12 x8 s9 i9 j9 h hI6 hle9 hR7 er9i
  unfold fX9_writeInserts_l1 at h
  have hka : ka11 + i9 = _ := rfl
  have hkb : kb12 + j9 = _ := rfl
  have hlab : ka11 + i9 ≤ 0 + a37 ∧ kb12 + j9 ≤ 0 + b38 := by
    rcases x8 with e | (x | x)
    · obtain ⟨-, -, e1, e2⟩ := er9i e rfl; exact ⟨Nat.le_of_eq e1, Nat.le_of_eq e2⟩
    · exact hle9 x rfl
    · obtain ⟨-, -, e1, e2⟩ := hR7 x rfl; exact ⟨Nat.le_of_eq e1, Nat.le_of_eq e2⟩
  have hla := Nat.le_trans hlab.1 hla9
  have hlb := Nat.le_trans hlab.2 hlb9
  have er9n : ∀ e, x8 = .error e → z41 = .error e ∧ s9 = s36 ∧ ka11 + i9 = 0 + a37 ∧ kb12 + j9 = 0 + b38 := fun e q => (fun r9 => ⟨r9.1, r9.2.1.symm, r9.2.2.1, r9.2.2.2⟩) (er9i e q)
  refine g_iload_n B 2 dX9_writeInserts_2 rfl rfl ?_
  refine g_aload_n B 0 dX9_writeInserts_3 rfl rfl ?_
  replace h := bnP_s h
  obtain ⟨x13, h14, h⟩ := h
  refine g_getR B fl_RX9_20 (by decide) dX9_writeInserts_4 h14 ?_
  replace h := bnP_s h
  obtain ⟨x15, h16, h⟩ := h
  refine g_getRg B fl_RX9_114 (by decide) dX9_writeInserts_7 h16 ?_
  replace h := bnP_s h
  obtain ⟨x17, h18, h⟩ := h
  refine g_getRg B fl_RX9_198 (by decide) dX9_writeInserts_10 h18 ?_
  refine g_iload_n B 1 dX9_writeInserts_13 rfl rfl ?_
  replace h := bnP_s h
  obtain ⟨x19, h20, h⟩ := h
  refine g_iald B dX9_writeInserts_14 h20 ?_
  refine g_icmp_ge B 43 dX9_writeInserts_15 (by decide) (fun hc => ?_) (fun hc => ?_)
  · replace h := ifp hc h
    obtain ⟨w1, w2, w3, w4⟩ := inA h
    clear h
    subst w1
    subst w2
    subst w3
    subst w4
    obtain ⟨e8, e7, e6, e5⟩ := hR7 _ rfl
    subst e8
    subst e7
    refine g_cost (by omega) (by omega) ?_
    exact g_sub [] rfl (kE4 _ rfl)
  · replace h := ifn hc h
    refine g_aload_n B 0 dX9_writeInserts_18 rfl rfl ?_
    replace h := bnP_s h
    obtain ⟨x21, h22, h⟩ := h
    refine g_getR B fl_RX9_55 (by decide) dX9_writeInserts_19 h22 ?_
    refine g_aload_n B 0 dX9_writeInserts_22 rfl rfl ?_
    replace h := bnP_s h
    obtain ⟨x23, h24, h⟩ := h
    refine g_getR B fl_RX9_20 (by decide) dX9_writeInserts_23 h24 ?_
    replace h := bnP_s h
    obtain ⟨x25, h26, h⟩ := h
    refine g_getRg B fl_RX9_114 (by decide) dX9_writeInserts_26 h26 ?_
    refine g_iload_n B 1 dX9_writeInserts_29 rfl rfl ?_
    refine g_iload_n B 2 dX9_writeInserts_30 rfl rfl ?_
    replace h := bnP_s h
    obtain ⟨x27, h28, h⟩ := h
    refine g_callVs0 (st := [va_rf x21]) B (cX8_insertOfc h28) (Nat.le_of_ble_eq_true rfl) rfl rfl mi_X8_insertOf lk_RX9_224 ⟨Nat.le_of_ble_eq_true rfl, Nat.le_of_ble_eq_true rfl⟩ rfl rfl (Nat.le_of_ble_eq_true rfl) dX9_writeInserts_31 (Nat.le_trans (bm hka) hla) (Nat.le_trans (bm hkb) hlb) ?_
    replace h := bnA_s h
    rcases h with ⟨e9, h30, e8⟩ | ⟨x29, s31, a32, b33, a34, b35, h30, h, ea, eb⟩
    · subst e8; obtain ⟨e8, e7, e6, e5⟩ := er9n _ rfl; subst e8; subst e7; obtain ⟨d8, d7, d6, d5⟩ := er9o _ rfl; subst d8; subst d7; subst d6; subst d5
      exact g_callVx (st := []) B (cX6_putWordc (o := .error e9) h30) (Nat.le_of_ble_eq_true rfl) rfl rfl mi_X6_putWord lk_RX9_381 ⟨Nat.le_of_ble_eq_true rfl, Nat.le_of_ble_eq_true rfl⟩ rfl rfl (Nat.le_of_ble_eq_true rfl) dX9_writeInserts_34 (Nat.le_trans (Nat.le_of_eq hka) hla) (Nat.le_trans (Nat.le_of_eq hkb) hlb) hE
    · subst ea; subst eb
      have hka := bk hka
      have hkb := bk hkb
      refine g_callVvA (st := []) B (cX6_putWordc (o := .ok x29) h30) (Nat.le_of_ble_eq_true rfl) rfl rfl mi_X6_putWord lk_RX9_381 ⟨Nat.le_of_ble_eq_true rfl, Nat.le_of_ble_eq_true rfl⟩ rfl rfl (Nat.le_of_ble_eq_true rfl) dX9_writeInserts_34 (Nat.le_trans (bm hka) hla) (Nat.le_trans (bm hkb) hlb) ?_
      refine g_iinc (v := (q1 + 1)) B 2 dX9_writeInserts_37 rfl (by first | rfl | (congr 1; decide)) (Nat.le_of_ble_eq_true rfl) (s1_c (f1_k rfl (f1_1 rfl rfl (f1_x f1_n)))) ?_
      refine g_goto B 2 dX9_writeInserts_40 (by decide) ?_
      obtain ⟨w1, w2, w3, w4⟩ := inA h
      clear h
      subst w1
      subst w2
      subst w3
      subst w4
      refine g_cost (by omega) (by omega) ?_
      exact g_sub [1, 2, 0] rfl (hI6 _ rfl)
set_option maxRecDepth 100000 in
set_option maxHeartbeats 4000000 in
theorem cX9_endOfWordsc {l : Launch} {v0 : Option Nat} {σ : HpT} {o : Except Nat (Int32)} {σ' : HpT} {a b : Nat} (h : fX9_endOfWords v0 σ = some (o, σ', a, b)) : IsK σ v0 9 ∧ Ct l yX9_endOfWords cX9_endOfWords 1 (some .int) 8 189 [va_rf v0] σ (oI o) σ' a b := by
  unfold fX9_endOfWords at h
  replace h := bnP_s h
  obtain ⟨u, hk, h⟩ := h
  replace hk := isK_s hk
  refine ⟨hk, ?_⟩
  refine ct_start mi_X9_endOfWords.1 rfl (al_le (al_1 (rf_cat _) al_n) (Nat.le_of_ble_eq_true rfl)) (ag_1 (rf_cat _) ag_n) (fun Δ Γ B hE hnm => ?_)
  have hka : 0 + a = a := Nat.zero_add a
  have hkb : 0 + b = b := Nat.zero_add b
  have hla : a ≤ a := Nat.le_refl a
  have hlb : b ≤ b := Nat.le_refl b
  refine g_aload_n B 0 dX9_endOfWords_0 rfl rfl ?_
  replace h := bnP_s h
  obtain ⟨x1, h2, h⟩ := h
  refine g_getR B fl_RX9_55 (by decide) dX9_endOfWords_1 h2 ?_
  replace h := bnP_s h
  obtain ⟨x3, h4, h⟩ := h
  refine g_getRg B fl_RX9_388 (by decide) dX9_endOfWords_4 h4 ?_
  replace h := bnP_s h
  obtain ⟨x5, h6, h⟩ := h
  refine g_callVs0 (st := []) B (cJ4_length_8abf5c h6) (Nat.le_of_ble_eq_true rfl) rfl rfl mi_J4_length_8abf5 lk_RX9_392 ⟨Nat.le_of_ble_eq_true rfl, Nat.le_of_ble_eq_true rfl⟩ rfl rfl (Nat.le_of_ble_eq_true rfl) dX9_endOfWords_7 (Nat.le_trans (bm hka) hla) (Nat.le_trans (bm hkb) hlb) ?_
  replace h := bnA_o h
  obtain ⟨z32, s21, a22, b23, h8, er11, h, la, lb⟩ := h
  have k10 : ∀ j7, z32 = .ok j7 → GW Δ Γ (0 + a22) (0 + b23) 23 [(0, va_rf v0)] [] s21 := by
    intro j7 ej
    replace h := h _ ej
    obtain ⟨a24, b25, h, ea, eb⟩ := h
    subst ea; subst eb
    have hka := bk hka
    have hkb := bk hkb
    refine g_aload_n B 0 dX9_endOfWords_23 rfl rfl ?_
    replace h := bnP_s h
    obtain ⟨x26, h27, h⟩ := h
    refine g_getR B fl_RX9_55 (by decide) dX9_endOfWords_24 h27 ?_
    replace h := bnP_s h
    obtain ⟨x28, h29, h⟩ := h
    refine g_getRg B fl_RX9_388 (by decide) dX9_endOfWords_27 h29 ?_
    replace h := bnP_s h
    obtain ⟨x30, h31, h⟩ := h
    refine g_callVs0 (st := []) B (cJ4_length_8abf5c h31) (Nat.le_of_ble_eq_true rfl) rfl rfl mi_J4_length_8abf5 lk_RX9_392 ⟨Nat.le_of_ble_eq_true rfl, Nat.le_of_ble_eq_true rfl⟩ rfl rfl (Nat.le_of_ble_eq_true rfl) dX9_endOfWords_30 (Nat.le_trans (bm hka) hla) (Nat.le_trans (bm hkb) hlb) ?_
    obtain ⟨w1, w2, w3, w4⟩ := inA h
    clear h
    subst w1
    subst w2
    subst w3
    subst w4
    exact g_iret B hE (Nat.le_trans (Nat.le_of_eq hka) hla) (Nat.le_trans (Nat.le_of_eq hkb) hlb) dX9_endOfWords_33
  clear h
  have h := h8
  clear h8
  replace hla := Nat.le_trans (bj hka la) hla
  replace hlb := Nat.le_trans (bj hkb lb) hlb
  replace hka : 0 + a22 = _ := rfl
  replace hkb : 0 + b23 = _ := rfl
  refine g_if_ne B 23 dX9_endOfWords_10 (by decide) (fun hc => ?_) (fun hc => ?_)
  · replace h := ifn hc h
    obtain ⟨w1, w2, w3, w4⟩ := inA h
    clear h
    subst w1
    subst w2
    subst w3
    subst w4
    refine g_cost hka hkb ?_
    exact g_sub [0] rfl (k10 _ rfl)
  · replace h := ifp hc h
    refine g_aload_n B 0 dX9_endOfWords_13 rfl rfl ?_
    replace h := bnP_s h
    obtain ⟨x12, h13, h⟩ := h
    refine g_getR B fl_RX9_55 (by decide) dX9_endOfWords_14 h13 ?_
    refine g_bipush (v := 46) B dX9_endOfWords_17 (by decide) ?_
    refine g_iconst (v := 1) B dX9_endOfWords_19 (by decide) ?_
    replace h := bnA_s h
    rcases h with ⟨e9, h15, e8⟩ | ⟨x14, s16, a17, b18, a19, b20, h15, h, ea, eb⟩
    · subst e8; obtain ⟨e8, e7, e6, e5⟩ := er11 _ rfl; subst e8; subst e7; subst e6; subst e5
      exact g_callVx (st := []) B (cX6_putSignsc (o := .error e9) h15) (Nat.le_of_ble_eq_true rfl) rfl rfl mi_X6_putSigns lk_RX9_373 ⟨Nat.le_of_ble_eq_true rfl, Nat.le_of_ble_eq_true rfl⟩ rfl rfl (Nat.le_of_ble_eq_true rfl) dX9_endOfWords_20 (Nat.le_trans (Nat.le_of_eq hka) hla) (Nat.le_trans (Nat.le_of_eq hkb) hlb) hE
    · subst ea; subst eb
      have hka := bk hka
      have hkb := bk hkb
      refine g_callVvA (st := []) B (cX6_putSignsc (o := .ok x14) h15) (Nat.le_of_ble_eq_true rfl) rfl rfl mi_X6_putSigns lk_RX9_373 ⟨Nat.le_of_ble_eq_true rfl, Nat.le_of_ble_eq_true rfl⟩ rfl rfl (Nat.le_of_ble_eq_true rfl) dX9_endOfWords_20 (Nat.le_trans (bm hka) hla) (Nat.le_trans (bm hkb) hlb) ?_
      obtain ⟨w1, w2, w3, w4⟩ := inA h
      clear h
      subst w1
      subst w2
      subst w3
      subst w4
      refine g_cost hka hkb ?_
      exact g_sub [0] rfl (k10 _ rfl)
set_option maxRecDepth 100000 in
set_option maxHeartbeats 4000000 in
theorem cX9_writeStandingc {l : Launch} {v0 : Option Nat} {v1 : Int32} {σ : HpT} {o : Except Nat (Int32)} {σ' : HpT} {a b : Nat} (h : fX9_writeStanding v0 v1 σ = some (o, σ', a, b)) : IsK σ v0 9 ∧ Ct l yX9_writeStanding cX9_writeStanding 5 (some .int) 9 214 [va_rf v0, .int v1] σ (oI o) σ' a b := by
  unfold fX9_writeStanding at h
  replace h := bnP_s h
  obtain ⟨u, hk, h⟩ := h
  replace hk := isK_s hk
  refine ⟨hk, ?_⟩
  refine ct_start mi_X9_writeStanding.1 rfl (al_le (al_1 (rf_cat _) (al_1 rfl al_n)) (Nat.le_of_ble_eq_true rfl)) (ag_1 (rf_cat _) (ag_1 rfl ag_n)) (fun Δ Γ B hE hnm => ?_)
  have hka : 0 + a = a := Nat.zero_add a
  have hkb : 0 + b = b := Nat.zero_add b
  have hla : a ≤ a := Nat.le_refl a
  have hlb : b ≤ b := Nat.le_refl b
  refine g_aload_n B 0 dX9_writeStanding_0 rfl rfl ?_
  replace h := bnXA_s h
  rcases h with ⟨e9, h2, e8, e7, e6, e5⟩ | ⟨x1, h2, h⟩
  · subst e8; subst e7; subst e6; subst e5
    exact g_callVx (st := []) B (cX9_requireBookc (o := .error e9) h2) (Nat.le_of_ble_eq_true rfl) rfl rfl mi_X9_requireBook lk_RX9_95 ⟨Nat.le_of_ble_eq_true rfl, Nat.le_of_ble_eq_true rfl⟩ rfl rfl (Nat.le_of_ble_eq_true rfl) dX9_writeStanding_1 (Nat.le_trans (Nat.le_of_eq hka) hla) (Nat.le_trans (Nat.le_of_eq hkb) hlb) hE
  · skip
    refine g_callVv0 (st := []) B (cX9_requireBookc (o := .ok x1) h2) (Nat.le_of_ble_eq_true rfl) rfl rfl mi_X9_requireBook lk_RX9_95 ⟨Nat.le_of_ble_eq_true rfl, Nat.le_of_ble_eq_true rfl⟩ rfl rfl (Nat.le_of_ble_eq_true rfl) dX9_writeStanding_1 (Nat.le_trans (bm hka) hla) (Nat.le_trans (bm hkb) hlb) ?_
    refine g_aload_n B 0 dX9_writeStanding_4 rfl rfl ?_
    refine g_iload_n B 1 dX9_writeStanding_5 rfl rfl ?_
    replace h := bnXA_s h
    rcases h with ⟨e9, h4, e8, e7, e6, e5⟩ | ⟨x3, h4, h⟩
    · subst e8; subst e7; subst e6; subst e5
      exact g_callVx (st := []) B (cX9_requireActc (o := .error e9) h4) (Nat.le_of_ble_eq_true rfl) rfl rfl mi_X9_requireAct lk_RX9_153 ⟨Nat.le_of_ble_eq_true rfl, Nat.le_of_ble_eq_true rfl⟩ rfl rfl (Nat.le_of_ble_eq_true rfl) dX9_writeStanding_6 (Nat.le_trans (Nat.le_of_eq hka) hla) (Nat.le_trans (Nat.le_of_eq hkb) hlb) hE
    · skip
      refine g_callVs0 (st := []) B (cX9_requireActc (o := .ok x3) h4) (Nat.le_of_ble_eq_true rfl) rfl rfl mi_X9_requireAct lk_RX9_153 ⟨Nat.le_of_ble_eq_true rfl, Nat.le_of_ble_eq_true rfl⟩ rfl rfl (Nat.le_of_ble_eq_true rfl) dX9_writeStanding_6 (Nat.le_trans (bm hka) hla) (Nat.le_trans (bm hkb) hlb) ?_
      refine g_astore_n B dX9_writeStanding_9 rfl (Nat.le_of_ble_eq_true rfl) (s1_c (f1_k rfl (f1_1 rfl rfl f1_n))) ?_
      refine g_aload_n B 1 dX9_writeStanding_10 rfl rfl ?_
      replace h := bnP_s h
      obtain ⟨x5, h6, h⟩ := h
      refine g_getR B fl_RX9_20 (by decide) dX9_writeStanding_11 h6 ?_
      replace h := bnP_s h
      obtain ⟨x7, h8, h⟩ := h
      refine g_getRg B fl_RX9_114 (by decide) dX9_writeStanding_14 h8 ?_
      refine g_astore_n B dX9_writeStanding_17 rfl (Nat.le_of_ble_eq_true rfl) (s1_c (f1_1 rfl (rf_cat _) (f1_k rfl (f1_k rfl f1_n)))) ?_
      refine g_aload_n B 2 dX9_writeStanding_18 rfl rfl ?_
      replace h := bnP_s h
      obtain ⟨x9, h10, h⟩ := h
      refine g_getR B fl_RX9_55 (by decide) dX9_writeStanding_19 h10 ?_
      replace h := bnA_s h
      rcases h with ⟨e9, h12, e8⟩ | ⟨x11, s13, a14, b15, a16, b17, h12, h, ea, eb⟩
      · subst e8
        exact g_callVx (st := []) B (cX6_startTextc (o := .error e9) h12) (Nat.le_of_ble_eq_true rfl) rfl rfl mi_X6_startText lk_RX9_367 ⟨Nat.le_of_ble_eq_true rfl, Nat.le_of_ble_eq_true rfl⟩ rfl rfl (Nat.le_of_ble_eq_true rfl) dX9_writeStanding_22 (Nat.le_trans (Nat.le_of_eq hka) hla) (Nat.le_trans (Nat.le_of_eq hkb) hlb) hE
      · subst ea; subst eb
        have hka := bk hka
        have hkb := bk hkb
        refine g_callVvA (st := []) B (cX6_startTextc (o := .ok x11) h12) (Nat.le_of_ble_eq_true rfl) rfl rfl mi_X6_startText lk_RX9_367 ⟨Nat.le_of_ble_eq_true rfl, Nat.le_of_ble_eq_true rfl⟩ rfl rfl (Nat.le_of_ble_eq_true rfl) dX9_writeStanding_22 (Nat.le_trans (bm hka) hla) (Nat.le_trans (bm hkb) hlb) ?_
        refine g_aload_n B 1 dX9_writeStanding_25 rfl rfl ?_
        replace h := bnP_s h
        obtain ⟨x18, h19, h⟩ := h
        refine g_getI B fl_RX9_170 (by decide) dX9_writeStanding_26 h19 ?_
        refine g_istore B dX9_writeStanding_29 (Nat.le_of_ble_eq_true rfl) (s1_c (f1_1 rfl (rf_cat _) (f1_k rfl (f1_k rfl (f1_k rfl f1_n))))) ?_
        replace h := bnA_o h
        obtain ⟨z113, s101, a102, b103, h22, er28o, h, la, lb⟩ := h
        have kE23 : ∀ r21, z113 = .ok r21 → GW Δ Γ (0 + a14 + a102) (0 + b15 + b103) 116 [(0, va_rf v0)] [] s101 := by
          intro r21 ej
          replace h := h _ ej
          obtain ⟨a104, b105, h, ea, eb⟩ := h
          subst ea; subst eb
          have hka := bk hka
          have hkb := bk hkb
          refine g_aload_n B 0 dX9_writeStanding_116 rfl rfl ?_
          replace h := bnA_s h
          rcases h with ⟨e9, h107, e8⟩ | ⟨x106, s108, a109, b110, a111, b112, h107, h, ea, eb⟩
          · subst e8
            exact g_callVx (st := []) B (cX9_endOfWordsc (o := .error e9) h107) (Nat.le_of_ble_eq_true rfl) rfl rfl mi_X9_endOfWords lk_RX9_400 ⟨Nat.le_of_ble_eq_true rfl, Nat.le_of_ble_eq_true rfl⟩ rfl rfl (Nat.le_of_ble_eq_true rfl) dX9_writeStanding_117 (Nat.le_trans (Nat.le_of_eq hka) hla) (Nat.le_trans (Nat.le_of_eq hkb) hlb) hE
          · subst ea; subst eb
            have hka := bk hka
            have hkb := bk hkb
            refine g_callVsA (st := []) B (cX9_endOfWordsc (o := .ok x106) h107) (Nat.le_of_ble_eq_true rfl) rfl rfl mi_X9_endOfWords lk_RX9_400 ⟨Nat.le_of_ble_eq_true rfl, Nat.le_of_ble_eq_true rfl⟩ rfl rfl (Nat.le_of_ble_eq_true rfl) dX9_writeStanding_117 (Nat.le_trans (bm hka) hla) (Nat.le_trans (bm hkb) hlb) ?_
            obtain ⟨w1, w2, w3, w4⟩ := inA h
            clear h
            subst w1
            subst w2
            subst w3
            subst w4
            exact g_iret B hE (Nat.le_trans (Nat.le_of_eq hka) hla) (Nat.le_trans (Nat.le_of_eq hkb) hlb) dX9_writeStanding_120
        clear h
        refine g_sub [3, 2, 1, 0] rfl ?_
        have hla9 := Nat.le_trans (bj hka la) hla
        have hlb9 := Nat.le_trans (bj hkb lb) hlb
        refine lpA_w (I := fun q20 s29 ka30 kb31 => GW Δ Γ (ka30) (kb31) 31 [(0, va_rf v0), (2, va_rf x3), (3, va_rf x7), (4, .int q20)] [] s29) (r := z113) (σr := s101) (A := 0 + a14 + a102) (B := 0 + b15 + b103) ?_ FUEL x18 s13 _ _ _ _ h22 rfl rfl
        intro q20 s29 ka30 kb31 x27 s9 i9 j9 h hI25 hle9 hR26 er28i
        unfold fX9_writeStanding_l1 at h
        have hka : ka30 + i9 = _ := rfl
        have hkb : kb31 + j9 = _ := rfl
        have hlab : ka30 + i9 ≤ 0 + a14 + a102 ∧ kb31 + j9 ≤ 0 + b15 + b103 := by
          rcases x27 with e | (x | x)
          · obtain ⟨-, -, e1, e2⟩ := er28i e rfl; exact ⟨Nat.le_of_eq e1, Nat.le_of_eq e2⟩
          · exact hle9 x rfl
          · obtain ⟨-, -, e1, e2⟩ := hR26 x rfl; exact ⟨Nat.le_of_eq e1, Nat.le_of_eq e2⟩
        have hla := Nat.le_trans hlab.1 hla9
        have hlb := Nat.le_trans hlab.2 hlb9
        have er28n : ∀ e, x27 = .error e → z113 = .error e ∧ s9 = s101 ∧ ka30 + i9 = 0 + a14 + a102 ∧ kb31 + j9 = 0 + b15 + b103 := fun e q => (fun r9 => ⟨r9.1, r9.2.1.symm, r9.2.2.1, r9.2.2.2⟩) (er28i e q)
        refine g_iload B 3 dX9_writeStanding_31 rfl ?_
        refine g_aload_n B 1 dX9_writeStanding_33 rfl rfl ?_
        replace h := bnP_s h
        obtain ⟨x32, h33, h⟩ := h
        refine g_getI B fl_RX9_170 (by decide) dX9_writeStanding_34 h33 ?_
        refine g_aload_n B 1 dX9_writeStanding_37 rfl rfl ?_
        replace h := bnP_s h
        obtain ⟨x34, h35, h⟩ := h
        refine g_getI B fl_RX9_169 (by decide) dX9_writeStanding_38 h35 ?_
        refine g_iadd B dX9_writeStanding_41 ?_
        refine g_icmp_ge B 116 dX9_writeStanding_42 (by decide) (fun hc => ?_) (fun hc => ?_)
        · replace h := ifp hc h
          obtain ⟨w1, w2, w3, w4⟩ := inA h
          clear h
          subst w1
          subst w2
          subst w3
          subst w4
          obtain ⟨e8, e7, e6, e5⟩ := hR26 _ rfl
          subst e8
          subst e7
          refine g_cost (by omega) (by omega) ?_
          exact g_sub [0] rfl (kE23 _ rfl)
        · replace h := ifn hc h
          refine g_aload_n B 2 dX9_writeStanding_45 rfl rfl ?_
          replace h := bnP_s h
          obtain ⟨x36, h37, h⟩ := h
          refine g_getRg B fl_RX9_192 (by decide) dX9_writeStanding_46 h37 ?_
          refine g_iload B 3 dX9_writeStanding_49 rfl ?_
          replace h := bnP_s h
          obtain ⟨x38, h39, h⟩ := h
          refine g_zald B dX9_writeStanding_51 h39 ?_
          replace h := bnA_o h
          obtain ⟨z100, s88, a89, b90, h41, er44, h, la, lb⟩ := h
          have k43 : ∀ j40, z100 = .ok j40 → GW Δ Γ (ka30 + a89) (kb31 + b90) 104 [(0, va_rf v0), (2, va_rf x3), (3, va_rf x7), (4, .int q20)] [] s88 := by
            intro j40 ej
            replace h := h _ ej
            obtain ⟨a91, b92, h, ea, eb⟩ := h
            subst ea; subst eb
            have hka := bk hka
            have hkb := bk hkb
            refine g_aload_n B 0 dX9_writeStanding_104 rfl rfl ?_
            refine g_iload B 3 dX9_writeStanding_105 rfl ?_
            replace h := bnA_s h
            rcases h with ⟨e9, h94, e8⟩ | ⟨x93, s95, a96, b97, a98, b99, h94, h, ea, eb⟩
            · subst e8; obtain ⟨e8, e7, e6, e5⟩ := er28n _ rfl; subst e8; subst e7; obtain ⟨d8, d7, d6, d5⟩ := er28o _ rfl; subst d8; subst d7; subst d6; subst d5
              exact g_callVx (st := []) B (cX9_writeInsertsc (o := .error e9) h94) (Nat.le_of_ble_eq_true rfl) rfl rfl mi_X9_writeInserts lk_RX9_397 ⟨Nat.le_of_ble_eq_true rfl, Nat.le_of_ble_eq_true rfl⟩ rfl rfl (Nat.le_of_ble_eq_true rfl) dX9_writeStanding_107 (Nat.le_trans (Nat.le_of_eq hka) hla) (Nat.le_trans (Nat.le_of_eq hkb) hlb) hE
            · subst ea; subst eb
              have hka := bk hka
              have hkb := bk hkb
              refine g_callVvA (st := []) B (cX9_writeInsertsc (o := .ok x93) h94) (Nat.le_of_ble_eq_true rfl) rfl rfl mi_X9_writeInserts lk_RX9_397 ⟨Nat.le_of_ble_eq_true rfl, Nat.le_of_ble_eq_true rfl⟩ rfl rfl (Nat.le_of_ble_eq_true rfl) dX9_writeStanding_107 (Nat.le_trans (bm hka) hla) (Nat.le_trans (bm hkb) hlb) ?_
              refine g_iinc (v := (q20 + 1)) B 3 dX9_writeStanding_110 rfl (by first | rfl | (congr 1; decide)) (Nat.le_of_ble_eq_true rfl) (s1_c (f1_k rfl (f1_k rfl (f1_1 rfl (rf_cat _) (f1_x f1_n))))) ?_
              refine g_goto B 31 dX9_writeStanding_113 (by decide) ?_
              obtain ⟨w1, w2, w3, w4⟩ := inA h
              clear h
              subst w1
              subst w2
              subst w3
              subst w4
              refine g_cost (by omega) (by omega) ?_
              exact g_sub [1, 2, 3, 0] rfl (hI25 _ rfl)
          clear h
          have h := h41
          clear h41
          replace hla := Nat.le_trans (bj hka la) hla
          replace hlb := Nat.le_trans (bj hkb lb) hlb
          replace hka : ka30 + a89 = _ := rfl
          replace hkb : kb31 + b90 = _ := rfl
          refine g_if_ne B 84 dX9_writeStanding_52 (by decide) (fun hc => ?_) (fun hc => ?_)
          · replace h := ifn hc h
            refine g_aload_n B 2 dX9_writeStanding_84 rfl rfl ?_
            replace h := bnP_s h
            obtain ⟨x45, h46, h⟩ := h
            refine g_getRg B fl_RX9_192 (by decide) dX9_writeStanding_85 h46 ?_
            refine g_iload B 3 dX9_writeStanding_88 rfl ?_
            replace h := bnP_s h
            obtain ⟨x47, h48, h⟩ := h
            refine g_zald B dX9_writeStanding_90 h48 ?_
            refine g_if_ne B 104 dX9_writeStanding_91 (by decide) (fun hc => ?_) (fun hc => ?_)
            · replace h := ifn hc h
              obtain ⟨w1, w2, w3, w4⟩ := inA h
              clear h
              subst w1
              subst w2
              subst w3
              subst w4
              refine g_cost hka hkb ?_
              exact g_sub [0, 1, 2, 3] rfl (k43 _ rfl)
            · replace h := ifp hc h
              refine g_aload_n B 0 dX9_writeStanding_94 rfl rfl ?_
              replace h := bnP_s h
              obtain ⟨x49, h50, h⟩ := h
              refine g_getR B fl_RX9_55 (by decide) dX9_writeStanding_95 h50 ?_
              refine g_bipush (v := 63) B dX9_writeStanding_98 (by decide) ?_
              refine g_iconst (v := 1) B dX9_writeStanding_100 (by decide) ?_
              replace h := bnA_s h
              rcases h with ⟨e9, h52, e8⟩ | ⟨x51, s53, a54, b55, a56, b57, h52, h, ea, eb⟩
              · subst e8; obtain ⟨e8, e7, e6, e5⟩ := er44 _ rfl; subst e8; subst e7; subst e6; subst e5; obtain ⟨e8, e7, e6, e5⟩ := er28n _ rfl; subst e8; subst e7; obtain ⟨d8, d7, d6, d5⟩ := er28o _ rfl; subst d8; subst d7; subst d6; subst d5
                exact g_callVx (st := []) B (cX6_putSignsc (o := .error e9) h52) (Nat.le_of_ble_eq_true rfl) rfl rfl mi_X6_putSigns lk_RX9_373 ⟨Nat.le_of_ble_eq_true rfl, Nat.le_of_ble_eq_true rfl⟩ rfl rfl (Nat.le_of_ble_eq_true rfl) dX9_writeStanding_101 (Nat.le_trans (Nat.le_of_eq hka) hla) (Nat.le_trans (Nat.le_of_eq hkb) hlb) hE
              · subst ea; subst eb
                have hka := bk hka
                have hkb := bk hkb
                refine g_callVvA (st := []) B (cX6_putSignsc (o := .ok x51) h52) (Nat.le_of_ble_eq_true rfl) rfl rfl mi_X6_putSigns lk_RX9_373 ⟨Nat.le_of_ble_eq_true rfl, Nat.le_of_ble_eq_true rfl⟩ rfl rfl (Nat.le_of_ble_eq_true rfl) dX9_writeStanding_101 (Nat.le_trans (bm hka) hla) (Nat.le_trans (bm hkb) hlb) ?_
                obtain ⟨w1, w2, w3, w4⟩ := inA h
                clear h
                subst w1
                subst w2
                subst w3
                subst w4
                refine g_cost hka hkb ?_
                exact g_sub [0, 1, 2, 3] rfl (k43 _ rfl)
          · replace h := ifp hc h
            refine g_aload_n B 0 dX9_writeStanding_55 rfl rfl ?_
            replace h := bnP_s h
            obtain ⟨x58, h59, h⟩ := h
            refine g_getR B fl_RX9_20 (by decide) dX9_writeStanding_56 h59 ?_
            refine g_iload B 3 dX9_writeStanding_59 rfl ?_
            replace h := bnP_s h
            obtain ⟨x60, h61, h⟩ := h
            refine g_callVs0 (st := []) B (cX1_isKnownc h61) (Nat.le_of_ble_eq_true rfl) rfl rfl mi_X1_isKnown lk_RX9_210 ⟨Nat.le_of_ble_eq_true rfl, Nat.le_of_ble_eq_true rfl⟩ rfl rfl (Nat.le_of_ble_eq_true rfl) dX9_writeStanding_61 (Nat.le_trans (bm hka) hla) (Nat.le_trans (bm hkb) hlb) ?_
            refine g_if_eq B 84 dX9_writeStanding_64 (by decide) (fun hc => ?_) (fun hc => ?_)
            · replace h := ifn (bI0 hc) h
              refine g_aload_n B 2 dX9_writeStanding_84 rfl rfl ?_
              replace h := bnP_s h
              obtain ⟨x62, h63, h⟩ := h
              refine g_getRg B fl_RX9_192 (by decide) dX9_writeStanding_85 h63 ?_
              refine g_iload B 3 dX9_writeStanding_88 rfl ?_
              replace h := bnP_s h
              obtain ⟨x64, h65, h⟩ := h
              refine g_zald B dX9_writeStanding_90 h65 ?_
              refine g_if_ne B 104 dX9_writeStanding_91 (by decide) (fun hc => ?_) (fun hc => ?_)
              · replace h := ifn hc h
                obtain ⟨w1, w2, w3, w4⟩ := inA h
                clear h
                subst w1
                subst w2
                subst w3
                subst w4
                refine g_cost hka hkb ?_
                exact g_sub [0, 1, 2, 3] rfl (k43 _ rfl)
              · replace h := ifp hc h
                refine g_aload_n B 0 dX9_writeStanding_94 rfl rfl ?_
                replace h := bnP_s h
                obtain ⟨x66, h67, h⟩ := h
                refine g_getR B fl_RX9_55 (by decide) dX9_writeStanding_95 h67 ?_
                refine g_bipush (v := 63) B dX9_writeStanding_98 (by decide) ?_
                refine g_iconst (v := 1) B dX9_writeStanding_100 (by decide) ?_
                replace h := bnA_s h
                rcases h with ⟨e9, h69, e8⟩ | ⟨x68, s70, a71, b72, a73, b74, h69, h, ea, eb⟩
                · subst e8; obtain ⟨e8, e7, e6, e5⟩ := er44 _ rfl; subst e8; subst e7; subst e6; subst e5; obtain ⟨e8, e7, e6, e5⟩ := er28n _ rfl; subst e8; subst e7; obtain ⟨d8, d7, d6, d5⟩ := er28o _ rfl; subst d8; subst d7; subst d6; subst d5
                  exact g_callVx (st := []) B (cX6_putSignsc (o := .error e9) h69) (Nat.le_of_ble_eq_true rfl) rfl rfl mi_X6_putSigns lk_RX9_373 ⟨Nat.le_of_ble_eq_true rfl, Nat.le_of_ble_eq_true rfl⟩ rfl rfl (Nat.le_of_ble_eq_true rfl) dX9_writeStanding_101 (Nat.le_trans (Nat.le_of_eq hka) hla) (Nat.le_trans (Nat.le_of_eq hkb) hlb) hE
                · subst ea; subst eb
                  have hka := bk hka
                  have hkb := bk hkb
                  refine g_callVvA (st := []) B (cX6_putSignsc (o := .ok x68) h69) (Nat.le_of_ble_eq_true rfl) rfl rfl mi_X6_putSigns lk_RX9_373 ⟨Nat.le_of_ble_eq_true rfl, Nat.le_of_ble_eq_true rfl⟩ rfl rfl (Nat.le_of_ble_eq_true rfl) dX9_writeStanding_101 (Nat.le_trans (bm hka) hla) (Nat.le_trans (bm hkb) hlb) ?_
                  obtain ⟨w1, w2, w3, w4⟩ := inA h
                  clear h
                  subst w1
                  subst w2
                  subst w3
                  subst w4
                  refine g_cost hka hkb ?_
                  exact g_sub [0, 1, 2, 3] rfl (k43 _ rfl)
            · replace h := ifp (bI1 hc) h
              refine g_aload_n B 0 dX9_writeStanding_67 rfl rfl ?_
              replace h := bnP_s h
              obtain ⟨x75, h76, h⟩ := h
              refine g_getR B fl_RX9_55 (by decide) dX9_writeStanding_68 h76 ?_
              refine g_aload_n B 2 dX9_writeStanding_71 rfl rfl ?_
              replace h := bnP_s h
              obtain ⟨x77, h78, h⟩ := h
              refine g_getRg B fl_RX9_202 (by decide) dX9_writeStanding_72 h78 ?_
              refine g_iload B 3 dX9_writeStanding_75 rfl ?_
              replace h := bnP_s h
              obtain ⟨x79, h80, h⟩ := h
              refine g_lald B dX9_writeStanding_77 h80 ?_
              replace h := bnA_s h
              rcases h with ⟨e9, h82, e8⟩ | ⟨x81, s83, a84, b85, a86, b87, h82, h, ea, eb⟩
              · subst e8; obtain ⟨e8, e7, e6, e5⟩ := er44 _ rfl; subst e8; subst e7; subst e6; subst e5; obtain ⟨e8, e7, e6, e5⟩ := er28n _ rfl; subst e8; subst e7; obtain ⟨d8, d7, d6, d5⟩ := er28o _ rfl; subst d8; subst d7; subst d6; subst d5
                exact g_callVx (st := []) B (cX6_putWordc (o := .error e9) h82) (Nat.le_of_ble_eq_true rfl) rfl rfl mi_X6_putWord lk_RX9_381 ⟨Nat.le_of_ble_eq_true rfl, Nat.le_of_ble_eq_true rfl⟩ rfl rfl (Nat.le_of_ble_eq_true rfl) dX9_writeStanding_78 (Nat.le_trans (Nat.le_of_eq hka) hla) (Nat.le_trans (Nat.le_of_eq hkb) hlb) hE
              · subst ea; subst eb
                have hka := bk hka
                have hkb := bk hkb
                refine g_callVvA (st := []) B (cX6_putWordc (o := .ok x81) h82) (Nat.le_of_ble_eq_true rfl) rfl rfl mi_X6_putWord lk_RX9_381 ⟨Nat.le_of_ble_eq_true rfl, Nat.le_of_ble_eq_true rfl⟩ rfl rfl (Nat.le_of_ble_eq_true rfl) dX9_writeStanding_78 (Nat.le_trans (bm hka) hla) (Nat.le_trans (bm hkb) hlb) ?_
                refine g_goto B 104 dX9_writeStanding_81 (by decide) ?_
                obtain ⟨w1, w2, w3, w4⟩ := inA h
                clear h
                subst w1
                subst w2
                subst w3
                subst w4
                refine g_cost hka hkb ?_
                exact g_sub [0, 1, 2, 3] rfl (k43 _ rfl)
set_option maxRecDepth 100000 in
set_option maxHeartbeats 4000000 in
theorem cX9_writeLeafc {l : Launch} {v0 : Option Nat} {v1 : Int32} {σ : HpT} {o : Except Nat (Int32)} {σ' : HpT} {a b : Nat} (h : fX9_writeLeaf v0 v1 σ = some (o, σ', a, b)) : IsK σ v0 9 ∧ Ct l yX9_writeLeaf cX9_writeLeaf 5 (some .int) 8 193 [va_rf v0, .int v1] σ (oI o) σ' a b := by
  unfold fX9_writeLeaf at h
  replace h := bnP_s h
  obtain ⟨u, hk, h⟩ := h
  replace hk := isK_s hk
  refine ⟨hk, ?_⟩
  refine ct_start mi_X9_writeLeaf.1 rfl (al_le (al_1 (rf_cat _) (al_1 rfl al_n)) (Nat.le_of_ble_eq_true rfl)) (ag_1 (rf_cat _) (ag_1 rfl ag_n)) (fun Δ Γ B hE hnm => ?_)
  have hka : 0 + a = a := Nat.zero_add a
  have hkb : 0 + b = b := Nat.zero_add b
  have hla : a ≤ a := Nat.le_refl a
  have hlb : b ≤ b := Nat.le_refl b
  refine g_aload_n B 0 dX9_writeLeaf_0 rfl rfl ?_
  replace h := bnXA_s h
  rcases h with ⟨e9, h2, e8, e7, e6, e5⟩ | ⟨x1, h2, h⟩
  · subst e8; subst e7; subst e6; subst e5
    exact g_callVx (st := []) B (cX9_requireBookc (o := .error e9) h2) (Nat.le_of_ble_eq_true rfl) rfl rfl mi_X9_requireBook lk_RX9_95 ⟨Nat.le_of_ble_eq_true rfl, Nat.le_of_ble_eq_true rfl⟩ rfl rfl (Nat.le_of_ble_eq_true rfl) dX9_writeLeaf_1 (Nat.le_trans (Nat.le_of_eq hka) hla) (Nat.le_trans (Nat.le_of_eq hkb) hlb) hE
  · skip
    refine g_callVv0 (st := []) B (cX9_requireBookc (o := .ok x1) h2) (Nat.le_of_ble_eq_true rfl) rfl rfl mi_X9_requireBook lk_RX9_95 ⟨Nat.le_of_ble_eq_true rfl, Nat.le_of_ble_eq_true rfl⟩ rfl rfl (Nat.le_of_ble_eq_true rfl) dX9_writeLeaf_1 (Nat.le_trans (bm hka) hla) (Nat.le_trans (bm hkb) hlb) ?_
    refine g_aload_n B 0 dX9_writeLeaf_4 rfl rfl ?_
    refine g_iload_n B 1 dX9_writeLeaf_5 rfl rfl ?_
    replace h := bnXA_s h
    rcases h with ⟨e9, h4, e8, e7, e6, e5⟩ | ⟨x3, h4, h⟩
    · subst e8; subst e7; subst e6; subst e5
      exact g_callVx (st := []) B (cX9_requireLeafc (o := .error e9) h4) (Nat.le_of_ble_eq_true rfl) rfl rfl mi_X9_requireLeaf lk_RX9_254 ⟨Nat.le_of_ble_eq_true rfl, Nat.le_of_ble_eq_true rfl⟩ rfl rfl (Nat.le_of_ble_eq_true rfl) dX9_writeLeaf_6 (Nat.le_trans (Nat.le_of_eq hka) hla) (Nat.le_trans (Nat.le_of_eq hkb) hlb) hE
    · skip
      refine g_callVv0 (st := []) B (cX9_requireLeafc (o := .ok x3) h4) (Nat.le_of_ble_eq_true rfl) rfl rfl mi_X9_requireLeaf lk_RX9_254 ⟨Nat.le_of_ble_eq_true rfl, Nat.le_of_ble_eq_true rfl⟩ rfl rfl (Nat.le_of_ble_eq_true rfl) dX9_writeLeaf_6 (Nat.le_trans (bm hka) hla) (Nat.le_trans (bm hkb) hlb) ?_
      refine g_aload_n B 0 dX9_writeLeaf_9 rfl rfl ?_
      replace h := bnP_s h
      obtain ⟨x5, h6, h⟩ := h
      refine g_getR B fl_RX9_55 (by decide) dX9_writeLeaf_10 h6 ?_
      replace h := bnA_s h
      rcases h with ⟨e9, h8, e8⟩ | ⟨x7, s9, a10, b11, a12, b13, h8, h, ea, eb⟩
      · subst e8
        exact g_callVx (st := []) B (cX6_startTextc (o := .error e9) h8) (Nat.le_of_ble_eq_true rfl) rfl rfl mi_X6_startText lk_RX9_367 ⟨Nat.le_of_ble_eq_true rfl, Nat.le_of_ble_eq_true rfl⟩ rfl rfl (Nat.le_of_ble_eq_true rfl) dX9_writeLeaf_13 (Nat.le_trans (Nat.le_of_eq hka) hla) (Nat.le_trans (Nat.le_of_eq hkb) hlb) hE
      · subst ea; subst eb
        have hka := bk hka
        have hkb := bk hkb
        refine g_callVvA (st := []) B (cX6_startTextc (o := .ok x7) h8) (Nat.le_of_ble_eq_true rfl) rfl rfl mi_X6_startText lk_RX9_367 ⟨Nat.le_of_ble_eq_true rfl, Nat.le_of_ble_eq_true rfl⟩ rfl rfl (Nat.le_of_ble_eq_true rfl) dX9_writeLeaf_13 (Nat.le_trans (bm hka) hla) (Nat.le_trans (bm hkb) hlb) ?_
        refine g_aload_n B 0 dX9_writeLeaf_16 rfl rfl ?_
        replace h := bnP_s h
        obtain ⟨x14, h15, h⟩ := h
        refine g_getR B fl_RX9_20 (by decide) dX9_writeLeaf_17 h15 ?_
        replace h := bnP_s h
        obtain ⟨x16, h17, h⟩ := h
        refine g_getRg B fl_RX9_108 (by decide) dX9_writeLeaf_20 h17 ?_
        refine g_iload_n B 1 dX9_writeLeaf_23 rfl rfl ?_
        replace h := bnP_s h
        obtain ⟨x18, h19, h⟩ := h
        refine g_callVs0 (st := []) B (cX4_isLostc h19) (Nat.le_of_ble_eq_true rfl) rfl rfl mi_X4_isLost lk_RX9_403 ⟨Nat.le_of_ble_eq_true rfl, Nat.le_of_ble_eq_true rfl⟩ rfl rfl (Nat.le_of_ble_eq_true rfl) dX9_writeLeaf_24 (Nat.le_trans (bm hka) hla) (Nat.le_trans (bm hkb) hlb) ?_
        refine g_if_eq B 51 dX9_writeLeaf_27 (by decide) (fun hc => ?_) (fun hc => ?_)
        · replace h := ifn (bI0 hc) h
          refine g_iload_n B 1 dX9_writeLeaf_51 rfl rfl ?_
          refine g_aload_n B 0 dX9_writeLeaf_52 rfl rfl ?_
          replace h := bnP_s h
          obtain ⟨x20, h21, h⟩ := h
          refine g_getR B fl_RX9_20 (by decide) dX9_writeLeaf_53 h21 ?_
          replace h := bnP_s h
          obtain ⟨x22, h23, h⟩ := h
          refine g_getI B fl_RX9_102 (by decide) dX9_writeLeaf_56 h23 ?_
          refine g_imul B dX9_writeLeaf_59 ?_
          refine g_istore_n B dX9_writeLeaf_60 rfl (Nat.le_of_ble_eq_true rfl) (s1_c (f1_k rfl (f1_1 rfl rfl f1_n))) ?_
          refine g_iload_n B 0 dX9_writeLeaf_61 rfl rfl ?_
          refine g_istore_n B dX9_writeLeaf_62 rfl (Nat.le_of_ble_eq_true rfl) (s1_c (f1_1 rfl rfl (f1_k rfl (f1_k rfl f1_n)))) ?_
          replace h := bnA_o h
          obtain ⟨z89, s78, a79, b80, h26, er32o, h, la, lb⟩ := h
          have kE27 : ∀ r25, z89 = .ok r25 → GW Δ Γ (0 + a10 + a79) (0 + b11 + b80) 141 [(0, va_rf v0)] [] s78 := by
            intro r25 ej
            replace h := h _ ej
            obtain ⟨a81, b82, h, ea, eb⟩ := h
            subst ea; subst eb
            have hka := bk hka
            have hkb := bk hkb
            refine g_aload_n B 0 dX9_writeLeaf_141 rfl rfl ?_
            replace h := bnP_s h
            obtain ⟨x83, h84, h⟩ := h
            refine g_getR B fl_RX9_55 (by decide) dX9_writeLeaf_142 h84 ?_
            replace h := bnP_s h
            obtain ⟨x85, h86, h⟩ := h
            refine g_getRg B fl_RX9_388 (by decide) dX9_writeLeaf_145 h86 ?_
            replace h := bnP_s h
            obtain ⟨x87, h88, h⟩ := h
            refine g_callVs0 (st := []) B (cJ4_length_8abf5c h88) (Nat.le_of_ble_eq_true rfl) rfl rfl mi_J4_length_8abf5 lk_RX9_392 ⟨Nat.le_of_ble_eq_true rfl, Nat.le_of_ble_eq_true rfl⟩ rfl rfl (Nat.le_of_ble_eq_true rfl) dX9_writeLeaf_148 (Nat.le_trans (bm hka) hla) (Nat.le_trans (bm hkb) hlb) ?_
            obtain ⟨w1, w2, w3, w4⟩ := inA h
            clear h
            subst w1
            subst w2
            subst w3
            subst w4
            exact g_iret B hE (Nat.le_trans (Nat.le_of_eq hka) hla) (Nat.le_trans (Nat.le_of_eq hkb) hlb) dX9_writeLeaf_151
          clear h
          refine g_sub [2, 3, 1, 0] rfl ?_
          have hla9 := Nat.le_trans (bj hka la) hla
          have hlb9 := Nat.le_trans (bj hkb lb) hlb
          refine lpA_w (I := fun q24 s33 ka34 kb35 => GW Δ Γ (ka34) (kb35) 63 [(0, va_rf v0), (1, .int v1), (2, .int (v1 * x22)), (3, .int q24)] [] s33) (r := z89) (σr := s78) (A := 0 + a10 + a79) (B := 0 + b11 + b80) ?_ FUEL (v1 * x22) s9 _ _ _ _ h26 rfl rfl
          intro q24 s33 ka34 kb35 x31 s9 i9 j9 h hI29 hle9 hR30 er32i
          unfold fX9_writeLeaf_l1 at h
          have hka : ka34 + i9 = _ := rfl
          have hkb : kb35 + j9 = _ := rfl
          have hlab : ka34 + i9 ≤ 0 + a10 + a79 ∧ kb35 + j9 ≤ 0 + b11 + b80 := by
            rcases x31 with e | (x | x)
            · obtain ⟨-, -, e1, e2⟩ := er32i e rfl; exact ⟨Nat.le_of_eq e1, Nat.le_of_eq e2⟩
            · exact hle9 x rfl
            · obtain ⟨-, -, e1, e2⟩ := hR30 x rfl; exact ⟨Nat.le_of_eq e1, Nat.le_of_eq e2⟩
          have hla := Nat.le_trans hlab.1 hla9
          have hlb := Nat.le_trans hlab.2 hlb9
          have er32n : ∀ e, x31 = .error e → z89 = .error e ∧ s9 = s78 ∧ ka34 + i9 = 0 + a10 + a79 ∧ kb35 + j9 = 0 + b11 + b80 := fun e q => (fun r9 => ⟨r9.1, r9.2.1.symm, r9.2.2.1, r9.2.2.2⟩) (er32i e q)
          refine g_iload_n B 3 dX9_writeLeaf_63 rfl rfl ?_
          refine g_iload_n B 2 dX9_writeLeaf_64 rfl rfl ?_
          refine g_aload_n B 0 dX9_writeLeaf_65 rfl rfl ?_
          replace h := bnP_s h
          obtain ⟨x36, h37, h⟩ := h
          refine g_getR B fl_RX9_20 (by decide) dX9_writeLeaf_66 h37 ?_
          refine g_iload_n B 1 dX9_writeLeaf_69 rfl rfl ?_
          replace h := bnP_s h
          obtain ⟨x38, h39, h⟩ := h
          refine g_callVs0 (st := [.int (v1 * x22), .int q24]) B (cX1_wordsOnc h39) (Nat.le_of_ble_eq_true rfl) rfl rfl mi_X1_wordsOn lk_RX9_260 ⟨Nat.le_of_ble_eq_true rfl, Nat.le_of_ble_eq_true rfl⟩ rfl rfl (Nat.le_of_ble_eq_true rfl) dX9_writeLeaf_70 (Nat.le_trans (bm hka) hla) (Nat.le_trans (bm hkb) hlb) ?_
          refine g_iadd B dX9_writeLeaf_73 ?_
          refine g_icmp_ge B 141 dX9_writeLeaf_74 (by decide) (fun hc => ?_) (fun hc => ?_)
          · replace h := ifp hc h
            obtain ⟨w1, w2, w3, w4⟩ := inA h
            clear h
            subst w1
            subst w2
            subst w3
            subst w4
            obtain ⟨e8, e7, e6, e5⟩ := hR30 _ rfl
            subst e8
            subst e7
            refine g_cost (by omega) (by omega) ?_
            exact g_sub [0] rfl (kE27 _ rfl)
          · replace h := ifn hc h
            refine g_aload_n B 0 dX9_writeLeaf_77 rfl rfl ?_
            replace h := bnP_s h
            obtain ⟨x40, h41, h⟩ := h
            refine g_getR B fl_RX9_20 (by decide) dX9_writeLeaf_78 h41 ?_
            refine g_iload_n B 3 dX9_writeLeaf_81 rfl rfl ?_
            replace h := bnP_s h
            obtain ⟨x42, h43, h⟩ := h
            refine g_callVs0 (st := []) B (cX1_actBegunAtc h43) (Nat.le_of_ble_eq_true rfl) rfl rfl mi_X1_actBegunAt lk_RX9_406 ⟨Nat.le_of_ble_eq_true rfl, Nat.le_of_ble_eq_true rfl⟩ rfl rfl (Nat.le_of_ble_eq_true rfl) dX9_writeLeaf_82 (Nat.le_trans (bm hka) hla) (Nat.le_trans (bm hkb) hlb) ?_
            refine g_istore B dX9_writeLeaf_85 (Nat.le_of_ble_eq_true rfl) (s1_c (f1_k rfl (f1_k rfl (f1_k rfl (f1_1 rfl rfl f1_n))))) ?_
            refine g_iload B 0 dX9_writeLeaf_87 rfl ?_
            refine g_if_ne B 114 dX9_writeLeaf_89 (by decide) (fun hc => ?_) (fun hc => ?_)
            · replace h := ifn hc h
              refine g_aload_n B 1 dX9_writeLeaf_114 rfl rfl ?_
              replace h := bnP_s h
              obtain ⟨x44, h45, h⟩ := h
              refine g_getR B fl_RX9_55 (by decide) dX9_writeLeaf_115 h45 ?_
              refine g_iload B 0 dX9_writeLeaf_118 rfl ?_
              refine g_aload_n B 1 dX9_writeLeaf_120 rfl rfl ?_
              replace h := bnP_s h
              obtain ⟨x46, h47, h⟩ := h
              refine g_getR B fl_RX9_20 (by decide) dX9_writeLeaf_121 h47 ?_
              replace h := bnP_s h
              obtain ⟨x48, h49, h⟩ := h
              refine g_getRg B fl_RX9_114 (by decide) dX9_writeLeaf_124 h49 ?_
              replace h := bnP_s h
              obtain ⟨x50, h51, h⟩ := h
              refine g_getRg B fl_RX9_202 (by decide) dX9_writeLeaf_127 h51 ?_
              refine g_iload_n B 4 dX9_writeLeaf_130 rfl rfl ?_
              replace h := bnP_s h
              obtain ⟨x52, h53, h⟩ := h
              refine g_lald B dX9_writeLeaf_131 h53 ?_
              replace h := bnA_s h
              rcases h with ⟨e9, h55, e8⟩ | ⟨x54, s56, a57, b58, a59, b60, h55, h, ea, eb⟩
              · subst e8; obtain ⟨e8, e7, e6, e5⟩ := er32n _ rfl; subst e8; subst e7; obtain ⟨d8, d7, d6, d5⟩ := er32o _ rfl; subst d8; subst d7; subst d6; subst d5
                exact g_callVx (st := []) B (cX6_putNumberedWordc (o := .error e9) h55) (Nat.le_of_ble_eq_true rfl) rfl rfl mi_X6_putNumberedWord lk_RX9_409 ⟨Nat.le_of_ble_eq_true rfl, Nat.le_of_ble_eq_true rfl⟩ rfl rfl (Nat.le_of_ble_eq_true rfl) dX9_writeLeaf_132 (Nat.le_trans (Nat.le_of_eq hka) hla) (Nat.le_trans (Nat.le_of_eq hkb) hlb) hE
              · subst ea; subst eb
                have hka := bk hka
                have hkb := bk hkb
                refine g_callVvA (st := []) B (cX6_putNumberedWordc (o := .ok x54) h55) (Nat.le_of_ble_eq_true rfl) rfl rfl mi_X6_putNumberedWord lk_RX9_409 ⟨Nat.le_of_ble_eq_true rfl, Nat.le_of_ble_eq_true rfl⟩ rfl rfl (Nat.le_of_ble_eq_true rfl) dX9_writeLeaf_132 (Nat.le_trans (bm hka) hla) (Nat.le_trans (bm hkb) hlb) ?_
                refine g_iinc (v := (q24 + 1)) B 4 dX9_writeLeaf_135 rfl (by first | rfl | (congr 1; decide)) (Nat.le_of_ble_eq_true rfl) (s1_c (f1_k rfl (f1_k rfl (f1_k rfl (f1_1 rfl rfl (f1_x f1_n)))))) ?_
                refine g_goto B 63 dX9_writeLeaf_138 (by decide) ?_
                obtain ⟨w1, w2, w3, w4⟩ := inA h
                clear h
                subst w1
                subst w2
                subst w3
                subst w4
                refine g_cost (by omega) (by omega) ?_
                exact g_sub [2, 3, 4, 0] rfl (hI29 _ rfl)
            · replace h := ifp hc h
              refine g_aload_n B 1 dX9_writeLeaf_92 rfl rfl ?_
              replace h := bnP_s h
              obtain ⟨x61, h62, h⟩ := h
              refine g_getR B fl_RX9_55 (by decide) dX9_writeLeaf_93 h62 ?_
              refine g_aload_n B 1 dX9_writeLeaf_96 rfl rfl ?_
              replace h := bnP_s h
              obtain ⟨x63, h64, h⟩ := h
              refine g_getR B fl_RX9_20 (by decide) dX9_writeLeaf_97 h64 ?_
              replace h := bnP_s h
              obtain ⟨x65, h66, h⟩ := h
              refine g_getRg B fl_RX9_114 (by decide) dX9_writeLeaf_100 h66 ?_
              replace h := bnP_s h
              obtain ⟨x67, h68, h⟩ := h
              refine g_getRg B fl_RX9_202 (by decide) dX9_writeLeaf_103 h68 ?_
              refine g_iload_n B 4 dX9_writeLeaf_106 rfl rfl ?_
              replace h := bnP_s h
              obtain ⟨x69, h70, h⟩ := h
              refine g_lald B dX9_writeLeaf_107 h70 ?_
              replace h := bnA_s h
              rcases h with ⟨e9, h72, e8⟩ | ⟨x71, s73, a74, b75, a76, b77, h72, h, ea, eb⟩
              · subst e8; obtain ⟨e8, e7, e6, e5⟩ := er32n _ rfl; subst e8; subst e7; obtain ⟨d8, d7, d6, d5⟩ := er32o _ rfl; subst d8; subst d7; subst d6; subst d5
                exact g_callVx (st := []) B (cX6_putWordc (o := .error e9) h72) (Nat.le_of_ble_eq_true rfl) rfl rfl mi_X6_putWord lk_RX9_381 ⟨Nat.le_of_ble_eq_true rfl, Nat.le_of_ble_eq_true rfl⟩ rfl rfl (Nat.le_of_ble_eq_true rfl) dX9_writeLeaf_108 (Nat.le_trans (Nat.le_of_eq hka) hla) (Nat.le_trans (Nat.le_of_eq hkb) hlb) hE
              · subst ea; subst eb
                have hka := bk hka
                have hkb := bk hkb
                refine g_callVvA (st := []) B (cX6_putWordc (o := .ok x71) h72) (Nat.le_of_ble_eq_true rfl) rfl rfl mi_X6_putWord lk_RX9_381 ⟨Nat.le_of_ble_eq_true rfl, Nat.le_of_ble_eq_true rfl⟩ rfl rfl (Nat.le_of_ble_eq_true rfl) dX9_writeLeaf_108 (Nat.le_trans (bm hka) hla) (Nat.le_trans (bm hkb) hlb) ?_
                refine g_goto B 135 dX9_writeLeaf_111 (by decide) ?_
                refine g_iinc (v := (q24 + 1)) B 4 dX9_writeLeaf_135 rfl (by first | rfl | (congr 1; decide)) (Nat.le_of_ble_eq_true rfl) (s1_c (f1_k rfl (f1_k rfl (f1_k rfl (f1_1 rfl rfl (f1_x f1_n)))))) ?_
                refine g_goto B 63 dX9_writeLeaf_138 (by decide) ?_
                obtain ⟨w1, w2, w3, w4⟩ := inA h
                clear h
                subst w1
                subst w2
                subst w3
                subst w4
                refine g_cost (by omega) (by omega) ?_
                exact g_sub [2, 3, 4, 0] rfl (hI29 _ rfl)
        · replace h := ifp (bI1 hc) h
          refine g_aload_n B 0 dX9_writeLeaf_30 rfl rfl ?_
          replace h := bnP_s h
          obtain ⟨x90, h91, h⟩ := h
          refine g_getR B fl_RX9_55 (by decide) dX9_writeLeaf_31 h91 ?_
          refine g_bipush (v := 63) B dX9_writeLeaf_34 (by decide) ?_
          refine g_iconst (v := 1) B dX9_writeLeaf_36 (by decide) ?_
          replace h := bnA_s h
          rcases h with ⟨e9, h93, e8⟩ | ⟨x92, s94, a95, b96, a97, b98, h93, h, ea, eb⟩
          · subst e8
            exact g_callVx (st := []) B (cX6_putSignsc (o := .error e9) h93) (Nat.le_of_ble_eq_true rfl) rfl rfl mi_X6_putSigns lk_RX9_373 ⟨Nat.le_of_ble_eq_true rfl, Nat.le_of_ble_eq_true rfl⟩ rfl rfl (Nat.le_of_ble_eq_true rfl) dX9_writeLeaf_37 (Nat.le_trans (Nat.le_of_eq hka) hla) (Nat.le_trans (Nat.le_of_eq hkb) hlb) hE
          · subst ea; subst eb
            have hka := bk hka
            have hkb := bk hkb
            refine g_callVvA (st := []) B (cX6_putSignsc (o := .ok x92) h93) (Nat.le_of_ble_eq_true rfl) rfl rfl mi_X6_putSigns lk_RX9_373 ⟨Nat.le_of_ble_eq_true rfl, Nat.le_of_ble_eq_true rfl⟩ rfl rfl (Nat.le_of_ble_eq_true rfl) dX9_writeLeaf_37 (Nat.le_trans (bm hka) hla) (Nat.le_trans (bm hkb) hlb) ?_
            refine g_aload_n B 0 dX9_writeLeaf_40 rfl rfl ?_
            replace h := bnP_s h
            obtain ⟨x99, h100, h⟩ := h
            refine g_getR B fl_RX9_55 (by decide) dX9_writeLeaf_41 h100 ?_
            replace h := bnP_s h
            obtain ⟨x101, h102, h⟩ := h
            refine g_getRg B fl_RX9_388 (by decide) dX9_writeLeaf_44 h102 ?_
            replace h := bnP_s h
            obtain ⟨x103, h104, h⟩ := h
            refine g_callVs0 (st := []) B (cJ4_length_8abf5c h104) (Nat.le_of_ble_eq_true rfl) rfl rfl mi_J4_length_8abf5 lk_RX9_392 ⟨Nat.le_of_ble_eq_true rfl, Nat.le_of_ble_eq_true rfl⟩ rfl rfl (Nat.le_of_ble_eq_true rfl) dX9_writeLeaf_47 (Nat.le_trans (bm hka) hla) (Nat.le_trans (bm hkb) hlb) ?_
            obtain ⟨w1, w2, w3, w4⟩ := inA h
            clear h
            subst w1
            subst w2
            subst w3
            subst w4
            exact g_iret B hE (Nat.le_trans (Nat.le_of_eq hka) hla) (Nat.le_trans (Nat.le_of_eq hkb) hlb) dX9_writeLeaf_50
set_option maxRecDepth 100000 in
set_option maxHeartbeats 4000000 in
theorem cX9_writeCopyc {l : Launch} {v0 : Option Nat} {v1 : Int32} {σ : HpT} {o : Except Nat (Int32)} {σ' : HpT} {a b : Nat} (h : fX9_writeCopy v0 v1 σ = some (o, σ', a, b)) : IsK σ v0 9 ∧ Ct l yX9_writeCopy cX9_writeCopy 5 (some .int) 9 214 [va_rf v0, .int v1] σ (oI o) σ' a b := by
  unfold fX9_writeCopy at h
  replace h := bnP_s h
  obtain ⟨u, hk, h⟩ := h
  replace hk := isK_s hk
  refine ⟨hk, ?_⟩
  refine ct_start mi_X9_writeCopy.1 rfl (al_le (al_1 (rf_cat _) (al_1 rfl al_n)) (Nat.le_of_ble_eq_true rfl)) (ag_1 (rf_cat _) (ag_1 rfl ag_n)) (fun Δ Γ B hE hnm => ?_)
  have hka : 0 + a = a := Nat.zero_add a
  have hkb : 0 + b = b := Nat.zero_add b
  have hla : a ≤ a := Nat.le_refl a
  have hlb : b ≤ b := Nat.le_refl b
  refine g_aload_n B 0 dX9_writeCopy_0 rfl rfl ?_
  replace h := bnXA_s h
  rcases h with ⟨e9, h2, e8, e7, e6, e5⟩ | ⟨x1, h2, h⟩
  · subst e8; subst e7; subst e6; subst e5
    exact g_callVx (st := []) B (cX9_requireBookc (o := .error e9) h2) (Nat.le_of_ble_eq_true rfl) rfl rfl mi_X9_requireBook lk_RX9_95 ⟨Nat.le_of_ble_eq_true rfl, Nat.le_of_ble_eq_true rfl⟩ rfl rfl (Nat.le_of_ble_eq_true rfl) dX9_writeCopy_1 (Nat.le_trans (Nat.le_of_eq hka) hla) (Nat.le_trans (Nat.le_of_eq hkb) hlb) hE
  · skip
    refine g_callVv0 (st := []) B (cX9_requireBookc (o := .ok x1) h2) (Nat.le_of_ble_eq_true rfl) rfl rfl mi_X9_requireBook lk_RX9_95 ⟨Nat.le_of_ble_eq_true rfl, Nat.le_of_ble_eq_true rfl⟩ rfl rfl (Nat.le_of_ble_eq_true rfl) dX9_writeCopy_1 (Nat.le_trans (bm hka) hla) (Nat.le_trans (bm hkb) hlb) ?_
    refine g_aload_n B 0 dX9_writeCopy_4 rfl rfl ?_
    refine g_iload_n B 1 dX9_writeCopy_5 rfl rfl ?_
    replace h := bnXA_s h
    rcases h with ⟨e9, h4, e8, e7, e6, e5⟩ | ⟨x3, h4, h⟩
    · subst e8; subst e7; subst e6; subst e5
      exact g_callVx (st := []) B (cX9_requireCopyc (o := .error e9) h4) (Nat.le_of_ble_eq_true rfl) rfl rfl mi_X9_requireCopy lk_RX9_275 ⟨Nat.le_of_ble_eq_true rfl, Nat.le_of_ble_eq_true rfl⟩ rfl rfl (Nat.le_of_ble_eq_true rfl) dX9_writeCopy_6 (Nat.le_trans (Nat.le_of_eq hka) hla) (Nat.le_trans (Nat.le_of_eq hkb) hlb) hE
    · skip
      refine g_callVs0 (st := []) B (cX9_requireCopyc (o := .ok x3) h4) (Nat.le_of_ble_eq_true rfl) rfl rfl mi_X9_requireCopy lk_RX9_275 ⟨Nat.le_of_ble_eq_true rfl, Nat.le_of_ble_eq_true rfl⟩ rfl rfl (Nat.le_of_ble_eq_true rfl) dX9_writeCopy_6 (Nat.le_trans (bm hka) hla) (Nat.le_trans (bm hkb) hlb) ?_
      refine g_astore_n B dX9_writeCopy_9 rfl (Nat.le_of_ble_eq_true rfl) (s1_c (f1_k rfl (f1_1 rfl rfl f1_n))) ?_
      refine g_aload_n B 1 dX9_writeCopy_10 rfl rfl ?_
      refine g_aload_n B 0 dX9_writeCopy_11 rfl rfl ?_
      replace h := bnP_s h
      obtain ⟨x5, h6, h⟩ := h
      refine g_getI B fl_RX9_279 (by decide) dX9_writeCopy_12 h6 ?_
      replace h := bnXA_s h
      rcases h with ⟨e9, h8, e8, e7, e6, e5⟩ | ⟨x7, h8, h⟩
      · subst e8; subst e7; subst e6; subst e5
        exact g_callVx (st := []) B (cX9_requireActc (o := .error e9) h8) (Nat.le_of_ble_eq_true rfl) rfl rfl mi_X9_requireAct lk_RX9_153 ⟨Nat.le_of_ble_eq_true rfl, Nat.le_of_ble_eq_true rfl⟩ rfl rfl (Nat.le_of_ble_eq_true rfl) dX9_writeCopy_15 (Nat.le_trans (Nat.le_of_eq hka) hla) (Nat.le_trans (Nat.le_of_eq hkb) hlb) hE
      · skip
        refine g_callVs0 (st := []) B (cX9_requireActc (o := .ok x7) h8) (Nat.le_of_ble_eq_true rfl) rfl rfl mi_X9_requireAct lk_RX9_153 ⟨Nat.le_of_ble_eq_true rfl, Nat.le_of_ble_eq_true rfl⟩ rfl rfl (Nat.le_of_ble_eq_true rfl) dX9_writeCopy_15 (Nat.le_trans (bm hka) hla) (Nat.le_trans (bm hkb) hlb) ?_
        refine g_astore_n B dX9_writeCopy_18 rfl (Nat.le_of_ble_eq_true rfl) (s1_c (f1_1 rfl (rf_cat _) (f1_k rfl (f1_k rfl f1_n)))) ?_
        refine g_aload_n B 2 dX9_writeCopy_19 rfl rfl ?_
        replace h := bnP_s h
        obtain ⟨x9, h10, h⟩ := h
        refine g_getR B fl_RX9_55 (by decide) dX9_writeCopy_20 h10 ?_
        replace h := bnA_s h
        rcases h with ⟨e9, h12, e8⟩ | ⟨x11, s13, a14, b15, a16, b17, h12, h, ea, eb⟩
        · subst e8
          exact g_callVx (st := []) B (cX6_startTextc (o := .error e9) h12) (Nat.le_of_ble_eq_true rfl) rfl rfl mi_X6_startText lk_RX9_367 ⟨Nat.le_of_ble_eq_true rfl, Nat.le_of_ble_eq_true rfl⟩ rfl rfl (Nat.le_of_ble_eq_true rfl) dX9_writeCopy_23 (Nat.le_trans (Nat.le_of_eq hka) hla) (Nat.le_trans (Nat.le_of_eq hkb) hlb) hE
        · subst ea; subst eb
          have hka := bk hka
          have hkb := bk hkb
          refine g_callVvA (st := []) B (cX6_startTextc (o := .ok x11) h12) (Nat.le_of_ble_eq_true rfl) rfl rfl mi_X6_startText lk_RX9_367 ⟨Nat.le_of_ble_eq_true rfl, Nat.le_of_ble_eq_true rfl⟩ rfl rfl (Nat.le_of_ble_eq_true rfl) dX9_writeCopy_23 (Nat.le_trans (bm hka) hla) (Nat.le_trans (bm hkb) hlb) ?_
          refine g_aload_n B 0 dX9_writeCopy_26 rfl rfl ?_
          replace h := bnP_s h
          obtain ⟨x18, h19, h⟩ := h
          refine g_getI B fl_RX9_170 (by decide) dX9_writeCopy_27 h19 ?_
          refine g_istore B dX9_writeCopy_30 (Nat.le_of_ble_eq_true rfl) (s1_c (f1_1 rfl (rf_cat _) (f1_k rfl (f1_k rfl (f1_k rfl f1_n))))) ?_
          replace h := bnA_o h
          obtain ⟨z91, s79, a80, b81, h22, er28o, h, la, lb⟩ := h
          have kE23 : ∀ r21, z91 = .ok r21 → GW Δ Γ (0 + a14 + a80) (0 + b15 + b81) 101 [(0, va_rf v0)] [] s79 := by
            intro r21 ej
            replace h := h _ ej
            obtain ⟨a82, b83, h, ea, eb⟩ := h
            subst ea; subst eb
            have hka := bk hka
            have hkb := bk hkb
            refine g_aload_n B 0 dX9_writeCopy_101 rfl rfl ?_
            replace h := bnA_s h
            rcases h with ⟨e9, h85, e8⟩ | ⟨x84, s86, a87, b88, a89, b90, h85, h, ea, eb⟩
            · subst e8
              exact g_callVx (st := []) B (cX9_endOfWordsc (o := .error e9) h85) (Nat.le_of_ble_eq_true rfl) rfl rfl mi_X9_endOfWords lk_RX9_400 ⟨Nat.le_of_ble_eq_true rfl, Nat.le_of_ble_eq_true rfl⟩ rfl rfl (Nat.le_of_ble_eq_true rfl) dX9_writeCopy_102 (Nat.le_trans (Nat.le_of_eq hka) hla) (Nat.le_trans (Nat.le_of_eq hkb) hlb) hE
            · subst ea; subst eb
              have hka := bk hka
              have hkb := bk hkb
              refine g_callVsA (st := []) B (cX9_endOfWordsc (o := .ok x84) h85) (Nat.le_of_ble_eq_true rfl) rfl rfl mi_X9_endOfWords lk_RX9_400 ⟨Nat.le_of_ble_eq_true rfl, Nat.le_of_ble_eq_true rfl⟩ rfl rfl (Nat.le_of_ble_eq_true rfl) dX9_writeCopy_102 (Nat.le_trans (bm hka) hla) (Nat.le_trans (bm hkb) hlb) ?_
              obtain ⟨w1, w2, w3, w4⟩ := inA h
              clear h
              subst w1
              subst w2
              subst w3
              subst w4
              exact g_iret B hE (Nat.le_trans (Nat.le_of_eq hka) hla) (Nat.le_trans (Nat.le_of_eq hkb) hlb) dX9_writeCopy_105
          clear h
          refine g_sub [3, 2, 1, 0] rfl ?_
          have hla9 := Nat.le_trans (bj hka la) hla
          have hlb9 := Nat.le_trans (bj hkb lb) hlb
          refine lpA_w (I := fun q20 s29 ka30 kb31 => GW Δ Γ (ka30) (kb31) 32 [(0, va_rf v0), (2, va_rf x3), (3, va_rf x7), (4, .int q20)] [] s29) (r := z91) (σr := s79) (A := 0 + a14 + a80) (B := 0 + b15 + b81) ?_ FUEL x18 s13 _ _ _ _ h22 rfl rfl
          intro q20 s29 ka30 kb31 x27 s9 i9 j9 h hI25 hle9 hR26 er28i
          unfold fX9_writeCopy_l1 at h
          have hka : ka30 + i9 = _ := rfl
          have hkb : kb31 + j9 = _ := rfl
          have hlab : ka30 + i9 ≤ 0 + a14 + a80 ∧ kb31 + j9 ≤ 0 + b15 + b81 := by
            rcases x27 with e | (x | x)
            · obtain ⟨-, -, e1, e2⟩ := er28i e rfl; exact ⟨Nat.le_of_eq e1, Nat.le_of_eq e2⟩
            · exact hle9 x rfl
            · obtain ⟨-, -, e1, e2⟩ := hR26 x rfl; exact ⟨Nat.le_of_eq e1, Nat.le_of_eq e2⟩
          have hla := Nat.le_trans hlab.1 hla9
          have hlb := Nat.le_trans hlab.2 hlb9
          have er28n : ∀ e, x27 = .error e → z91 = .error e ∧ s9 = s79 ∧ ka30 + i9 = 0 + a14 + a80 ∧ kb31 + j9 = 0 + b15 + b81 := fun e q => (fun r9 => ⟨r9.1, r9.2.1.symm, r9.2.2.1, r9.2.2.2⟩) (er28i e q)
          refine g_iload B 3 dX9_writeCopy_32 rfl ?_
          refine g_aload_n B 2 dX9_writeCopy_34 rfl rfl ?_
          replace h := bnP_s h
          obtain ⟨x32, h33, h⟩ := h
          refine g_getI B fl_RX9_170 (by decide) dX9_writeCopy_35 h33 ?_
          refine g_aload_n B 2 dX9_writeCopy_38 rfl rfl ?_
          replace h := bnP_s h
          obtain ⟨x34, h35, h⟩ := h
          refine g_getI B fl_RX9_169 (by decide) dX9_writeCopy_39 h35 ?_
          refine g_iadd B dX9_writeCopy_42 ?_
          refine g_icmp_ge B 101 dX9_writeCopy_43 (by decide) (fun hc => ?_) (fun hc => ?_)
          · replace h := ifp hc h
            obtain ⟨w1, w2, w3, w4⟩ := inA h
            clear h
            subst w1
            subst w2
            subst w3
            subst w4
            obtain ⟨e8, e7, e6, e5⟩ := hR26 _ rfl
            subst e8
            subst e7
            refine g_cost (by omega) (by omega) ?_
            exact g_sub [0] rfl (kE23 _ rfl)
          · replace h := ifn hc h
            refine g_aload_n B 1 dX9_writeCopy_46 rfl rfl ?_
            refine g_aload_n B 0 dX9_writeCopy_47 rfl rfl ?_
            replace h := bnP_s h
            obtain ⟨x36, h37, h⟩ := h
            refine g_getR B fl_RX9_20 (by decide) dX9_writeCopy_48 h37 ?_
            replace h := bnP_s h
            obtain ⟨x38, h39, h⟩ := h
            refine g_getRg B fl_RX9_114 (by decide) dX9_writeCopy_51 h39 ?_
            refine g_iload B 3 dX9_writeCopy_54 rfl ?_
            replace h := bnP_s h
            obtain ⟨x40, h41, h⟩ := h
            refine g_callVs0 (st := []) B (cX3_holdsc h41) (Nat.le_of_ble_eq_true rfl) rfl rfl mi_X3_holds lk_RX9_294 ⟨Nat.le_of_ble_eq_true rfl, Nat.le_of_ble_eq_true rfl⟩ rfl rfl (Nat.le_of_ble_eq_true rfl) dX9_writeCopy_56 (Nat.le_trans (bm hka) hla) (Nat.le_trans (bm hkb) hlb) ?_
            replace h := bnA_o h
            obtain ⟨z78, s64, a65, b66, h43, er46, h, la, lb⟩ := h
            have k45 : ∀ j42, z78 = .ok j42 → GW Δ Γ (ka30 + a65) (kb31 + b66) 82 [(0, va_rf v0), (2, va_rf x3), (3, va_rf x7), (4, .int q20)] [] s64 := by
              intro j42 ej
              replace h := h _ ej
              obtain ⟨a67, b68, h, ea, eb⟩ := h
              subst ea; subst eb
              have hka := bk hka
              have hkb := bk hkb
              refine g_aload_n B 1 dX9_writeCopy_82 rfl rfl ?_
              replace h := bnP_s h
              obtain ⟨x69, h70, h⟩ := h
              refine g_getI B fl_RX9_284 (by decide) dX9_writeCopy_83 h70 ?_
              refine g_if_ne B 95 dX9_writeCopy_86 (by decide) (fun hc => ?_) (fun hc => ?_)
              · replace h := ifn hc h
                refine g_iinc (v := (q20 + 1)) B 3 dX9_writeCopy_95 rfl (by first | rfl | (congr 1; decide)) (Nat.le_of_ble_eq_true rfl) (s1_c (f1_k rfl (f1_k rfl (f1_1 rfl (rf_cat _) (f1_x f1_n))))) ?_
                refine g_goto B 32 dX9_writeCopy_98 (by decide) ?_
                obtain ⟨w1, w2, w3, w4⟩ := inA h
                clear h
                subst w1
                subst w2
                subst w3
                subst w4
                refine g_cost (by omega) (by omega) ?_
                exact g_sub [1, 2, 3, 0] rfl (hI25 _ rfl)
              · replace h := ifp hc h
                refine g_aload_n B 0 dX9_writeCopy_89 rfl rfl ?_
                refine g_iload B 3 dX9_writeCopy_90 rfl ?_
                replace h := bnA_s h
                rcases h with ⟨e9, h72, e8⟩ | ⟨x71, s73, a74, b75, a76, b77, h72, h, ea, eb⟩
                · subst e8; obtain ⟨e8, e7, e6, e5⟩ := er28n _ rfl; subst e8; subst e7; obtain ⟨d8, d7, d6, d5⟩ := er28o _ rfl; subst d8; subst d7; subst d6; subst d5
                  exact g_callVx (st := []) B (cX9_writeInsertsc (o := .error e9) h72) (Nat.le_of_ble_eq_true rfl) rfl rfl mi_X9_writeInserts lk_RX9_397 ⟨Nat.le_of_ble_eq_true rfl, Nat.le_of_ble_eq_true rfl⟩ rfl rfl (Nat.le_of_ble_eq_true rfl) dX9_writeCopy_92 (Nat.le_trans (Nat.le_of_eq hka) hla) (Nat.le_trans (Nat.le_of_eq hkb) hlb) hE
                · subst ea; subst eb
                  have hka := bk hka
                  have hkb := bk hkb
                  refine g_callVvA (st := []) B (cX9_writeInsertsc (o := .ok x71) h72) (Nat.le_of_ble_eq_true rfl) rfl rfl mi_X9_writeInserts lk_RX9_397 ⟨Nat.le_of_ble_eq_true rfl, Nat.le_of_ble_eq_true rfl⟩ rfl rfl (Nat.le_of_ble_eq_true rfl) dX9_writeCopy_92 (Nat.le_trans (bm hka) hla) (Nat.le_trans (bm hkb) hlb) ?_
                  refine g_iinc (v := (q20 + 1)) B 3 dX9_writeCopy_95 rfl (by first | rfl | (congr 1; decide)) (Nat.le_of_ble_eq_true rfl) (s1_c (f1_k rfl (f1_k rfl (f1_1 rfl (rf_cat _) (f1_x f1_n))))) ?_
                  refine g_goto B 32 dX9_writeCopy_98 (by decide) ?_
                  obtain ⟨w1, w2, w3, w4⟩ := inA h
                  clear h
                  subst w1
                  subst w2
                  subst w3
                  subst w4
                  refine g_cost (by omega) (by omega) ?_
                  exact g_sub [1, 2, 3, 0] rfl (hI25 _ rfl)
            clear h
            have h := h43
            clear h43
            replace hla := Nat.le_trans (bj hka la) hla
            replace hlb := Nat.le_trans (bj hkb lb) hlb
            replace hka : ka30 + a65 = _ := rfl
            replace hkb : kb31 + b66 = _ := rfl
            refine g_if_eq B 82 dX9_writeCopy_59 (by decide) (fun hc => ?_) (fun hc => ?_)
            · replace h := ifn (bI0 hc) h
              obtain ⟨w1, w2, w3, w4⟩ := inA h
              clear h
              subst w1
              subst w2
              subst w3
              subst w4
              refine g_cost hka hkb ?_
              exact g_sub [0, 1, 2, 3] rfl (k45 _ rfl)
            · replace h := ifp (bI1 hc) h
              refine g_aload_n B 0 dX9_writeCopy_62 rfl rfl ?_
              replace h := bnP_s h
              obtain ⟨x47, h48, h⟩ := h
              refine g_getR B fl_RX9_55 (by decide) dX9_writeCopy_63 h48 ?_
              refine g_aload_n B 0 dX9_writeCopy_66 rfl rfl ?_
              replace h := bnP_s h
              obtain ⟨x49, h50, h⟩ := h
              refine g_getR B fl_RX9_20 (by decide) dX9_writeCopy_67 h50 ?_
              replace h := bnP_s h
              obtain ⟨x51, h52, h⟩ := h
              refine g_getRg B fl_RX9_114 (by decide) dX9_writeCopy_70 h52 ?_
              replace h := bnP_s h
              obtain ⟨x53, h54, h⟩ := h
              refine g_getRg B fl_RX9_202 (by decide) dX9_writeCopy_73 h54 ?_
              refine g_iload B 3 dX9_writeCopy_76 rfl ?_
              replace h := bnP_s h
              obtain ⟨x55, h56, h⟩ := h
              refine g_lald B dX9_writeCopy_78 h56 ?_
              replace h := bnA_s h
              rcases h with ⟨e9, h58, e8⟩ | ⟨x57, s59, a60, b61, a62, b63, h58, h, ea, eb⟩
              · subst e8; obtain ⟨e8, e7, e6, e5⟩ := er46 _ rfl; subst e8; subst e7; subst e6; subst e5; obtain ⟨e8, e7, e6, e5⟩ := er28n _ rfl; subst e8; subst e7; obtain ⟨d8, d7, d6, d5⟩ := er28o _ rfl; subst d8; subst d7; subst d6; subst d5
                exact g_callVx (st := []) B (cX6_putWordc (o := .error e9) h58) (Nat.le_of_ble_eq_true rfl) rfl rfl mi_X6_putWord lk_RX9_381 ⟨Nat.le_of_ble_eq_true rfl, Nat.le_of_ble_eq_true rfl⟩ rfl rfl (Nat.le_of_ble_eq_true rfl) dX9_writeCopy_79 (Nat.le_trans (Nat.le_of_eq hka) hla) (Nat.le_trans (Nat.le_of_eq hkb) hlb) hE
              · subst ea; subst eb
                have hka := bk hka
                have hkb := bk hkb
                refine g_callVvA (st := []) B (cX6_putWordc (o := .ok x57) h58) (Nat.le_of_ble_eq_true rfl) rfl rfl mi_X6_putWord lk_RX9_381 ⟨Nat.le_of_ble_eq_true rfl, Nat.le_of_ble_eq_true rfl⟩ rfl rfl (Nat.le_of_ble_eq_true rfl) dX9_writeCopy_79 (Nat.le_trans (bm hka) hla) (Nat.le_trans (bm hkb) hlb) ?_
                obtain ⟨w1, w2, w3, w4⟩ := inA h
                clear h
                subst w1
                subst w2
                subst w3
                subst w4
                refine g_cost hka hkb ?_
                exact g_sub [0, 1, 2, 3] rfl (k45 _ rfl)
set_option maxRecDepth 100000 in
set_option maxHeartbeats 4000000 in
theorem cX9_textBytec {l : Launch} {v0 : Option Nat} {v1 : Int32} {σ : HpT} {o : Except Nat (Int32)} (h : fX9_textByte v0 v1 σ = some o) : IsK σ v0 9 ∧ Ct l yX9_textByte cX9_textByte 2 (some .int) 6 90 [va_rf v0, .int v1] σ (oI o) σ (xc o) (xs o) := by
  unfold fX9_textByte at h
  replace h := bnP_s h
  obtain ⟨u, hk, h⟩ := h
  replace hk := isK_s hk
  refine ⟨hk, ?_⟩
  refine ct_start mi_X9_textByte.1 rfl (al_le (al_1 (rf_cat _) (al_1 rfl al_n)) (Nat.le_of_ble_eq_true rfl)) (ag_1 (rf_cat _) (ag_1 rfl ag_n)) (fun Δ Γ B hE hnm => ?_)
  refine g_iload_n B 1 dX9_textByte_0 rfl rfl ?_
  refine g_if_lt B 18 dX9_textByte_1 (by decide) (fun hc => ?_) (fun hc => ?_)
  · replace h := ifp hc h
    replace h := Option.some.inj h
    subst h
    exact g_throwW B tw_RX9_238_242 (j := 32) rfl hE (by decide) (Nat.le_of_ble_eq_true rfl) dX9_textByte_18 dX9_textByte_21 dX9_textByte_22 dX9_textByte_25 dX9_textByte_28 (Nat.le_refl 1) (Nat.le_refl 6)
  · replace h := ifn hc h
    refine g_iload_n B 1 dX9_textByte_4 rfl rfl ?_
    refine g_aload_n B 0 dX9_textByte_5 rfl rfl ?_
    replace h := bnP_s h
    obtain ⟨x1, h2, h⟩ := h
    refine g_getR B fl_RX9_55 (by decide) dX9_textByte_6 h2 ?_
    replace h := bnP_s h
    obtain ⟨x3, h4, h⟩ := h
    refine g_getRg B fl_RX9_388 (by decide) dX9_textByte_9 h4 ?_
    replace h := bnP_s h
    obtain ⟨x5, h6, h⟩ := h
    refine g_callVs0 (st := [.int v1]) B (cJ4_length_8abf5c h6) (Nat.le_of_ble_eq_true rfl) rfl rfl mi_J4_length_8abf5 lk_RX9_392 ⟨Nat.le_of_ble_eq_true rfl, Nat.le_of_ble_eq_true rfl⟩ rfl rfl (Nat.le_of_ble_eq_true rfl) dX9_textByte_12 (Nat.zero_le _) (Nat.zero_le _) ?_
    refine g_icmp_lt B 29 dX9_textByte_15 (by decide) (fun hc => ?_) (fun hc => ?_)
    · replace h := ifp hc h
      refine g_aload_n B 0 dX9_textByte_29 rfl rfl ?_
      replace h := bnP_s h
      obtain ⟨x7, h8, h⟩ := h
      refine g_getR B fl_RX9_55 (by decide) dX9_textByte_30 h8 ?_
      replace h := bnP_s h
      obtain ⟨x9, h10, h⟩ := h
      refine g_getRg B fl_RX9_388 (by decide) dX9_textByte_33 h10 ?_
      refine g_iload_n B 1 dX9_textByte_36 rfl rfl ?_
      replace h := bnP_s h
      obtain ⟨x11, h12, h⟩ := h
      refine g_callVs0 (st := []) B (cJ4_charAt_5068ec h12) (Nat.le_of_ble_eq_true rfl) rfl rfl mi_J4_charAt_5068e lk_RX9_415 ⟨Nat.le_of_ble_eq_true rfl, Nat.le_of_ble_eq_true rfl⟩ rfl rfl (Nat.le_of_ble_eq_true rfl) dX9_textByte_37 (Nat.zero_le _) (Nat.zero_le _) ?_
      replace h := Option.some.inj h
      subst h
      exact g_iret B hE (Nat.zero_le _) (Nat.zero_le _) dX9_textByte_40
    · replace h := ifn hc h
      replace h := Option.some.inj h
      subst h
      exact g_throwW B tw_RX9_238_242 (j := 32) rfl hE (by decide) (Nat.le_of_ble_eq_true rfl) dX9_textByte_18 dX9_textByte_21 dX9_textByte_22 dX9_textByte_25 dX9_textByte_28 (Nat.le_refl 1) (Nat.le_refl 6)
set_option maxRecDepth 100000 in
set_option maxHeartbeats 4000000 in
theorem cX9_rowAtc {l : Launch} {v0 : Option Nat} {v1 : Int32} {σ : HpT} {o : Except Nat (Option Nat)} {σ' : HpT} {a b : Nat} (h : fX9_rowAt v0 v1 σ = some (o, σ', a, b)) : Ct l yX9_rowAt cX9_rowAt 2 (some (.object "NotaryBook$Book")) 3 62 [va_rf v0, .int v1] σ (oA o) σ' a b := by
  unfold fX9_rowAt at h
  refine ct_start mi_X9_rowAt.1 rfl (al_le (al_1 (rf_cat _) (al_1 rfl al_n)) (Nat.le_of_ble_eq_true rfl)) (ag_1 (rf_cat _) (ag_1 rfl ag_n)) (fun Δ Γ B hE hnm => ?_)
  have hka : 0 + a = a := Nat.zero_add a
  have hkb : 0 + b = b := Nat.zero_add b
  have hla : a ≤ a := Nat.le_refl a
  have hlb : b ≤ b := Nat.le_refl b
  refine g_aload_n B 0 dX9_rowAt_0 rfl rfl ?_
  refine g_iload_n B 1 dX9_rowAt_1 rfl rfl ?_
  replace h := bnP_s h
  obtain ⟨x1, h2, h⟩ := h
  refine g_ralds B (κ := 27) (by decide) rfl dX9_rowAt_2 h2 ?_
  replace h := bnA_o h
  obtain ⟨z32, s25, a26, b27, h4, er7, h, la, lb⟩ := h
  have k6 : ∀ j3, z32 = .ok j3 → GW Δ Γ (0 + a26) (0 + b27) 16 [(0, va_rf v0), (1, .int v1)] [] s25 := by
    intro j3 ej
    replace h := h _ ej
    obtain ⟨a28, b29, h, ea, eb⟩ := h
    subst ea; subst eb
    have hka := bk hka
    have hkb := bk hkb
    refine g_aload_n B 0 dX9_rowAt_16 rfl rfl ?_
    refine g_iload_n B 1 dX9_rowAt_17 rfl rfl ?_
    replace h := bnP_s h
    obtain ⟨x30, h31, h⟩ := h
    refine g_ralds B (κ := 27) (by decide) rfl dX9_rowAt_18 h31 ?_
    obtain ⟨w1, w2, w3, w4⟩ := inA h
    clear h
    subst w1
    subst w2
    subst w3
    subst w4
    exact g_aret B hE (Or.inl ⟨_, rfl⟩) (Nat.le_trans (Nat.le_of_eq hka) hla) (Nat.le_trans (Nat.le_of_eq hkb) hlb) dX9_rowAt_19
  clear h
  have h := h4
  clear h4
  replace hla := Nat.le_trans (bj hka la) hla
  replace hlb := Nat.le_trans (bj hkb lb) hlb
  replace hka : 0 + a26 = _ := rfl
  replace hkb : 0 + b27 = _ := rfl
  refine g_ifnonnull B 16 dX9_rowAt_3 (by decide) (fun hc => ?_) (fun hc => ?_)
  · replace h := ifn hc h
    obtain ⟨w1, w2, w3, w4⟩ := inA h
    clear h
    subst w1
    subst w2
    subst w3
    subst w4
    refine g_cost hka hkb ?_
    exact g_sub [0, 1] rfl (k6 _ rfl)
  · replace h := ifp hc h
    refine g_aload_n B 0 dX9_rowAt_6 rfl rfl ?_
    refine g_iload_n B 1 dX9_rowAt_7 rfl rfl ?_
    replace h := bnA_s h
    rcases h with ⟨e9, h9, e8⟩ | ⟨x8, s10, a11, b12, a13, b14, h9, h, ea, eb⟩
    · exact absurd h9 (by simp [nwA, nwR]; try (split <;> simp))
    · subst ea; subst eb
      have hka := bk hka
      have hkb := bk hkb
      refine g_new B nw_RX9_17 dX9_rowAt_8 h9 (Nat.le_trans (bm hka) hla) (Nat.le_trans (bm hkb) hlb) ?_
      refine g_dup B dX9_rowAt_11 (rf_cat _) ?_
      replace h := bnA_s h
      rcases h with ⟨e9, h16, e8⟩ | ⟨x15, s17, a18, b19, a20, b21, h16, h, ea, eb⟩
      · subst e8; obtain ⟨e8, e7, e6, e5⟩ := er7 _ rfl; subst e8; subst e7; subst e6; subst e5
        exact g_callIx (st := [va_rf x8, .int v1, va_rf v0]) B (cX1_initc (o := .error e9) h16) mi_X1_init lk_RX9_19 ⟨Nat.le_of_ble_eq_true rfl, Nat.le_of_ble_eq_true rfl⟩ rfl rfl (Nat.le_of_ble_eq_true rfl) dX9_rowAt_12 (Nat.le_trans (Nat.le_of_eq hka) hla) (Nat.le_trans (Nat.le_of_eq hkb) hlb) hE
      · subst ea; subst eb
        have hka := bk hka
        have hkb := bk hkb
        refine g_callIvA (st := [va_rf x8, .int v1, va_rf v0]) B (cX1_initc (o := .ok x15) h16) mi_X1_init lk_RX9_19 ⟨Nat.le_of_ble_eq_true rfl, Nat.le_of_ble_eq_true rfl⟩ rfl rfl (Nat.le_of_ble_eq_true rfl) dX9_rowAt_12 (Nat.le_trans (bm hka) hla) (Nat.le_trans (bm hkb) hlb) ?_
        replace h := bnP_s h
        obtain ⟨s24, h23, h⟩ := h
        refine g_rast B (κ := 27) (κ2 := 1) (by decide) (by decide) rfl (fun _ => rfl) dX9_rowAt_15 h23 ?_
        obtain ⟨w1, w2, w3, w4⟩ := inA h
        clear h
        subst w1
        subst w2
        subst w3
        subst w4
        refine g_cost hka hkb ?_
        exact g_sub [0, 1] rfl (k6 _ rfl)
