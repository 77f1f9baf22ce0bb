theorem mi_J0_charAt_5068e : MI yJ0_charAt_5068e cJ0_charAt_5068e 2 (some .char) 1 := ⟨by decide +kernel, (mw (i := 756) (by decide +kernel) rfl), (mw (i := 174) (by decide +kernel) rfl), by decide +kernel, by decide +kernel⟩
theorem mi_J0_checkIndex_df160 : MI yJ0_checkIndex_df160 cJ0_checkIndex_df160 2 none 2 := ⟨by decide +kernel, (mw (i := 766) (by decide +kernel) rfl), (mw (i := 174) (by decide +kernel) rfl), by decide +kernel, by decide +kernel⟩
theorem mi_J0_coder_7d493 : MI yJ0_coder_7d493 cJ0_coder_7d493 1 (some .byte) 0 := ⟨by decide +kernel, (mw (i := 751) (by decide +kernel) rfl), (mw (i := 174) (by decide +kernel) rfl), by decide +kernel, by decide +kernel⟩
theorem mi_J0_isLatin1_aae02 : MI yJ0_isLatin1_aae02 cJ0_isLatin1_aae02 1 (some .boolean) 0 := ⟨by decide +kernel, (mw (i := 760) (by decide +kernel) rfl), (mw (i := 174) (by decide +kernel) rfl), by decide +kernel, by decide +kernel⟩
theorem mi_J0_length_8abf5 : MI yJ0_length_8abf5 cJ0_length_8abf5 1 (some .int) 0 := ⟨by decide +kernel, (mw (i := 747) (by decide +kernel) rfl), (mw (i := 174) (by decide +kernel) rfl), by decide +kernel, by decide +kernel⟩
theorem mi_J1_canEncode_fc78d : MI yJ1_canEncode_fc78d cJ1_canEncode_fc78d 1 (some .boolean) 1 := ⟨by decide +kernel, (mw (i := 1748) (by decide +kernel) rfl), (mw (i := 182) (by decide +kernel) rfl), by decide +kernel, by decide +kernel⟩
theorem mi_J1_charAt_3b067 : MI yJ1_charAt_3b067 cJ1_charAt_3b067 2 (some .char) 2 := ⟨by decide +kernel, (mw (i := 763) (by decide +kernel) rfl), (mw (i := 182) (by decide +kernel) rfl), by decide +kernel, by decide +kernel⟩
theorem mi_J3_checkIndex_8e157 : MI yJ3_checkIndex_8e157 cJ3_checkIndex_8e157 3 (some .int) 3 := ⟨by decide +kernel, (mw (i := 771) (by decide +kernel) rfl), (mw (i := 183) (by decide +kernel) rfl), by decide +kernel, by decide +kernel⟩
theorem mi_J4_append_bf812 : MI yJ4_append_bf812 cJ4_append_bf812 2 (some (.object "java/lang/StringBuilder")) 1 := ⟨by decide +kernel, (mw (i := 1596) (by decide +kernel) rfl), (mw (i := 173) (by decide +kernel) rfl), by decide +kernel, by decide +kernel⟩
theorem mi_J4_append_cf468 : MI yJ4_append_cf468 cJ4_append_cf468 2 (some (.object "java/lang/StringBuilder")) 1 := ⟨by decide +kernel, (mw (i := 1742) (by decide +kernel) rfl), (mw (i := 173) (by decide +kernel) rfl), by decide +kernel, by decide +kernel⟩
theorem mi_J4_charAt_5068e : MI yJ4_charAt_5068e cJ4_charAt_5068e 2 (some .char) 1 := ⟨by decide +kernel, (mw (i := 1817) (by decide +kernel) rfl), (mw (i := 173) (by decide +kernel) rfl), by decide +kernel, by decide +kernel⟩
theorem mi_J4_init_da8c8 : MI yJ4_init_da8c8 cJ4_init_da8c8 1 none 0 := ⟨by decide +kernel, (mw (i := 508) (by decide +kernel) rfl), (mw (i := 173) (by decide +kernel) rfl), by decide +kernel, by decide +kernel⟩
theorem mi_J4_length_8abf5 : MI yJ4_length_8abf5 cJ4_length_8abf5 1 (some .int) 0 := ⟨by decide +kernel, (mw (i := 1641) (by decide +kernel) rfl), (mw (i := 173) (by decide +kernel) rfl), by decide +kernel, by decide +kernel⟩
theorem mi_J4_setLength_d00df : MI yJ4_setLength_d00df cJ4_setLength_d00df 2 none 1 := ⟨by decide +kernel, (mw (i := 1486) (by decide +kernel) rfl), (mw (i := 173) (by decide +kernel) rfl), by decide +kernel, by decide +kernel⟩
theorem mi_J5_append_3fe6f : MI yJ5_append_3fe6f cJ5_append_3fe6f 2 (some (.object "java/lang/AbstractStringBuilder")) 1 := ⟨by decide +kernel, (mw (i := 1745) (by decide +kernel) rfl), (mw (i := 172) (by decide +kernel) rfl), by decide +kernel, by decide +kernel⟩
theorem mi_J5_append_c97b9 : MI yJ5_append_c97b9 cJ5_append_c97b9 4 (some (.object "java/lang/AbstractStringBuilder")) 1 := ⟨by decide +kernel, (mw (i := 1599) (by decide +kernel) rfl), (mw (i := 172) (by decide +kernel) rfl), by decide +kernel, by decide +kernel⟩
theorem mi_J5_charAt_5068e : MI yJ5_charAt_5068e cJ5_charAt_5068e 5 (some .char) 1 := ⟨by decide +kernel, (mw (i := 1820) (by decide +kernel) rfl), (mw (i := 172) (by decide +kernel) rfl), by decide +kernel, by decide +kernel⟩
theorem mi_J5_ensureCapacityInternal_d00df : MI yJ5_ensureCapacityInternal_d00df cJ5_ensureCapacityInternal_d00df 3 none 1 := ⟨by decide +kernel, (mw (i := 1512) (by decide +kernel) rfl), (mw (i := 172) (by decide +kernel) rfl), by decide +kernel, by decide +kernel⟩
theorem mi_J5_init_d00df : MI yJ5_init_d00df cJ5_init_d00df 2 none 1 := ⟨by decide +kernel, (mw (i := 511) (by decide +kernel) rfl), (mw (i := 172) (by decide +kernel) rfl), by decide +kernel, by decide +kernel⟩
theorem mi_J5_isLatin1_aae02 : MI yJ5_isLatin1_aae02 cJ5_isLatin1_aae02 1 (some .boolean) 0 := ⟨by decide +kernel, (mw (i := 1542) (by decide +kernel) rfl), (mw (i := 172) (by decide +kernel) rfl), by decide +kernel, by decide +kernel⟩
theorem mi_J5_length_8abf5 : MI yJ5_length_8abf5 cJ5_length_8abf5 1 (some .int) 0 := ⟨by decide +kernel, (mw (i := 1643) (by decide +kernel) rfl), (mw (i := 172) (by decide +kernel) rfl), by decide +kernel, by decide +kernel⟩
theorem mi_J5_newCapacity_0f7a4 : MI yJ5_newCapacity_0f7a4 cJ5_newCapacity_0f7a4 6 (some .int) 1 := ⟨by decide +kernel, (mw (i := 1516) (by decide +kernel) rfl), (mw (i := 172) (by decide +kernel) rfl), by decide +kernel, by decide +kernel⟩
theorem mi_J5_setLength_d00df : MI yJ5_setLength_d00df cJ5_setLength_d00df 2 none 1 := ⟨by decide +kernel, (mw (i := 1489) (by decide +kernel) rfl), (mw (i := 172) (by decide +kernel) rfl), by decide +kernel, by decide +kernel⟩
theorem mi_J6_getChars_ba4f3 : MI yJ6_getChars_ba4f3 cJ6_getChars_ba4f3 7 (some .int) 3 := ⟨by decide +kernel, (mw (i := 1605) (by decide +kernel) rfl), (mw (i := 190) (by decide +kernel) rfl), by decide +kernel, by decide +kernel⟩
theorem mi_J6_stringSize_0f7a4 : MI yJ6_stringSize_0f7a4 cJ6_stringSize_0f7a4 4 (some .int) 1 := ⟨by decide +kernel, (mw (i := 1602) (by decide +kernel) rfl), (mw (i := 190) (by decide +kernel) rfl), by decide +kernel, by decide +kernel⟩
theorem mi_J7_copyOf_9075b : MI yJ7_copyOf_9075b cJ7_copyOf_9075b 3 (some (.array .byte)) 2 := ⟨by decide +kernel, (mw (i := 1528) (by decide +kernel) rfl), (mw (i := 189) (by decide +kernel) rfl), by decide +kernel, by decide +kernel⟩
theorem mi_J8_newLength_cabcc : MI yJ8_newLength_cabcc cJ8_newLength_cabcc 4 (some .int) 3 := ⟨by decide +kernel, (mw (i := 1519) (by decide +kernel) rfl), (mw (i := 188) (by decide +kernel) rfl), by decide +kernel, by decide +kernel⟩
theorem fl_RJ5_15 : Fl RJ5 15 11 0 (.array .byte) false := ⟨RJ4, TJ4, 4, tyJ4, rfl, by decide, rfl, lay_11, (mw (i := 522) (by decide +kernel) rfl), tyJ4_ok, nmJ4, tyJ4_ok 0 (by decide), rfl, by decide, by decide⟩
theorem fl_RJ5_22 : Fl RJ5 22 11 1 .byte false := ⟨RJ4, TJ4, 4, tyJ4, rfl, by decide, rfl, lay_11, (mw (i := 523) (by decide +kernel) rfl), tyJ4_ok, nmJ4, tyJ4_ok 1 (by decide), rfl, by decide, by decide⟩
theorem fl_RJ5_73 : Fl RJ5 73 11 2 .boolean false := ⟨RJ4, TJ4, 4, tyJ4, rfl, by decide, rfl, lay_11, (mw (i := 524) (by decide +kernel) rfl), tyJ4_ok, nmJ4, tyJ4_ok 2 (by decide), rfl, by decide, by decide⟩
theorem fl_RJ5_79 : Fl RJ5 79 11 3 .int false := ⟨RJ4, TJ4, 4, tyJ4, rfl, by decide, rfl, lay_11, (mw (i := 526) (by decide +kernel) rfl), tyJ4_ok, nmJ4, tyJ4_ok 3 (by decide), rfl, by decide, by decide⟩
theorem lk_RJ0_335 : LV RJ0 335 yJ0_coder_7d493 := ⟨(mw (i := 748) (by decide +kernel) rfl), (mw (i := 749) (by decide +kernel) rfl), (mw (i := 750) (by decide +kernel) rfl)⟩
theorem lk_RJ0_492 : LV RJ0 492 yJ0_isLatin1_aae02 := ⟨(mw (i := 757) (by decide +kernel) rfl), (mw (i := 758) (by decide +kernel) rfl), (mw (i := 759) (by decide +kernel) rfl)⟩
theorem lk_RJ0_495 : LSt RJ0 495 yJ1_charAt_3b067 := ⟨(mw (i := 761) (by decide +kernel) rfl), (mw (i := 762) (by decide +kernel) rfl)⟩
theorem lk_RJ0_1059 : LSt RJ0 1059 yJ3_checkIndex_8e157 := ⟨(mw (i := 769) (by decide +kernel) rfl), (mw (i := 770) (by decide +kernel) rfl)⟩
theorem lk_RJ1_9 : LSt RJ1 9 yJ0_checkIndex_df160 := ⟨(mw (i := 764) (by decide +kernel) rfl), (mw (i := 765) (by decide +kernel) rfl)⟩
theorem lk_RJ4_1 : LI RJ4 1 yJ5_init_d00df := ⟨(mw (i := 509) (by decide +kernel) rfl), (mw (i := 510) (by decide +kernel) rfl), rfl⟩
theorem lk_RJ4_50 : LSU RJ4 50 yJ5_append_3fe6f := ⟨(mw (i := 1743) (by decide +kernel) rfl), (mw (i := 2849) (by decide +kernel) rfl), (mw (i := 535) (by decide +kernel) rfl), (mw (i := 1744) (by decide +kernel) rfl), by decide +kernel⟩
theorem lk_RJ4_53 : LSU RJ4 53 yJ5_append_c97b9 := ⟨(mw (i := 1597) (by decide +kernel) rfl), (mw (i := 2847) (by decide +kernel) rfl), (mw (i := 535) (by decide +kernel) rfl), (mw (i := 1598) (by decide +kernel) rfl), by decide +kernel⟩
theorem lk_RJ4_329 : LSU RJ4 329 yJ5_charAt_5068e := ⟨(mw (i := 1818) (by decide +kernel) rfl), (mw (i := 2850) (by decide +kernel) rfl), (mw (i := 535) (by decide +kernel) rfl), (mw (i := 1819) (by decide +kernel) rfl), by decide +kernel⟩
theorem lk_RJ4_333 : LSU RJ4 333 yJ5_setLength_d00df := ⟨(mw (i := 1487) (by decide +kernel) rfl), (mw (i := 2839) (by decide +kernel) rfl), (mw (i := 535) (by decide +kernel) rfl), (mw (i := 1488) (by decide +kernel) rfl), by decide +kernel⟩
theorem lk_RJ4_343 : LSU RJ4 343 yJ5_length_8abf5 := ⟨(mw (i := 1642) (by decide +kernel) rfl), (mw (i := 1638) (by decide +kernel) rfl), (mw (i := 535) (by decide +kernel) rfl), (mw (i := 1637) (by decide +kernel) rfl), by decide +kernel⟩
theorem lk_RJ5_83 : LVc RJ5 83 yJ5_isLatin1_aae02 RJ4 := .of (mw (i := 1538) (by decide +kernel) rfl) (mw (i := 1539) (by decide +kernel) rfl) (mw (i := 1541) (by decide +kernel) rfl)
theorem lk_RJ5_100 : LVc RJ5 100 yJ5_ensureCapacityInternal_d00df RJ4 := .of (mw (i := 1509) (by decide +kernel) rfl) (mw (i := 1511) (by decide +kernel) rfl) mx0
theorem lk_RJ5_104 : LVc RJ5 104 yJ5_newCapacity_0f7a4 RJ4 := .of (mw (i := 1513) (by decide +kernel) rfl) (mw (i := 1515) (by decide +kernel) rfl) mx1
theorem lk_RJ5_108 : LSt RJ5 108 yJ7_copyOf_9075b := ⟨(mw (i := 1526) (by decide +kernel) rfl), (mw (i := 1527) (by decide +kernel) rfl)⟩
theorem lk_RJ5_114 : LSt RJ5 114 yJ8_newLength_cabcc := ⟨(mw (i := 1517) (by decide +kernel) rfl), (mw (i := 1518) (by decide +kernel) rfl)⟩
theorem lk_RJ5_144 : LSt RJ5 144 yJ0_checkIndex_df160 := ⟨(mw (i := 1822) (by decide +kernel) rfl), (mw (i := 765) (by decide +kernel) rfl)⟩
theorem lk_RJ5_191 : LSt RJ5 191 yJ1_canEncode_fc78d := ⟨(mw (i := 1746) (by decide +kernel) rfl), (mw (i := 1747) (by decide +kernel) rfl)⟩
theorem lk_RJ5_245 : LSt RJ5 245 yJ6_stringSize_0f7a4 := ⟨(mw (i := 1600) (by decide +kernel) rfl), (mw (i := 1601) (by decide +kernel) rfl)⟩
theorem lk_RJ5_248 : LSt RJ5 248 yJ6_getChars_ba4f3 := ⟨(mw (i := 1603) (by decide +kernel) rfl), (mw (i := 1604) (by decide +kernel) rfl)⟩
theorem cs_RJ5_39 : Cond.constant RJ5 39 2147483647 ∈ ALLw := mw (i := 1525) (by decide +kernel) rfl
theorem cs_RJ8_200 : Cond.constant RJ8 200 2147483639 ∈ ALLw := mw (i := 1521) (by decide +kernel) rfl
theorem na_byte : Cond.arrayClass (newarray.typeOf .byte) ∈ ALLw := mw (i := 252) (by decide +kernel) rfl
theorem mt_RJ5_138 : MTW RJ5 138 Lib.Math.min.name Lib.Math.min.code 2 := ⟨(mw (i := 1821) (by decide +kernel) rfl), (mw (i := 706) (by decide +kernel) rfl), (mw (i := 181) (by decide +kernel) rfl), (mw (i := 707) (by decide +kernel) rfl)⟩
theorem mt_RJ7_304 : MTW RJ7 304 Lib.Math.min.name Lib.Math.min.code 2 := ⟨(mw (i := 1536) (by decide +kernel) rfl), (mw (i := 706) (by decide +kernel) rfl), (mw (i := 181) (by decide +kernel) rfl), (mw (i := 707) (by decide +kernel) rfl)⟩
theorem mt_RJ8_194 : MTW RJ8 194 Lib.Math.max.name Lib.Math.max.code 2 := ⟨(mw (i := 1520) (by decide +kernel) rfl), (mw (i := 864) (by decide +kernel) rfl), (mw (i := 181) (by decide +kernel) rfl), (mw (i := 865) (by decide +kernel) rfl)⟩
theorem cp_RJ7_150 : CPW RJ7 150 := ⟨(mw (i := 1537) (by decide +kernel) rfl), (mw (i := 1374) (by decide +kernel) rfl), (mw (i := 1373) (by decide +kernel) rfl), (mw (i := 186) (by decide +kernel) rfl)⟩
theorem obj_RJ5_3 : OBW RJ5 3 := ⟨(mw (i := 512) (by decide +kernel) rfl), (mw (i := 198) (by decide +kernel) rfl), (mw (i := 199) (by decide +kernel) rfl)⟩
theorem sv_RJ0_1053 : Cond.fieldLink RJ0 1053 "jdk/internal/util/Preconditions" "SIOOBE_FORMATTER" "Ljava/util/function/BiFunction;" ∈ ALLw := mw (i := 767) (by decide +kernel) rfl
theorem sv_RJ0_15 : Cond.fieldLink RJ0 15 "java/lang/String" "coder" "B" ∈ ALLw := mw (i := 1673) (by decide +kernel) rfl
theorem sv_RJ0_38 : Cond.fieldLink RJ0 38 "java/lang/String" "COMPACT_STRINGS" "Z" ∈ ALLw := mw (i := 752) (by decide +kernel) rfl
theorem sv_RJ0_9 : Cond.fieldLink RJ0 9 "java/lang/String" "value" "[B" ∈ ALLw := mw (i := 1672) (by decide +kernel) rfl
theorem sv_RJ5_18 : Cond.fieldLink RJ5 18 "java/lang/String" "COMPACT_STRINGS" "Z" ∈ ALLw := mw (i := 513) (by decide +kernel) rfl
theorem sv_RJ6_83 : Cond.fieldLink RJ6 83 "java/lang/Integer" "DigitOnes" "[B" ∈ ALLw := mw (i := 1606) (by decide +kernel) rfl
theorem sv_RJ6_87 : Cond.fieldLink RJ6 87 "java/lang/Integer" "DigitTens" "[B" ∈ ALLw := mw (i := 1608) (by decide +kernel) rfl
theorem dJ0_coder_7d493_0 : decode cJ0_coder_7d493 0 = .ok (.getstatic 38, 3) := by decide +kernel
theorem dJ0_coder_7d493_3 : decode cJ0_coder_7d493 3 = .ok (.ifCond .eq 10, 3) := by decide +kernel
theorem dJ0_coder_7d493_6 : decode cJ0_coder_7d493 6 = .ok (.aload_n 0, 1) := by decide +kernel
theorem dJ0_coder_7d493_7 : decode cJ0_coder_7d493 7 = .ok (.getfield 15, 3) := by decide +kernel
theorem dJ0_coder_7d493_10 : decode cJ0_coder_7d493 10 = .ok (.goto 4, 3) := by decide +kernel
theorem dJ0_coder_7d493_14 : decode cJ0_coder_7d493 14 = .ok (.ireturn, 1) := by decide +kernel
theorem dJ0_length_8abf5_0 : decode cJ0_length_8abf5 0 = .ok (.aload_n 0, 1) := by decide +kernel
theorem dJ0_length_8abf5_1 : decode cJ0_length_8abf5 1 = .ok (.getfield 9, 3) := by decide +kernel
theorem dJ0_length_8abf5_4 : decode cJ0_length_8abf5 4 = .ok (.arraylength, 1) := by decide +kernel
theorem dJ0_length_8abf5_5 : decode cJ0_length_8abf5 5 = .ok (.aload_n 0, 1) := by decide +kernel
theorem dJ0_length_8abf5_6 : decode cJ0_length_8abf5 6 = .ok (.invokevirtual 335, 3) := by decide +kernel
theorem dJ0_length_8abf5_9 : decode cJ0_length_8abf5 9 = .ok (.ishr, 1) := by decide +kernel
theorem dJ0_length_8abf5_10 : decode cJ0_length_8abf5 10 = .ok (.ireturn, 1) := by decide +kernel
theorem dJ0_isLatin1_aae02_0 : decode cJ0_isLatin1_aae02 0 = .ok (.getstatic 38, 3) := by decide +kernel
theorem dJ0_isLatin1_aae02_3 : decode cJ0_isLatin1_aae02 3 = .ok (.ifCond .eq 14, 3) := by decide +kernel
theorem dJ0_isLatin1_aae02_6 : decode cJ0_isLatin1_aae02 6 = .ok (.aload_n 0, 1) := by decide +kernel
theorem dJ0_isLatin1_aae02_7 : decode cJ0_isLatin1_aae02 7 = .ok (.getfield 15, 3) := by decide +kernel
theorem dJ0_isLatin1_aae02_10 : decode cJ0_isLatin1_aae02 10 = .ok (.ifCond .ne 7, 3) := by decide +kernel
theorem dJ0_isLatin1_aae02_13 : decode cJ0_isLatin1_aae02 13 = .ok (.iconst 1, 1) := by decide +kernel
theorem dJ0_isLatin1_aae02_14 : decode cJ0_isLatin1_aae02 14 = .ok (.goto 4, 3) := by decide +kernel
theorem dJ0_isLatin1_aae02_17 : decode cJ0_isLatin1_aae02 17 = .ok (.iconst 0, 1) := by decide +kernel
theorem dJ0_isLatin1_aae02_18 : decode cJ0_isLatin1_aae02 18 = .ok (.ireturn, 1) := by decide +kernel
theorem dJ3_checkIndex_8e157_0 : decode cJ3_checkIndex_8e157 0 = .ok (.iload_n 0, 1) := by decide +kernel
theorem dJ3_checkIndex_8e157_1 : decode cJ3_checkIndex_8e157 1 = .ok (.ifCond .lt 8, 3) := by decide +kernel
theorem dJ3_checkIndex_8e157_4 : decode cJ3_checkIndex_8e157 4 = .ok (.iload_n 0, 1) := by decide +kernel
theorem dJ3_checkIndex_8e157_5 : decode cJ3_checkIndex_8e157 5 = .ok (.iload_n 1, 1) := by decide +kernel
theorem dJ3_checkIndex_8e157_6 : decode cJ3_checkIndex_8e157 6 = .ok (.if_icmp .lt 10, 3) := by decide +kernel
theorem dJ3_checkIndex_8e157_9 : decode cJ3_checkIndex_8e157 9 = .ok (.aload_n 2, 1) := by decide +kernel
theorem dJ3_checkIndex_8e157_10 : decode cJ3_checkIndex_8e157 10 = .ok (.iload_n 0, 1) := by decide +kernel
theorem dJ3_checkIndex_8e157_11 : decode cJ3_checkIndex_8e157 11 = .ok (.iload_n 1, 1) := by decide +kernel
theorem dJ3_checkIndex_8e157_16 : decode cJ3_checkIndex_8e157 16 = .ok (.iload_n 0, 1) := by decide +kernel
theorem dJ3_checkIndex_8e157_17 : decode cJ3_checkIndex_8e157 17 = .ok (.ireturn, 1) := by decide +kernel
theorem dJ0_checkIndex_df160_0 : decode cJ0_checkIndex_df160 0 = .ok (.iload_n 0, 1) := by decide +kernel
theorem dJ0_checkIndex_df160_1 : decode cJ0_checkIndex_df160 1 = .ok (.iload_n 1, 1) := by decide +kernel
theorem dJ0_checkIndex_df160_2 : decode cJ0_checkIndex_df160 2 = .ok (.getstatic 1053, 3) := by decide +kernel
theorem dJ0_checkIndex_df160_5 : decode cJ0_checkIndex_df160 5 = .ok (.invokestatic 1059, 3) := by decide +kernel
theorem dJ0_checkIndex_df160_8 : decode cJ0_checkIndex_df160 8 = .ok (.pop, 1) := by decide +kernel
theorem dJ0_checkIndex_df160_9 : decode cJ0_checkIndex_df160 9 = .ok (.return_, 1) := by decide +kernel
theorem dJ1_charAt_3b067_0 : decode cJ1_charAt_3b067 0 = .ok (.iload_n 1, 1) := by decide +kernel
theorem dJ1_charAt_3b067_1 : decode cJ1_charAt_3b067 1 = .ok (.aload_n 0, 1) := by decide +kernel
theorem dJ1_charAt_3b067_2 : decode cJ1_charAt_3b067 2 = .ok (.arraylength, 1) := by decide +kernel
theorem dJ1_charAt_3b067_3 : decode cJ1_charAt_3b067 3 = .ok (.invokestatic 9, 3) := by decide +kernel
theorem dJ1_charAt_3b067_6 : decode cJ1_charAt_3b067 6 = .ok (.aload_n 0, 1) := by decide +kernel
theorem dJ1_charAt_3b067_7 : decode cJ1_charAt_3b067 7 = .ok (.iload_n 1, 1) := by decide +kernel
theorem dJ1_charAt_3b067_8 : decode cJ1_charAt_3b067 8 = .ok (.baload, 1) := by decide +kernel
theorem dJ1_charAt_3b067_9 : decode cJ1_charAt_3b067 9 = .ok (.sipush 255, 3) := by decide +kernel
theorem dJ1_charAt_3b067_12 : decode cJ1_charAt_3b067 12 = .ok (.iand, 1) := by decide +kernel
theorem dJ1_charAt_3b067_13 : decode cJ1_charAt_3b067 13 = .ok (.i2c, 1) := by decide +kernel
theorem dJ1_charAt_3b067_14 : decode cJ1_charAt_3b067 14 = .ok (.ireturn, 1) := by decide +kernel
theorem dJ0_charAt_5068e_0 : decode cJ0_charAt_5068e 0 = .ok (.aload_n 0, 1) := by decide +kernel
theorem dJ0_charAt_5068e_1 : decode cJ0_charAt_5068e 1 = .ok (.invokevirtual 492, 3) := by decide +kernel
theorem dJ0_charAt_5068e_4 : decode cJ0_charAt_5068e 4 = .ok (.ifCond .eq 12, 3) := by decide +kernel
theorem dJ0_charAt_5068e_7 : decode cJ0_charAt_5068e 7 = .ok (.aload_n 0, 1) := by decide +kernel
theorem dJ0_charAt_5068e_8 : decode cJ0_charAt_5068e 8 = .ok (.getfield 9, 3) := by decide +kernel
theorem dJ0_charAt_5068e_11 : decode cJ0_charAt_5068e 11 = .ok (.iload_n 1, 1) := by decide +kernel
theorem dJ0_charAt_5068e_12 : decode cJ0_charAt_5068e 12 = .ok (.invokestatic 495, 3) := by decide +kernel
theorem dJ0_charAt_5068e_15 : decode cJ0_charAt_5068e 15 = .ok (.ireturn, 1) := by decide +kernel
theorem dJ0_charAt_5068e_16 : decode cJ0_charAt_5068e 16 = .ok (.aload_n 0, 1) := by decide +kernel
theorem dJ0_charAt_5068e_17 : decode cJ0_charAt_5068e 17 = .ok (.getfield 9, 3) := by decide +kernel
theorem dJ0_charAt_5068e_20 : decode cJ0_charAt_5068e 20 = .ok (.iload_n 1, 1) := by decide +kernel
theorem dJ5_init_d00df_0 : decode cJ5_init_d00df 0 = .ok (.aload_n 0, 1) := by decide +kernel
theorem dJ5_init_d00df_1 : decode cJ5_init_d00df 1 = .ok (.invokespecial 3, 3) := by decide +kernel
theorem dJ5_init_d00df_4 : decode cJ5_init_d00df 4 = .ok (.getstatic 18, 3) := by decide +kernel
theorem dJ5_init_d00df_7 : decode cJ5_init_d00df 7 = .ok (.ifCond .eq 18, 3) := by decide +kernel
theorem dJ5_init_d00df_10 : decode cJ5_init_d00df 10 = .ok (.aload_n 0, 1) := by decide +kernel
theorem dJ5_init_d00df_11 : decode cJ5_init_d00df 11 = .ok (.iload_n 1, 1) := by decide +kernel
theorem dJ5_init_d00df_12 : decode cJ5_init_d00df 12 = .ok (.newarray .byte, 2) := by decide +kernel
theorem dJ5_init_d00df_14 : decode cJ5_init_d00df 14 = .ok (.putfield 15, 3) := by decide +kernel
theorem dJ5_init_d00df_17 : decode cJ5_init_d00df 17 = .ok (.aload_n 0, 1) := by decide +kernel
theorem dJ5_init_d00df_18 : decode cJ5_init_d00df 18 = .ok (.iconst 0, 1) := by decide +kernel
theorem dJ5_init_d00df_19 : decode cJ5_init_d00df 19 = .ok (.putfield 22, 3) := by decide +kernel
theorem dJ5_init_d00df_22 : decode cJ5_init_d00df 22 = .ok (.goto 16, 3) := by decide +kernel
theorem dJ5_init_d00df_38 : decode cJ5_init_d00df 38 = .ok (.return_, 1) := by decide +kernel
theorem dJ4_init_da8c8_0 : decode cJ4_init_da8c8 0 = .ok (.aload_n 0, 1) := by decide +kernel
theorem dJ4_init_da8c8_1 : decode cJ4_init_da8c8 1 = .ok (.bipush 16, 2) := by decide +kernel
theorem dJ4_init_da8c8_3 : decode cJ4_init_da8c8 3 = .ok (.invokespecial 1, 3) := by decide +kernel
theorem dJ4_init_da8c8_6 : decode cJ4_init_da8c8 6 = .ok (.return_, 1) := by decide +kernel
theorem dJ8_newLength_cabcc_0 : decode cJ8_newLength_cabcc 0 = .ok (.iload_n 0, 1) := by decide +kernel
theorem dJ8_newLength_cabcc_1 : decode cJ8_newLength_cabcc 1 = .ok (.iload_n 1, 1) := by decide +kernel
theorem dJ8_newLength_cabcc_2 : decode cJ8_newLength_cabcc 2 = .ok (.iload_n 2, 1) := by decide +kernel
theorem dJ8_newLength_cabcc_3 : decode cJ8_newLength_cabcc 3 = .ok (.invokestatic 194, 3) := by decide +kernel
theorem dJ8_newLength_cabcc_6 : decode cJ8_newLength_cabcc 6 = .ok (.iadd, 1) := by decide +kernel
theorem dJ8_newLength_cabcc_7 : decode cJ8_newLength_cabcc 7 = .ok (.istore_n 3, 1) := by decide +kernel
theorem dJ8_newLength_cabcc_8 : decode cJ8_newLength_cabcc 8 = .ok (.iconst 0, 1) := by decide +kernel
theorem dJ8_newLength_cabcc_9 : decode cJ8_newLength_cabcc 9 = .ok (.iload_n 3, 1) := by decide +kernel
theorem dJ8_newLength_cabcc_10 : decode cJ8_newLength_cabcc 10 = .ok (.if_icmp .ge 11, 3) := by decide +kernel
theorem dJ8_newLength_cabcc_13 : decode cJ8_newLength_cabcc 13 = .ok (.iload_n 3, 1) := by decide +kernel
theorem dJ8_newLength_cabcc_14 : decode cJ8_newLength_cabcc 14 = .ok (.ldc 200, 2) := by decide +kernel
theorem dJ8_newLength_cabcc_16 : decode cJ8_newLength_cabcc 16 = .ok (.if_icmp .gt 5, 3) := by decide +kernel
theorem dJ8_newLength_cabcc_19 : decode cJ8_newLength_cabcc 19 = .ok (.iload_n 3, 1) := by decide +kernel
theorem dJ8_newLength_cabcc_20 : decode cJ8_newLength_cabcc 20 = .ok (.ireturn, 1) := by decide +kernel
theorem dJ8_newLength_cabcc_21 : decode cJ8_newLength_cabcc 21 = .ok (.iload_n 0, 1) := by decide +kernel
theorem dJ8_newLength_cabcc_22 : decode cJ8_newLength_cabcc 22 = .ok (.iload_n 1, 1) := by decide +kernel
theorem dJ5_newCapacity_0f7a4_0 : decode cJ5_newCapacity_0f7a4 0 = .ok (.aload_n 0, 1) := by decide +kernel
theorem dJ5_newCapacity_0f7a4_1 : decode cJ5_newCapacity_0f7a4 1 = .ok (.getfield 15, 3) := by decide +kernel
theorem dJ5_newCapacity_0f7a4_4 : decode cJ5_newCapacity_0f7a4 4 = .ok (.arraylength, 1) := by decide +kernel
theorem dJ5_newCapacity_0f7a4_5 : decode cJ5_newCapacity_0f7a4 5 = .ok (.istore_n 2, 1) := by decide +kernel
theorem dJ5_newCapacity_0f7a4_6 : decode cJ5_newCapacity_0f7a4 6 = .ok (.iload_n 1, 1) := by decide +kernel
theorem dJ5_newCapacity_0f7a4_7 : decode cJ5_newCapacity_0f7a4 7 = .ok (.aload_n 0, 1) := by decide +kernel
theorem dJ5_newCapacity_0f7a4_8 : decode cJ5_newCapacity_0f7a4 8 = .ok (.getfield 22, 3) := by decide +kernel
theorem dJ5_newCapacity_0f7a4_11 : decode cJ5_newCapacity_0f7a4 11 = .ok (.ishl, 1) := by decide +kernel
theorem dJ5_newCapacity_0f7a4_12 : decode cJ5_newCapacity_0f7a4 12 = .ok (.istore_n 3, 1) := by decide +kernel
theorem dJ5_newCapacity_0f7a4_13 : decode cJ5_newCapacity_0f7a4 13 = .ok (.iload_n 3, 1) := by decide +kernel
theorem dJ5_newCapacity_0f7a4_14 : decode cJ5_newCapacity_0f7a4 14 = .ok (.iload_n 2, 1) := by decide +kernel
theorem dJ5_newCapacity_0f7a4_15 : decode cJ5_newCapacity_0f7a4 15 = .ok (.isub, 1) := by decide +kernel
theorem dJ5_newCapacity_0f7a4_16 : decode cJ5_newCapacity_0f7a4 16 = .ok (.istore 4, 2) := by decide +kernel
theorem dJ5_newCapacity_0f7a4_18 : decode cJ5_newCapacity_0f7a4 18 = .ok (.iload_n 2, 1) := by decide +kernel
theorem dJ5_newCapacity_0f7a4_19 : decode cJ5_newCapacity_0f7a4 19 = .ok (.iload 4, 2) := by decide +kernel
theorem dJ5_newCapacity_0f7a4_21 : decode cJ5_newCapacity_0f7a4 21 = .ok (.iload_n 2, 1) := by decide +kernel
theorem dJ5_newCapacity_0f7a4_22 : decode cJ5_newCapacity_0f7a4 22 = .ok (.iconst 2, 1) := by decide +kernel
theorem dJ5_newCapacity_0f7a4_23 : decode cJ5_newCapacity_0f7a4 23 = .ok (.aload_n 0, 1) := by decide +kernel
theorem dJ5_newCapacity_0f7a4_24 : decode cJ5_newCapacity_0f7a4 24 = .ok (.getfield 22, 3) := by decide +kernel
theorem dJ5_newCapacity_0f7a4_27 : decode cJ5_newCapacity_0f7a4 27 = .ok (.ishl, 1) := by decide +kernel
theorem dJ5_newCapacity_0f7a4_28 : decode cJ5_newCapacity_0f7a4 28 = .ok (.iadd, 1) := by decide +kernel
theorem dJ5_newCapacity_0f7a4_29 : decode cJ5_newCapacity_0f7a4 29 = .ok (.invokestatic 114, 3) := by decide +kernel
theorem dJ5_newCapacity_0f7a4_32 : decode cJ5_newCapacity_0f7a4 32 = .ok (.istore 5, 2) := by decide +kernel
theorem dJ5_newCapacity_0f7a4_34 : decode cJ5_newCapacity_0f7a4 34 = .ok (.iload 5, 2) := by decide +kernel
theorem dJ5_newCapacity_0f7a4_36 : decode cJ5_newCapacity_0f7a4 36 = .ok (.ldc 39, 2) := by decide +kernel
theorem dJ5_newCapacity_0f7a4_38 : decode cJ5_newCapacity_0f7a4 38 = .ok (.if_icmp .ne 13, 3) := by decide +kernel
theorem dJ5_newCapacity_0f7a4_51 : decode cJ5_newCapacity_0f7a4 51 = .ok (.iload 5, 2) := by decide +kernel
theorem dJ5_newCapacity_0f7a4_53 : decode cJ5_newCapacity_0f7a4 53 = .ok (.aload_n 0, 1) := by decide +kernel
theorem dJ5_newCapacity_0f7a4_54 : decode cJ5_newCapacity_0f7a4 54 = .ok (.getfield 22, 3) := by decide +kernel
theorem dJ5_newCapacity_0f7a4_57 : decode cJ5_newCapacity_0f7a4 57 = .ok (.ishr, 1) := by decide +kernel
theorem dJ5_newCapacity_0f7a4_58 : decode cJ5_newCapacity_0f7a4 58 = .ok (.ireturn, 1) := by decide +kernel
theorem dJ7_copyOf_9075b_0 : decode cJ7_copyOf_9075b 0 = .ok (.iload_n 1, 1) := by decide +kernel
theorem dJ7_copyOf_9075b_1 : decode cJ7_copyOf_9075b 1 = .ok (.aload_n 0, 1) := by decide +kernel
theorem dJ7_copyOf_9075b_2 : decode cJ7_copyOf_9075b 2 = .ok (.arraylength, 1) := by decide +kernel
theorem dJ7_copyOf_9075b_3 : decode cJ7_copyOf_9075b 3 = .ok (.if_icmp .ne 11, 3) := by decide +kernel
theorem dJ7_copyOf_9075b_6 : decode cJ7_copyOf_9075b 6 = .ok (.aload_n 0, 1) := by decide +kernel
theorem dJ7_copyOf_9075b_14 : decode cJ7_copyOf_9075b 14 = .ok (.iload_n 1, 1) := by decide +kernel
theorem dJ7_copyOf_9075b_15 : decode cJ7_copyOf_9075b 15 = .ok (.newarray .byte, 2) := by decide +kernel
theorem dJ7_copyOf_9075b_17 : decode cJ7_copyOf_9075b 17 = .ok (.astore_n 2, 1) := by decide +kernel
theorem dJ7_copyOf_9075b_18 : decode cJ7_copyOf_9075b 18 = .ok (.aload_n 0, 1) := by decide +kernel
theorem dJ7_copyOf_9075b_19 : decode cJ7_copyOf_9075b 19 = .ok (.iconst 0, 1) := by decide +kernel
theorem dJ7_copyOf_9075b_20 : decode cJ7_copyOf_9075b 20 = .ok (.aload_n 2, 1) := by decide +kernel
theorem dJ7_copyOf_9075b_21 : decode cJ7_copyOf_9075b 21 = .ok (.iconst 0, 1) := by decide +kernel
theorem dJ7_copyOf_9075b_22 : decode cJ7_copyOf_9075b 22 = .ok (.aload_n 0, 1) := by decide +kernel
theorem dJ7_copyOf_9075b_23 : decode cJ7_copyOf_9075b 23 = .ok (.arraylength, 1) := by decide +kernel
theorem dJ7_copyOf_9075b_24 : decode cJ7_copyOf_9075b 24 = .ok (.iload_n 1, 1) := by decide +kernel
theorem dJ7_copyOf_9075b_25 : decode cJ7_copyOf_9075b 25 = .ok (.invokestatic 304, 3) := by decide +kernel
theorem dJ7_copyOf_9075b_28 : decode cJ7_copyOf_9075b 28 = .ok (.invokestatic 150, 3) := by decide +kernel
theorem dJ7_copyOf_9075b_31 : decode cJ7_copyOf_9075b 31 = .ok (.aload_n 2, 1) := by decide +kernel
theorem dJ7_copyOf_9075b_32 : decode cJ7_copyOf_9075b 32 = .ok (.areturn, 1) := by decide +kernel
theorem dJ5_ensureCapacityInternal_d00df_0 : decode cJ5_ensureCapacityInternal_d00df 0 = .ok (.aload_n 0, 1) := by decide +kernel
theorem dJ5_ensureCapacityInternal_d00df_1 : decode cJ5_ensureCapacityInternal_d00df 1 = .ok (.getfield 15, 3) := by decide +kernel
theorem dJ5_ensureCapacityInternal_d00df_4 : decode cJ5_ensureCapacityInternal_d00df 4 = .ok (.arraylength, 1) := by decide +kernel
theorem dJ5_ensureCapacityInternal_d00df_5 : decode cJ5_ensureCapacityInternal_d00df 5 = .ok (.aload_n 0, 1) := by decide +kernel
theorem dJ5_ensureCapacityInternal_d00df_6 : decode cJ5_ensureCapacityInternal_d00df 6 = .ok (.getfield 22, 3) := by decide +kernel
theorem dJ5_ensureCapacityInternal_d00df_9 : decode cJ5_ensureCapacityInternal_d00df 9 = .ok (.ishr, 1) := by decide +kernel
theorem dJ5_ensureCapacityInternal_d00df_10 : decode cJ5_ensureCapacityInternal_d00df 10 = .ok (.istore_n 2, 1) := by decide +kernel
theorem dJ5_ensureCapacityInternal_d00df_11 : decode cJ5_ensureCapacityInternal_d00df 11 = .ok (.iload_n 1, 1) := by decide +kernel
theorem dJ5_ensureCapacityInternal_d00df_12 : decode cJ5_ensureCapacityInternal_d00df 12 = .ok (.iload_n 2, 1) := by decide +kernel
theorem dJ5_ensureCapacityInternal_d00df_13 : decode cJ5_ensureCapacityInternal_d00df 13 = .ok (.isub, 1) := by decide +kernel
theorem dJ5_ensureCapacityInternal_d00df_14 : decode cJ5_ensureCapacityInternal_d00df 14 = .ok (.ifCond .le 24, 3) := by decide +kernel
theorem dJ5_ensureCapacityInternal_d00df_17 : decode cJ5_ensureCapacityInternal_d00df 17 = .ok (.aload_n 0, 1) := by decide +kernel
theorem dJ5_ensureCapacityInternal_d00df_18 : decode cJ5_ensureCapacityInternal_d00df 18 = .ok (.aload_n 0, 1) := by decide +kernel
theorem dJ5_ensureCapacityInternal_d00df_19 : decode cJ5_ensureCapacityInternal_d00df 19 = .ok (.getfield 15, 3) := by decide +kernel
theorem dJ5_ensureCapacityInternal_d00df_22 : decode cJ5_ensureCapacityInternal_d00df 22 = .ok (.aload_n 0, 1) := by decide +kernel
theorem dJ5_ensureCapacityInternal_d00df_23 : decode cJ5_ensureCapacityInternal_d00df 23 = .ok (.iload_n 1, 1) := by decide +kernel
theorem dJ5_ensureCapacityInternal_d00df_24 : decode cJ5_ensureCapacityInternal_d00df 24 = .ok (.invokevirtual 104, 3) := by decide +kernel
theorem dJ5_ensureCapacityInternal_d00df_27 : decode cJ5_ensureCapacityInternal_d00df 27 = .ok (.aload_n 0, 1) := by decide +kernel
theorem dJ5_ensureCapacityInternal_d00df_28 : decode cJ5_ensureCapacityInternal_d00df 28 = .ok (.getfield 22, 3) := by decide +kernel
theorem dJ5_ensureCapacityInternal_d00df_31 : decode cJ5_ensureCapacityInternal_d00df 31 = .ok (.ishl, 1) := by decide +kernel
theorem dJ5_ensureCapacityInternal_d00df_32 : decode cJ5_ensureCapacityInternal_d00df 32 = .ok (.invokestatic 108, 3) := by decide +kernel
theorem dJ5_ensureCapacityInternal_d00df_35 : decode cJ5_ensureCapacityInternal_d00df 35 = .ok (.putfield 15, 3) := by decide +kernel
theorem dJ5_ensureCapacityInternal_d00df_38 : decode cJ5_ensureCapacityInternal_d00df 38 = .ok (.return_, 1) := by decide +kernel
theorem dJ5_isLatin1_aae02_0 : decode cJ5_isLatin1_aae02 0 = .ok (.getstatic 18, 3) := by decide +kernel
theorem dJ5_isLatin1_aae02_3 : decode cJ5_isLatin1_aae02 3 = .ok (.ifCond .eq 14, 3) := by decide +kernel
theorem dJ5_isLatin1_aae02_6 : decode cJ5_isLatin1_aae02 6 = .ok (.aload_n 0, 1) := by decide +kernel
theorem dJ5_isLatin1_aae02_7 : decode cJ5_isLatin1_aae02 7 = .ok (.getfield 22, 3) := by decide +kernel
theorem dJ5_isLatin1_aae02_10 : decode cJ5_isLatin1_aae02 10 = .ok (.ifCond .ne 7, 3) := by decide +kernel
theorem dJ5_isLatin1_aae02_13 : decode cJ5_isLatin1_aae02 13 = .ok (.iconst 1, 1) := by decide +kernel
theorem dJ5_isLatin1_aae02_14 : decode cJ5_isLatin1_aae02 14 = .ok (.goto 4, 3) := by decide +kernel
theorem dJ5_isLatin1_aae02_17 : decode cJ5_isLatin1_aae02 17 = .ok (.iconst 0, 1) := by decide +kernel
theorem dJ5_isLatin1_aae02_18 : decode cJ5_isLatin1_aae02 18 = .ok (.ireturn, 1) := by decide +kernel
theorem dJ5_setLength_d00df_0 : decode cJ5_setLength_d00df 0 = .ok (.iload_n 1, 1) := by decide +kernel
theorem dJ5_setLength_d00df_1 : decode cJ5_setLength_d00df 1 = .ok (.ifCond .ge 12, 3) := by decide +kernel
theorem dJ5_setLength_d00df_13 : decode cJ5_setLength_d00df 13 = .ok (.aload_n 0, 1) := by decide +kernel
theorem dJ5_setLength_d00df_14 : decode cJ5_setLength_d00df 14 = .ok (.iload_n 1, 1) := by decide +kernel
theorem dJ5_setLength_d00df_15 : decode cJ5_setLength_d00df 15 = .ok (.invokevirtual 100, 3) := by decide +kernel
theorem dJ5_setLength_d00df_18 : decode cJ5_setLength_d00df 18 = .ok (.aload_n 0, 1) := by decide +kernel
theorem dJ5_setLength_d00df_19 : decode cJ5_setLength_d00df 19 = .ok (.getfield 79, 3) := by decide +kernel
theorem dJ5_setLength_d00df_22 : decode cJ5_setLength_d00df 22 = .ok (.iload_n 1, 1) := by decide +kernel
theorem dJ5_setLength_d00df_23 : decode cJ5_setLength_d00df 23 = .ok (.if_icmp .ge 40, 3) := by decide +kernel
theorem dJ5_setLength_d00df_26 : decode cJ5_setLength_d00df 26 = .ok (.aload_n 0, 1) := by decide +kernel
theorem dJ5_setLength_d00df_27 : decode cJ5_setLength_d00df 27 = .ok (.invokevirtual 83, 3) := by decide +kernel
theorem dJ5_setLength_d00df_30 : decode cJ5_setLength_d00df 30 = .ok (.ifCond .eq 18, 3) := by decide +kernel
theorem dJ5_setLength_d00df_33 : decode cJ5_setLength_d00df 33 = .ok (.aload_n 0, 1) := by decide +kernel
theorem dJ5_setLength_d00df_34 : decode cJ5_setLength_d00df 34 = .ok (.getfield 15, 3) := by decide +kernel
theorem dJ5_setLength_d00df_37 : decode cJ5_setLength_d00df 37 = .ok (.aload_n 0, 1) := by decide +kernel
theorem dJ5_setLength_d00df_38 : decode cJ5_setLength_d00df 38 = .ok (.getfield 79, 3) := by decide +kernel
theorem dJ5_setLength_d00df_41 : decode cJ5_setLength_d00df 41 = .ok (.iload_n 1, 1) := by decide +kernel
theorem dJ5_setLength_d00df_48 : decode cJ5_setLength_d00df 48 = .ok (.aload_n 0, 1) := by decide +kernel
theorem dJ5_setLength_d00df_49 : decode cJ5_setLength_d00df 49 = .ok (.getfield 15, 3) := by decide +kernel
theorem dJ5_setLength_d00df_52 : decode cJ5_setLength_d00df 52 = .ok (.aload_n 0, 1) := by decide +kernel
theorem dJ5_setLength_d00df_53 : decode cJ5_setLength_d00df 53 = .ok (.getfield 79, 3) := by decide +kernel
theorem dJ5_setLength_d00df_56 : decode cJ5_setLength_d00df 56 = .ok (.iload_n 1, 1) := by decide +kernel
theorem dJ5_setLength_d00df_63 : decode cJ5_setLength_d00df 63 = .ok (.aload_n 0, 1) := by decide +kernel
theorem dJ5_setLength_d00df_64 : decode cJ5_setLength_d00df 64 = .ok (.getfield 79, 3) := by decide +kernel
theorem dJ5_setLength_d00df_67 : decode cJ5_setLength_d00df 67 = .ok (.iload_n 1, 1) := by decide +kernel
theorem dJ5_setLength_d00df_68 : decode cJ5_setLength_d00df 68 = .ok (.if_icmp .le 8, 3) := by decide +kernel
theorem dJ5_setLength_d00df_71 : decode cJ5_setLength_d00df 71 = .ok (.aload_n 0, 1) := by decide +kernel
theorem dJ5_setLength_d00df_72 : decode cJ5_setLength_d00df 72 = .ok (.iconst 1, 1) := by decide +kernel
theorem dJ5_setLength_d00df_73 : decode cJ5_setLength_d00df 73 = .ok (.putfield 73, 3) := by decide +kernel
theorem dJ5_setLength_d00df_76 : decode cJ5_setLength_d00df 76 = .ok (.aload_n 0, 1) := by decide +kernel
theorem dJ5_setLength_d00df_77 : decode cJ5_setLength_d00df 77 = .ok (.iload_n 1, 1) := by decide +kernel
theorem dJ5_setLength_d00df_78 : decode cJ5_setLength_d00df 78 = .ok (.putfield 79, 3) := by decide +kernel
theorem dJ5_setLength_d00df_81 : decode cJ5_setLength_d00df 81 = .ok (.return_, 1) := by decide +kernel
theorem dJ4_setLength_d00df_0 : decode cJ4_setLength_d00df 0 = .ok (.aload_n 0, 1) := by decide +kernel
theorem dJ4_setLength_d00df_1 : decode cJ4_setLength_d00df 1 = .ok (.iload_n 1, 1) := by decide +kernel
theorem dJ4_setLength_d00df_2 : decode cJ4_setLength_d00df 2 = .ok (.invokespecial 333, 3) := by decide +kernel
theorem dJ4_setLength_d00df_5 : decode cJ4_setLength_d00df 5 = .ok (.return_, 1) := by decide +kernel
theorem dJ5_length_8abf5_0 : decode cJ5_length_8abf5 0 = .ok (.aload_n 0, 1) := by decide +kernel
theorem dJ5_length_8abf5_1 : decode cJ5_length_8abf5 1 = .ok (.getfield 79, 3) := by decide +kernel
theorem dJ5_length_8abf5_4 : decode cJ5_length_8abf5 4 = .ok (.ireturn, 1) := by decide +kernel
theorem dJ4_length_8abf5_0 : decode cJ4_length_8abf5 0 = .ok (.aload_n 0, 1) := by decide +kernel
theorem dJ4_length_8abf5_1 : decode cJ4_length_8abf5 1 = .ok (.invokespecial 343, 3) := by decide +kernel
theorem dJ4_length_8abf5_4 : decode cJ4_length_8abf5 4 = .ok (.ireturn, 1) := by decide +kernel
theorem dJ1_canEncode_fc78d_0 : decode cJ1_canEncode_fc78d 0 = .ok (.iload_n 0, 1) := by decide +kernel
theorem dJ1_canEncode_fc78d_1 : decode cJ1_canEncode_fc78d 1 = .ok (.sipush 255, 3) := by decide +kernel
theorem dJ1_canEncode_fc78d_4 : decode cJ1_canEncode_fc78d 4 = .ok (.if_icmp .gt 7, 3) := by decide +kernel
theorem dJ1_canEncode_fc78d_7 : decode cJ1_canEncode_fc78d 7 = .ok (.iconst 1, 1) := by decide +kernel
theorem dJ1_canEncode_fc78d_8 : decode cJ1_canEncode_fc78d 8 = .ok (.goto 4, 3) := by decide +kernel
theorem dJ1_canEncode_fc78d_11 : decode cJ1_canEncode_fc78d 11 = .ok (.iconst 0, 1) := by decide +kernel
theorem dJ1_canEncode_fc78d_12 : decode cJ1_canEncode_fc78d 12 = .ok (.ireturn, 1) := by decide +kernel
theorem dJ5_append_3fe6f_0 : decode cJ5_append_3fe6f 0 = .ok (.aload_n 0, 1) := by decide +kernel
theorem dJ5_append_3fe6f_1 : decode cJ5_append_3fe6f 1 = .ok (.aload_n 0, 1) := by decide +kernel
theorem dJ5_append_3fe6f_2 : decode cJ5_append_3fe6f 2 = .ok (.getfield 79, 3) := by decide +kernel
theorem dJ5_append_3fe6f_5 : decode cJ5_append_3fe6f 5 = .ok (.iconst 1, 1) := by decide +kernel
theorem dJ5_append_3fe6f_6 : decode cJ5_append_3fe6f 6 = .ok (.iadd, 1) := by decide +kernel
theorem dJ5_append_3fe6f_7 : decode cJ5_append_3fe6f 7 = .ok (.invokevirtual 100, 3) := by decide +kernel
theorem dJ5_append_3fe6f_10 : decode cJ5_append_3fe6f 10 = .ok (.aload_n 0, 1) := by decide +kernel
theorem dJ5_append_3fe6f_11 : decode cJ5_append_3fe6f 11 = .ok (.invokevirtual 83, 3) := by decide +kernel
theorem dJ5_append_3fe6f_14 : decode cJ5_append_3fe6f 14 = .ok (.ifCond .eq 31, 3) := by decide +kernel
theorem dJ5_append_3fe6f_17 : decode cJ5_append_3fe6f 17 = .ok (.iload_n 1, 1) := by decide +kernel
theorem dJ5_append_3fe6f_18 : decode cJ5_append_3fe6f 18 = .ok (.invokestatic 191, 3) := by decide +kernel
theorem dJ5_append_3fe6f_21 : decode cJ5_append_3fe6f 21 = .ok (.ifCond .eq 24, 3) := by decide +kernel
theorem dJ5_append_3fe6f_24 : decode cJ5_append_3fe6f 24 = .ok (.aload_n 0, 1) := by decide +kernel
theorem dJ5_append_3fe6f_25 : decode cJ5_append_3fe6f 25 = .ok (.getfield 15, 3) := by decide +kernel
theorem dJ5_append_3fe6f_28 : decode cJ5_append_3fe6f 28 = .ok (.aload_n 0, 1) := by decide +kernel
theorem dJ5_append_3fe6f_29 : decode cJ5_append_3fe6f 29 = .ok (.dup, 1) := by decide +kernel
theorem dJ5_append_3fe6f_30 : decode cJ5_append_3fe6f 30 = .ok (.getfield 79, 3) := by decide +kernel
theorem dJ5_append_3fe6f_33 : decode cJ5_append_3fe6f 33 = .ok (.dup_x1, 1) := by decide +kernel
theorem dJ5_append_3fe6f_34 : decode cJ5_append_3fe6f 34 = .ok (.iconst 1, 1) := by decide +kernel
theorem dJ5_append_3fe6f_35 : decode cJ5_append_3fe6f 35 = .ok (.iadd, 1) := by decide +kernel
theorem dJ5_append_3fe6f_36 : decode cJ5_append_3fe6f 36 = .ok (.putfield 79, 3) := by decide +kernel
theorem dJ5_append_3fe6f_39 : decode cJ5_append_3fe6f 39 = .ok (.iload_n 1, 1) := by decide +kernel
theorem dJ5_append_3fe6f_40 : decode cJ5_append_3fe6f 40 = .ok (.i2b, 1) := by decide +kernel
theorem dJ5_append_3fe6f_41 : decode cJ5_append_3fe6f 41 = .ok (.bastore, 1) := by decide +kernel
theorem dJ5_append_3fe6f_42 : decode cJ5_append_3fe6f 42 = .ok (.goto 33, 3) := by decide +kernel
theorem dJ5_append_3fe6f_45 : decode cJ5_append_3fe6f 45 = .ok (.aload_n 0, 1) := by decide +kernel
theorem dJ5_append_3fe6f_46 : decode cJ5_append_3fe6f 46 = .ok (.invokevirtual 83, 3) := by decide +kernel
theorem dJ5_append_3fe6f_49 : decode cJ5_append_3fe6f 49 = .ok (.ifCond .eq 7, 3) := by decide +kernel
theorem dJ5_append_3fe6f_52 : decode cJ5_append_3fe6f 52 = .ok (.aload_n 0, 1) := by decide +kernel
theorem dJ5_append_3fe6f_56 : decode cJ5_append_3fe6f 56 = .ok (.aload_n 0, 1) := by decide +kernel
theorem dJ5_append_3fe6f_57 : decode cJ5_append_3fe6f 57 = .ok (.getfield 15, 3) := by decide +kernel
theorem dJ5_append_3fe6f_60 : decode cJ5_append_3fe6f 60 = .ok (.aload_n 0, 1) := by decide +kernel
theorem dJ5_append_3fe6f_61 : decode cJ5_append_3fe6f 61 = .ok (.dup, 1) := by decide +kernel
theorem dJ5_append_3fe6f_62 : decode cJ5_append_3fe6f 62 = .ok (.getfield 79, 3) := by decide +kernel
theorem dJ5_append_3fe6f_65 : decode cJ5_append_3fe6f 65 = .ok (.dup_x1, 1) := by decide +kernel
theorem dJ5_append_3fe6f_66 : decode cJ5_append_3fe6f 66 = .ok (.iconst 1, 1) := by decide +kernel
theorem dJ5_append_3fe6f_67 : decode cJ5_append_3fe6f 67 = .ok (.iadd, 1) := by decide +kernel
theorem dJ5_append_3fe6f_68 : decode cJ5_append_3fe6f 68 = .ok (.putfield 79, 3) := by decide +kernel
theorem dJ5_append_3fe6f_71 : decode cJ5_append_3fe6f 71 = .ok (.iload_n 1, 1) := by decide +kernel
theorem dJ5_append_3fe6f_75 : decode cJ5_append_3fe6f 75 = .ok (.aload_n 0, 1) := by decide +kernel
theorem dJ5_append_3fe6f_76 : decode cJ5_append_3fe6f 76 = .ok (.areturn, 1) := by decide +kernel
theorem dJ4_append_cf468_0 : decode cJ4_append_cf468 0 = .ok (.aload_n 0, 1) := by decide +kernel
theorem dJ4_append_cf468_1 : decode cJ4_append_cf468 1 = .ok (.iload_n 1, 1) := by decide +kernel
theorem dJ4_append_cf468_2 : decode cJ4_append_cf468 2 = .ok (.invokespecial 50, 3) := by decide +kernel
theorem dJ4_append_cf468_5 : decode cJ4_append_cf468 5 = .ok (.pop, 1) := by decide +kernel
theorem dJ4_append_cf468_6 : decode cJ4_append_cf468 6 = .ok (.aload_n 0, 1) := by decide +kernel
theorem dJ4_append_cf468_7 : decode cJ4_append_cf468 7 = .ok (.areturn, 1) := by decide +kernel
theorem dJ6_stringSize_0f7a4_0 : decode cJ6_stringSize_0f7a4 0 = .ok (.iconst 1, 1) := by decide +kernel
theorem dJ6_stringSize_0f7a4_1 : decode cJ6_stringSize_0f7a4 1 = .ok (.istore_n 1, 1) := by decide +kernel
theorem dJ6_stringSize_0f7a4_2 : decode cJ6_stringSize_0f7a4 2 = .ok (.iload_n 0, 1) := by decide +kernel
theorem dJ6_stringSize_0f7a4_3 : decode cJ6_stringSize_0f7a4 3 = .ok (.ifCond .lt 8, 3) := by decide +kernel
theorem dJ6_stringSize_0f7a4_6 : decode cJ6_stringSize_0f7a4 6 = .ok (.iconst 0, 1) := by decide +kernel
theorem dJ6_stringSize_0f7a4_7 : decode cJ6_stringSize_0f7a4 7 = .ok (.istore_n 1, 1) := by decide +kernel
theorem dJ6_stringSize_0f7a4_8 : decode cJ6_stringSize_0f7a4 8 = .ok (.iload_n 0, 1) := by decide +kernel
theorem dJ6_stringSize_0f7a4_9 : decode cJ6_stringSize_0f7a4 9 = .ok (.ineg, 1) := by decide +kernel
theorem dJ6_stringSize_0f7a4_10 : decode cJ6_stringSize_0f7a4 10 = .ok (.istore_n 0, 1) := by decide +kernel
theorem dJ6_stringSize_0f7a4_11 : decode cJ6_stringSize_0f7a4 11 = .ok (.bipush (-10), 2) := by decide +kernel
theorem dJ6_stringSize_0f7a4_13 : decode cJ6_stringSize_0f7a4 13 = .ok (.istore_n 2, 1) := by decide +kernel
theorem dJ6_stringSize_0f7a4_14 : decode cJ6_stringSize_0f7a4 14 = .ok (.iconst 1, 1) := by decide +kernel
theorem dJ6_stringSize_0f7a4_15 : decode cJ6_stringSize_0f7a4 15 = .ok (.istore_n 3, 1) := by decide +kernel
theorem dJ6_stringSize_0f7a4_16 : decode cJ6_stringSize_0f7a4 16 = .ok (.iload_n 3, 1) := by decide +kernel
theorem dJ6_stringSize_0f7a4_17 : decode cJ6_stringSize_0f7a4 17 = .ok (.bipush 10, 2) := by decide +kernel
theorem dJ6_stringSize_0f7a4_19 : decode cJ6_stringSize_0f7a4 19 = .ok (.if_icmp .ge 23, 3) := by decide +kernel
theorem dJ6_stringSize_0f7a4_22 : decode cJ6_stringSize_0f7a4 22 = .ok (.iload_n 0, 1) := by decide +kernel
theorem dJ6_stringSize_0f7a4_23 : decode cJ6_stringSize_0f7a4 23 = .ok (.iload_n 2, 1) := by decide +kernel
theorem dJ6_stringSize_0f7a4_24 : decode cJ6_stringSize_0f7a4 24 = .ok (.if_icmp .le 7, 3) := by decide +kernel
theorem dJ6_stringSize_0f7a4_27 : decode cJ6_stringSize_0f7a4 27 = .ok (.iload_n 3, 1) := by decide +kernel
theorem dJ6_stringSize_0f7a4_28 : decode cJ6_stringSize_0f7a4 28 = .ok (.iload_n 1, 1) := by decide +kernel
theorem dJ6_stringSize_0f7a4_29 : decode cJ6_stringSize_0f7a4 29 = .ok (.iadd, 1) := by decide +kernel
theorem dJ6_stringSize_0f7a4_30 : decode cJ6_stringSize_0f7a4 30 = .ok (.ireturn, 1) := by decide +kernel
theorem dJ6_stringSize_0f7a4_31 : decode cJ6_stringSize_0f7a4 31 = .ok (.bipush 10, 2) := by decide +kernel
theorem dJ6_stringSize_0f7a4_33 : decode cJ6_stringSize_0f7a4 33 = .ok (.iload_n 2, 1) := by decide +kernel
theorem dJ6_stringSize_0f7a4_34 : decode cJ6_stringSize_0f7a4 34 = .ok (.imul, 1) := by decide +kernel
theorem dJ6_stringSize_0f7a4_35 : decode cJ6_stringSize_0f7a4 35 = .ok (.istore_n 2, 1) := by decide +kernel
theorem dJ6_stringSize_0f7a4_36 : decode cJ6_stringSize_0f7a4 36 = .ok (.iinc 3 1, 3) := by decide +kernel
theorem dJ6_stringSize_0f7a4_39 : decode cJ6_stringSize_0f7a4 39 = .ok (.goto (-23), 3) := by decide +kernel
theorem dJ6_stringSize_0f7a4_42 : decode cJ6_stringSize_0f7a4 42 = .ok (.bipush 10, 2) := by decide +kernel
theorem dJ6_stringSize_0f7a4_44 : decode cJ6_stringSize_0f7a4 44 = .ok (.iload_n 1, 1) := by decide +kernel
theorem dJ6_stringSize_0f7a4_45 : decode cJ6_stringSize_0f7a4 45 = .ok (.iadd, 1) := by decide +kernel
theorem dJ6_stringSize_0f7a4_46 : decode cJ6_stringSize_0f7a4 46 = .ok (.ireturn, 1) := by decide +kernel
theorem dJ6_getChars_ba4f3_0 : decode cJ6_getChars_ba4f3 0 = .ok (.iload_n 1, 1) := by decide +kernel
theorem dJ6_getChars_ba4f3_1 : decode cJ6_getChars_ba4f3 1 = .ok (.istore 5, 2) := by decide +kernel
theorem dJ6_getChars_ba4f3_3 : decode cJ6_getChars_ba4f3 3 = .ok (.iload_n 0, 1) := by decide +kernel
theorem dJ6_getChars_ba4f3_4 : decode cJ6_getChars_ba4f3 4 = .ok (.ifCond .ge 7, 3) := by decide +kernel
theorem dJ6_getChars_ba4f3_7 : decode cJ6_getChars_ba4f3 7 = .ok (.iconst 1, 1) := by decide +kernel
theorem dJ6_getChars_ba4f3_8 : decode cJ6_getChars_ba4f3 8 = .ok (.goto 4, 3) := by decide +kernel
theorem dJ6_getChars_ba4f3_11 : decode cJ6_getChars_ba4f3 11 = .ok (.iconst 0, 1) := by decide +kernel
theorem dJ6_getChars_ba4f3_12 : decode cJ6_getChars_ba4f3 12 = .ok (.istore 6, 2) := by decide +kernel
theorem dJ6_getChars_ba4f3_14 : decode cJ6_getChars_ba4f3 14 = .ok (.iload 6, 2) := by decide +kernel
theorem dJ6_getChars_ba4f3_16 : decode cJ6_getChars_ba4f3 16 = .ok (.ifCond .ne 6, 3) := by decide +kernel
theorem dJ6_getChars_ba4f3_19 : decode cJ6_getChars_ba4f3 19 = .ok (.iload_n 0, 1) := by decide +kernel
theorem dJ6_getChars_ba4f3_20 : decode cJ6_getChars_ba4f3 20 = .ok (.ineg, 1) := by decide +kernel
theorem dJ6_getChars_ba4f3_21 : decode cJ6_getChars_ba4f3 21 = .ok (.istore_n 0, 1) := by decide +kernel
theorem dJ6_getChars_ba4f3_22 : decode cJ6_getChars_ba4f3 22 = .ok (.iload_n 0, 1) := by decide +kernel
theorem dJ6_getChars_ba4f3_23 : decode cJ6_getChars_ba4f3 23 = .ok (.bipush (-100), 2) := by decide +kernel
theorem dJ6_getChars_ba4f3_25 : decode cJ6_getChars_ba4f3 25 = .ok (.if_icmp .gt 47, 3) := by decide +kernel
theorem dJ6_getChars_ba4f3_28 : decode cJ6_getChars_ba4f3 28 = .ok (.iload_n 0, 1) := by decide +kernel
theorem dJ6_getChars_ba4f3_29 : decode cJ6_getChars_ba4f3 29 = .ok (.bipush 100, 2) := by decide +kernel
theorem dJ6_getChars_ba4f3_31 : decode cJ6_getChars_ba4f3 31 = .ok (.idiv, 1) := by decide +kernel
theorem dJ6_getChars_ba4f3_32 : decode cJ6_getChars_ba4f3 32 = .ok (.istore_n 3, 1) := by decide +kernel
theorem dJ6_getChars_ba4f3_33 : decode cJ6_getChars_ba4f3 33 = .ok (.iload_n 3, 1) := by decide +kernel
theorem dJ6_getChars_ba4f3_34 : decode cJ6_getChars_ba4f3 34 = .ok (.bipush 100, 2) := by decide +kernel
theorem dJ6_getChars_ba4f3_36 : decode cJ6_getChars_ba4f3 36 = .ok (.imul, 1) := by decide +kernel
theorem dJ6_getChars_ba4f3_37 : decode cJ6_getChars_ba4f3 37 = .ok (.iload_n 0, 1) := by decide +kernel
theorem dJ6_getChars_ba4f3_38 : decode cJ6_getChars_ba4f3 38 = .ok (.isub, 1) := by decide +kernel
theorem dJ6_getChars_ba4f3_39 : decode cJ6_getChars_ba4f3 39 = .ok (.istore 4, 2) := by decide +kernel
theorem dJ6_getChars_ba4f3_41 : decode cJ6_getChars_ba4f3 41 = .ok (.iload_n 3, 1) := by decide +kernel
theorem dJ6_getChars_ba4f3_42 : decode cJ6_getChars_ba4f3 42 = .ok (.istore_n 0, 1) := by decide +kernel
theorem dJ6_getChars_ba4f3_43 : decode cJ6_getChars_ba4f3 43 = .ok (.aload_n 2, 1) := by decide +kernel
theorem dJ6_getChars_ba4f3_44 : decode cJ6_getChars_ba4f3 44 = .ok (.iinc 5 (-1), 3) := by decide +kernel
theorem dJ6_getChars_ba4f3_47 : decode cJ6_getChars_ba4f3 47 = .ok (.iload 5, 2) := by decide +kernel
theorem dJ6_getChars_ba4f3_49 : decode cJ6_getChars_ba4f3 49 = .ok (.getstatic 83, 3) := by decide +kernel
theorem dJ6_getChars_ba4f3_52 : decode cJ6_getChars_ba4f3 52 = .ok (.iload 4, 2) := by decide +kernel
theorem dJ6_getChars_ba4f3_54 : decode cJ6_getChars_ba4f3 54 = .ok (.baload, 1) := by decide +kernel
theorem dJ6_getChars_ba4f3_55 : decode cJ6_getChars_ba4f3 55 = .ok (.bastore, 1) := by decide +kernel
theorem dJ6_getChars_ba4f3_56 : decode cJ6_getChars_ba4f3 56 = .ok (.aload_n 2, 1) := by decide +kernel
theorem dJ6_getChars_ba4f3_57 : decode cJ6_getChars_ba4f3 57 = .ok (.iinc 5 (-1), 3) := by decide +kernel
theorem dJ6_getChars_ba4f3_60 : decode cJ6_getChars_ba4f3 60 = .ok (.iload 5, 2) := by decide +kernel
theorem dJ6_getChars_ba4f3_62 : decode cJ6_getChars_ba4f3 62 = .ok (.getstatic 87, 3) := by decide +kernel
theorem dJ6_getChars_ba4f3_65 : decode cJ6_getChars_ba4f3 65 = .ok (.iload 4, 2) := by decide +kernel
theorem dJ6_getChars_ba4f3_67 : decode cJ6_getChars_ba4f3 67 = .ok (.baload, 1) := by decide +kernel
theorem dJ6_getChars_ba4f3_68 : decode cJ6_getChars_ba4f3 68 = .ok (.bastore, 1) := by decide +kernel
theorem dJ6_getChars_ba4f3_69 : decode cJ6_getChars_ba4f3 69 = .ok (.goto (-47), 3) := by decide +kernel
theorem dJ6_getChars_ba4f3_72 : decode cJ6_getChars_ba4f3 72 = .ok (.aload_n 2, 1) := by decide +kernel
theorem dJ6_getChars_ba4f3_73 : decode cJ6_getChars_ba4f3 73 = .ok (.iinc 5 (-1), 3) := by decide +kernel
theorem dJ6_getChars_ba4f3_76 : decode cJ6_getChars_ba4f3 76 = .ok (.iload 5, 2) := by decide +kernel
theorem dJ6_getChars_ba4f3_78 : decode cJ6_getChars_ba4f3 78 = .ok (.getstatic 83, 3) := by decide +kernel
theorem dJ6_getChars_ba4f3_81 : decode cJ6_getChars_ba4f3 81 = .ok (.iload_n 0, 1) := by decide +kernel
theorem dJ6_getChars_ba4f3_82 : decode cJ6_getChars_ba4f3 82 = .ok (.ineg, 1) := by decide +kernel
theorem dJ6_getChars_ba4f3_83 : decode cJ6_getChars_ba4f3 83 = .ok (.baload, 1) := by decide +kernel
theorem dJ6_getChars_ba4f3_84 : decode cJ6_getChars_ba4f3 84 = .ok (.bastore, 1) := by decide +kernel
theorem dJ6_getChars_ba4f3_85 : decode cJ6_getChars_ba4f3 85 = .ok (.iload_n 0, 1) := by decide +kernel
theorem dJ6_getChars_ba4f3_86 : decode cJ6_getChars_ba4f3 86 = .ok (.bipush (-9), 2) := by decide +kernel
theorem dJ6_getChars_ba4f3_88 : decode cJ6_getChars_ba4f3 88 = .ok (.if_icmp .ge 16, 3) := by decide +kernel
theorem dJ6_getChars_ba4f3_91 : decode cJ6_getChars_ba4f3 91 = .ok (.aload_n 2, 1) := by decide +kernel
theorem dJ6_getChars_ba4f3_92 : decode cJ6_getChars_ba4f3 92 = .ok (.iinc 5 (-1), 3) := by decide +kernel
theorem dJ6_getChars_ba4f3_95 : decode cJ6_getChars_ba4f3 95 = .ok (.iload 5, 2) := by decide +kernel
theorem dJ6_getChars_ba4f3_97 : decode cJ6_getChars_ba4f3 97 = .ok (.getstatic 87, 3) := by decide +kernel
theorem dJ6_getChars_ba4f3_100 : decode cJ6_getChars_ba4f3 100 = .ok (.iload_n 0, 1) := by decide +kernel
theorem dJ6_getChars_ba4f3_101 : decode cJ6_getChars_ba4f3 101 = .ok (.ineg, 1) := by decide +kernel
theorem dJ6_getChars_ba4f3_102 : decode cJ6_getChars_ba4f3 102 = .ok (.baload, 1) := by decide +kernel
theorem dJ6_getChars_ba4f3_103 : decode cJ6_getChars_ba4f3 103 = .ok (.bastore, 1) := by decide +kernel
theorem dJ6_getChars_ba4f3_104 : decode cJ6_getChars_ba4f3 104 = .ok (.iload 6, 2) := by decide +kernel
theorem dJ6_getChars_ba4f3_106 : decode cJ6_getChars_ba4f3 106 = .ok (.ifCond .eq 12, 3) := by decide +kernel
theorem dJ6_getChars_ba4f3_109 : decode cJ6_getChars_ba4f3 109 = .ok (.aload_n 2, 1) := by decide +kernel
theorem dJ6_getChars_ba4f3_110 : decode cJ6_getChars_ba4f3 110 = .ok (.iinc 5 (-1), 3) := by decide +kernel
theorem dJ6_getChars_ba4f3_113 : decode cJ6_getChars_ba4f3 113 = .ok (.iload 5, 2) := by decide +kernel
theorem dJ6_getChars_ba4f3_115 : decode cJ6_getChars_ba4f3 115 = .ok (.bipush 45, 2) := by decide +kernel
theorem dJ6_getChars_ba4f3_117 : decode cJ6_getChars_ba4f3 117 = .ok (.bastore, 1) := by decide +kernel
theorem dJ6_getChars_ba4f3_118 : decode cJ6_getChars_ba4f3 118 = .ok (.iload 5, 2) := by decide +kernel
theorem dJ6_getChars_ba4f3_120 : decode cJ6_getChars_ba4f3 120 = .ok (.ireturn, 1) := by decide +kernel
theorem dJ5_append_c97b9_0 : decode cJ5_append_c97b9 0 = .ok (.aload_n 0, 1) := by decide +kernel
theorem dJ5_append_c97b9_1 : decode cJ5_append_c97b9 1 = .ok (.getfield 79, 3) := by decide +kernel
theorem dJ5_append_c97b9_4 : decode cJ5_append_c97b9 4 = .ok (.istore_n 2, 1) := by decide +kernel
theorem dJ5_append_c97b9_5 : decode cJ5_append_c97b9 5 = .ok (.iload_n 2, 1) := by decide +kernel
theorem dJ5_append_c97b9_6 : decode cJ5_append_c97b9 6 = .ok (.iload_n 1, 1) := by decide +kernel
theorem dJ5_append_c97b9_7 : decode cJ5_append_c97b9 7 = .ok (.invokestatic 245, 3) := by decide +kernel
theorem dJ5_append_c97b9_10 : decode cJ5_append_c97b9 10 = .ok (.iadd, 1) := by decide +kernel
theorem dJ5_append_c97b9_11 : decode cJ5_append_c97b9 11 = .ok (.istore_n 3, 1) := by decide +kernel
theorem dJ5_append_c97b9_12 : decode cJ5_append_c97b9 12 = .ok (.aload_n 0, 1) := by decide +kernel
theorem dJ5_append_c97b9_13 : decode cJ5_append_c97b9 13 = .ok (.iload_n 3, 1) := by decide +kernel
theorem dJ5_append_c97b9_14 : decode cJ5_append_c97b9 14 = .ok (.invokevirtual 100, 3) := by decide +kernel
theorem dJ5_append_c97b9_17 : decode cJ5_append_c97b9 17 = .ok (.aload_n 0, 1) := by decide +kernel
theorem dJ5_append_c97b9_18 : decode cJ5_append_c97b9 18 = .ok (.invokevirtual 83, 3) := by decide +kernel
theorem dJ5_append_c97b9_21 : decode cJ5_append_c97b9 21 = .ok (.ifCond .eq 16, 3) := by decide +kernel
theorem dJ5_append_c97b9_24 : decode cJ5_append_c97b9 24 = .ok (.iload_n 1, 1) := by decide +kernel
theorem dJ5_append_c97b9_25 : decode cJ5_append_c97b9 25 = .ok (.iload_n 3, 1) := by decide +kernel
theorem dJ5_append_c97b9_26 : decode cJ5_append_c97b9 26 = .ok (.aload_n 0, 1) := by decide +kernel
theorem dJ5_append_c97b9_27 : decode cJ5_append_c97b9 27 = .ok (.getfield 15, 3) := by decide +kernel
theorem dJ5_append_c97b9_30 : decode cJ5_append_c97b9 30 = .ok (.invokestatic 248, 3) := by decide +kernel
theorem dJ5_append_c97b9_33 : decode cJ5_append_c97b9 33 = .ok (.pop, 1) := by decide +kernel
theorem dJ5_append_c97b9_34 : decode cJ5_append_c97b9 34 = .ok (.goto 14, 3) := by decide +kernel
theorem dJ5_append_c97b9_37 : decode cJ5_append_c97b9 37 = .ok (.iload_n 1, 1) := by decide +kernel
theorem dJ5_append_c97b9_38 : decode cJ5_append_c97b9 38 = .ok (.iload_n 2, 1) := by decide +kernel
theorem dJ5_append_c97b9_39 : decode cJ5_append_c97b9 39 = .ok (.iload_n 3, 1) := by decide +kernel
theorem dJ5_append_c97b9_40 : decode cJ5_append_c97b9 40 = .ok (.aload_n 0, 1) := by decide +kernel
theorem dJ5_append_c97b9_41 : decode cJ5_append_c97b9 41 = .ok (.getfield 15, 3) := by decide +kernel
theorem dJ5_append_c97b9_48 : decode cJ5_append_c97b9 48 = .ok (.aload_n 0, 1) := by decide +kernel
theorem dJ5_append_c97b9_49 : decode cJ5_append_c97b9 49 = .ok (.iload_n 3, 1) := by decide +kernel
theorem dJ5_append_c97b9_50 : decode cJ5_append_c97b9 50 = .ok (.putfield 79, 3) := by decide +kernel
theorem dJ5_append_c97b9_53 : decode cJ5_append_c97b9 53 = .ok (.aload_n 0, 1) := by decide +kernel
theorem dJ5_append_c97b9_54 : decode cJ5_append_c97b9 54 = .ok (.areturn, 1) := by decide +kernel
theorem dJ4_append_bf812_0 : decode cJ4_append_bf812 0 = .ok (.aload_n 0, 1) := by decide +kernel
theorem dJ4_append_bf812_1 : decode cJ4_append_bf812 1 = .ok (.iload_n 1, 1) := by decide +kernel
theorem dJ4_append_bf812_2 : decode cJ4_append_bf812 2 = .ok (.invokespecial 53, 3) := by decide +kernel
theorem dJ4_append_bf812_5 : decode cJ4_append_bf812 5 = .ok (.pop, 1) := by decide +kernel
theorem dJ4_append_bf812_6 : decode cJ4_append_bf812 6 = .ok (.aload_n 0, 1) := by decide +kernel
theorem dJ4_append_bf812_7 : decode cJ4_append_bf812 7 = .ok (.areturn, 1) := by decide +kernel
theorem dJ5_charAt_5068e_0 : decode cJ5_charAt_5068e 0 = .ok (.aload_n 0, 1) := by decide +kernel
theorem dJ5_charAt_5068e_1 : decode cJ5_charAt_5068e 1 = .ok (.getfield 22, 3) := by decide +kernel
theorem dJ5_charAt_5068e_4 : decode cJ5_charAt_5068e 4 = .ok (.istore_n 2, 1) := by decide +kernel
theorem dJ5_charAt_5068e_5 : decode cJ5_charAt_5068e 5 = .ok (.aload_n 0, 1) := by decide +kernel
theorem dJ5_charAt_5068e_6 : decode cJ5_charAt_5068e 6 = .ok (.getfield 15, 3) := by decide +kernel
theorem dJ5_charAt_5068e_9 : decode cJ5_charAt_5068e 9 = .ok (.astore_n 3, 1) := by decide +kernel
theorem dJ5_charAt_5068e_10 : decode cJ5_charAt_5068e 10 = .ok (.aload_n 0, 1) := by decide +kernel
theorem dJ5_charAt_5068e_11 : decode cJ5_charAt_5068e 11 = .ok (.getfield 79, 3) := by decide +kernel
theorem dJ5_charAt_5068e_14 : decode cJ5_charAt_5068e 14 = .ok (.aload_n 3, 1) := by decide +kernel
theorem dJ5_charAt_5068e_15 : decode cJ5_charAt_5068e 15 = .ok (.arraylength, 1) := by decide +kernel
theorem dJ5_charAt_5068e_16 : decode cJ5_charAt_5068e 16 = .ok (.iload_n 2, 1) := by decide +kernel
theorem dJ5_charAt_5068e_17 : decode cJ5_charAt_5068e 17 = .ok (.ishr, 1) := by decide +kernel
theorem dJ5_charAt_5068e_18 : decode cJ5_charAt_5068e 18 = .ok (.invokestatic 138, 3) := by decide +kernel
theorem dJ5_charAt_5068e_21 : decode cJ5_charAt_5068e 21 = .ok (.istore 4, 2) := by decide +kernel
theorem dJ5_charAt_5068e_23 : decode cJ5_charAt_5068e 23 = .ok (.iload_n 1, 1) := by decide +kernel
theorem dJ5_charAt_5068e_24 : decode cJ5_charAt_5068e 24 = .ok (.iload 4, 2) := by decide +kernel
theorem dJ5_charAt_5068e_26 : decode cJ5_charAt_5068e 26 = .ok (.invokestatic 144, 3) := by decide +kernel
theorem dJ5_charAt_5068e_29 : decode cJ5_charAt_5068e 29 = .ok (.iload_n 2, 1) := by decide +kernel
theorem dJ5_charAt_5068e_30 : decode cJ5_charAt_5068e 30 = .ok (.ifCond .ne 12, 3) := by decide +kernel
theorem dJ5_charAt_5068e_33 : decode cJ5_charAt_5068e 33 = .ok (.aload_n 3, 1) := by decide +kernel
theorem dJ5_charAt_5068e_34 : decode cJ5_charAt_5068e 34 = .ok (.iload_n 1, 1) := by decide +kernel
theorem dJ5_charAt_5068e_35 : decode cJ5_charAt_5068e 35 = .ok (.baload, 1) := by decide +kernel
theorem dJ5_charAt_5068e_36 : decode cJ5_charAt_5068e 36 = .ok (.sipush 255, 3) := by decide +kernel
theorem dJ5_charAt_5068e_39 : decode cJ5_charAt_5068e 39 = .ok (.iand, 1) := by decide +kernel
theorem dJ5_charAt_5068e_40 : decode cJ5_charAt_5068e 40 = .ok (.i2c, 1) := by decide +kernel
theorem dJ5_charAt_5068e_41 : decode cJ5_charAt_5068e 41 = .ok (.ireturn, 1) := by decide +kernel
theorem dJ5_charAt_5068e_42 : decode cJ5_charAt_5068e 42 = .ok (.aload_n 3, 1) := by decide +kernel
theorem dJ5_charAt_5068e_43 : decode cJ5_charAt_5068e 43 = .ok (.iload_n 1, 1) := by decide +kernel
theorem dJ4_charAt_5068e_0 : decode cJ4_charAt_5068e 0 = .ok (.aload_n 0, 1) := by decide +kernel
theorem dJ4_charAt_5068e_1 : decode cJ4_charAt_5068e 1 = .ok (.iload_n 1, 1) := by decide +kernel
theorem dJ4_charAt_5068e_2 : decode cJ4_charAt_5068e 2 = .ok (.invokespecial 329, 3) := by decide +kernel
theorem dJ4_charAt_5068e_5 : decode cJ4_charAt_5068e 5 = .ok (.ireturn, 1) := by decide +kernel
set_option maxRecDepth 100000 in
set_option maxHeartbeats 4000000 in
theorem cJ0_coder_7d493c {l : Launch} {v0 : Option Nat} {σ : HpT} {r : Int32} (h : fJ0_coder_7d493 v0 σ = some r) : IsK σ v0 12 ∧ Ct l yJ0_coder_7d493 cJ0_coder_7d493 1 (some .byte) 0 0 [va_rf v0] σ (.ok (some (.int r))) σ 0 0 := by
  unfold fJ0_coder_7d493 at h
  replace h := bnP_s h
  obtain ⟨u, hk, h⟩ := h
  replace hk := isK_s hk
  refine ⟨hk, ?_⟩
  refine ct_start mi_J0_coder_7d493.1 rfl (al_le (al_1 (rf_cat _) al_n) (Nat.le_of_ble_eq_true rfl)) (ag_1 (rf_cat _) ag_n) (fun Δ Γ B hE hnm => ?_)
  refine g_gstC B sv_RJ0_38 dJ0_coder_7d493_0 ?_
  refine g_if_eq B 13 dJ0_coder_7d493_3 (by decide) (fun hc => ?_) (fun hc => ?_)
  · exact absurd hc (by decide)
  · skip
    refine g_aload_n B 0 dJ0_coder_7d493_6 rfl rfl ?_
    replace h := bnP_s h
    obtain ⟨x1, h2, h⟩ := h
    refine g_getSC B sv_RJ0_15 dJ0_coder_7d493_7 h2 ?_
    refine g_goto B 14 dJ0_coder_7d493_10 (by decide) ?_
    replace h := bnP_s h
    obtain ⟨u4, h3, h⟩ := h
    replace h := Option.some.inj h
    subst h
    exact g_zret B hE (nrB_s h3) (Nat.zero_le _) (Nat.zero_le _) dJ0_coder_7d493_14
set_option maxRecDepth 100000 in
set_option maxHeartbeats 4000000 in
theorem cJ0_length_8abf5c {l : Launch} {v0 : Option Nat} {σ : HpT} {r : Int32} (h : fJ0_length_8abf5 v0 σ = some r) : IsK σ v0 12 ∧ Ct l yJ0_length_8abf5 cJ0_length_8abf5 1 (some .int) 1 20 [va_rf v0] σ (.ok (some (.int r))) σ 0 0 := by
  unfold fJ0_length_8abf5 at h
  replace h := bnP_s h
  obtain ⟨u, hk, h⟩ := h
  replace hk := isK_s hk
  refine ⟨hk, ?_⟩
  refine ct_start mi_J0_length_8abf5.1 rfl (al_le (al_1 (rf_cat _) al_n) (Nat.le_of_ble_eq_true rfl)) (ag_1 (rf_cat _) ag_n) (fun Δ Γ B hE hnm => ?_)
  refine g_aload_n B 0 dJ0_length_8abf5_0 rfl rfl ?_
  replace h := bnP_s h
  obtain ⟨x1, h2, h⟩ := h
  refine g_getSV B sv_RJ0_9 dJ0_length_8abf5_1 h2 ?_
  replace h := bnP_s h
  obtain ⟨x3, h4, h⟩ := h
  refine g_alen B (κ := 22) (by decide) dJ0_length_8abf5_4 h4 ?_
  refine g_aload_n B 0 dJ0_length_8abf5_5 rfl rfl ?_
  replace h := bnP_s h
  obtain ⟨x5, h6, h⟩ := h
  refine g_callQs0 (st := [.int x3]) B (cJ0_coder_7d493c h6) rfl mi_J0_coder_7d493 lk_RJ0_335 ⟨Nat.le_of_ble_eq_true rfl, Nat.le_of_ble_eq_true rfl⟩ rfl rfl (Nat.le_of_ble_eq_true rfl) dJ0_length_8abf5_6 (Nat.zero_le _) (Nat.zero_le _) ?_
  refine g_ishr B dJ0_length_8abf5_9 ?_
  replace h := Option.some.inj h
  subst h
  exact g_iret B hE (Nat.zero_le _) (Nat.zero_le _) dJ0_length_8abf5_10
set_option maxRecDepth 100000 in
set_option maxHeartbeats 4000000 in
theorem cJ0_isLatin1_aae02c {l : Launch} {v0 : Option Nat} {σ : HpT} {r : Bool} (h : fJ0_isLatin1_aae02 v0 σ = some r) : IsK σ v0 12 ∧ Ct l yJ0_isLatin1_aae02 cJ0_isLatin1_aae02 1 (some .boolean) 0 0 [va_rf v0] σ (.ok (some (.int (bI r)))) σ 0 0 := by
  unfold fJ0_isLatin1_aae02 at h
  replace h := bnP_s h
  obtain ⟨u, hk, h⟩ := h
  replace hk := isK_s hk
  refine ⟨hk, ?_⟩
  refine ct_start mi_J0_isLatin1_aae02.1 rfl (al_le (al_1 (rf_cat _) al_n) (Nat.le_of_ble_eq_true rfl)) (ag_1 (rf_cat _) ag_n) (fun Δ Γ B hE hnm => ?_)
  refine g_gstC B sv_RJ0_38 dJ0_isLatin1_aae02_0 ?_
  refine g_if_eq B 17 dJ0_isLatin1_aae02_3 (by decide) (fun hc => ?_) (fun hc => ?_)
  · exact absurd hc (by decide)
  · skip
    refine g_aload_n B 0 dJ0_isLatin1_aae02_6 rfl rfl ?_
    replace h := bnP_s h
    obtain ⟨x1, h2, h⟩ := h
    refine g_getSC B sv_RJ0_15 dJ0_isLatin1_aae02_7 h2 ?_
    refine g_if_ne B 17 dJ0_isLatin1_aae02_10 (by decide) (fun hc => ?_) (fun hc => ?_)
    · replace h := ifn hc h
      refine g_iconst (v := 0) B dJ0_isLatin1_aae02_17 (by decide) ?_
      replace h := Option.some.inj h
      subst h
      exact g_zret B hE rfl (Nat.zero_le _) (Nat.zero_le _) dJ0_isLatin1_aae02_18
    · replace h := ifp hc h
      refine g_iconst (v := 1) B dJ0_isLatin1_aae02_13 (by decide) ?_
      refine g_goto B 18 dJ0_isLatin1_aae02_14 (by decide) ?_
      replace h := Option.some.inj h
      subst h
      exact g_zret B hE rfl (Nat.zero_le _) (Nat.zero_le _) dJ0_isLatin1_aae02_18
set_option maxRecDepth 100000 in
set_option maxHeartbeats 4000000 in
theorem cJ3_checkIndex_8e157c {l : Launch} {v0 : Int32} {v1 : Int32} {v2 : Option Nat} {σ : HpT} {o : Except Nat (Int32)} (h : fJ3_checkIndex_8e157 v0 v1 v2 σ = some o) : Ct l yJ3_checkIndex_8e157 cJ3_checkIndex_8e157 3 (some .int) 0 0 [.int v0, .int v1, va_rf v2] σ (oI o) σ (xc o) (xs o) := by
  unfold fJ3_checkIndex_8e157 at h
  refine ct_start mi_J3_checkIndex_8e157.1 rfl (al_le (al_1 rfl (al_1 rfl (al_1 (rf_cat _) al_n))) (Nat.le_of_ble_eq_true rfl)) (ag_1 rfl (ag_1 rfl (ag_1 (rf_cat _) ag_n))) (fun Δ Γ B hE hnm => ?_)
  refine g_iload_n B 0 dJ3_checkIndex_8e157_0 rfl rfl ?_
  refine g_if_lt B 9 dJ3_checkIndex_8e157_1 (by decide) (fun hc => ?_) (fun hc => ?_)
  · replace h := ifp hc h
    refine g_aload_n B 2 dJ3_checkIndex_8e157_9 rfl rfl ?_
    refine g_iload_n B 0 dJ3_checkIndex_8e157_10 rfl rfl ?_
    refine g_iload_n B 1 dJ3_checkIndex_8e157_11 rfl rfl ?_
    cases h
  · replace h := ifn hc h
    refine g_iload_n B 0 dJ3_checkIndex_8e157_4 rfl rfl ?_
    refine g_iload_n B 1 dJ3_checkIndex_8e157_5 rfl rfl ?_
    refine g_icmp_lt B 16 dJ3_checkIndex_8e157_6 (by decide) (fun hc => ?_) (fun hc => ?_)
    · replace h := ifp hc h
      refine g_iload_n B 0 dJ3_checkIndex_8e157_16 rfl rfl ?_
      replace h := Option.some.inj h
      subst h
      exact g_iret B hE (Nat.zero_le _) (Nat.zero_le _) dJ3_checkIndex_8e157_17
    · replace h := ifn hc h
      refine g_aload_n B 2 dJ3_checkIndex_8e157_9 rfl rfl ?_
      refine g_iload_n B 0 dJ3_checkIndex_8e157_10 rfl rfl ?_
      refine g_iload_n B 1 dJ3_checkIndex_8e157_11 rfl rfl ?_
      cases h
theorem fJ3_any {v0 v1 : Int32} {σ : HpT} (r : Option Nat) : fJ3_checkIndex_8e157 v0 v1 none σ = fJ3_checkIndex_8e157 v0 v1 r σ := by
  unfold fJ3_checkIndex_8e157
  rfl
set_option maxRecDepth 100000 in
set_option maxHeartbeats 4000000 in
theorem cJ0_checkIndex_df160c {l : Launch} {v0 v1 : Int32} {σ : HpT} {r : Unit} (h : fJ0_checkIndex_df160 v0 v1 σ = some r) : Ct l yJ0_checkIndex_df160 cJ0_checkIndex_df160 2 none 1 22 [.int v0, .int v1] σ (.ok none) σ 0 0 := by
  unfold fJ0_checkIndex_df160 at h
  obtain ⟨x1, h1, h⟩ := bnP_s h
  refine ct_start mi_J0_checkIndex_df160.1 rfl (al_le (al_1 rfl (al_1 rfl al_n)) (Nat.le_of_ble_eq_true rfl)) (ag_1 rfl (ag_1 rfl ag_n)) (fun Δ Γ B hE hnm => ?_)
  refine g_iload_n B 0 dJ0_checkIndex_df160_0 rfl rfl ?_
  refine g_iload_n B 1 dJ0_checkIndex_df160_1 rfl rfl ?_
  refine g_gstF B sv_RJ0_1053 dJ0_checkIndex_df160_2 (fun r9 => ?_)
  rw [fJ3_any r9] at h1
  obtain ⟨v9, rfl⟩ : ∃ v, x1 = .ok v := by
    unfold fJ3_checkIndex_8e157 at h1
    split at h1
    · cases h1
    · split at h1
      · exact ⟨_, (Option.some.inj h1).symm⟩
      · cases h1
  refine g_callSs0 (st := []) B (cJ3_checkIndex_8e157c (o := .ok v9) h1) mi_J3_checkIndex_8e157 lk_RJ0_1059 ⟨Nat.le_of_ble_eq_true rfl, Nat.le_of_ble_eq_true rfl⟩ rfl rfl (Nat.le_of_ble_eq_true rfl) dJ0_checkIndex_df160_5 (Nat.zero_le _) (Nat.zero_le _) ?_
  refine g_pop B dJ0_checkIndex_df160_8 rfl ?_
  exact g_vret B hE (Nat.zero_le _) (Nat.zero_le _) dJ0_checkIndex_df160_9
set_option maxRecDepth 100000 in
set_option maxHeartbeats 4000000 in
theorem cJ1_charAt_3b067c {l : Launch} {v0 : Option Nat} {v1 : Int32} {σ : HpT} {r : Int32} (h : fJ1_charAt_3b067 v0 v1 σ = some r) : Ct l yJ1_charAt_3b067 cJ1_charAt_3b067 2 (some .char) 2 43 [va_rf v0, .int v1] σ (.ok (some (.int r))) σ 0 0 := by
  unfold fJ1_charAt_3b067 at h
  refine ct_start mi_J1_charAt_3b067.1 rfl (al_le (al_1 (rf_cat _) (al_1 rfl al_n)) (Nat.le_of_ble_eq_true rfl)) (ag_1 (rf_cat _) (ag_1 rfl ag_n)) (fun Δ Γ B hE hnm => ?_)
  refine g_iload_n B 1 dJ1_charAt_3b067_0 rfl rfl ?_
  refine g_aload_n B 0 dJ1_charAt_3b067_1 rfl rfl ?_
  replace h := bnP_s h
  obtain ⟨x1, h2, h⟩ := h
  refine g_alen B (κ := 22) (by decide) dJ1_charAt_3b067_2 h2 ?_
  replace h := bnP_s h
  obtain ⟨x3, h4, h⟩ := h
  refine g_callSv0 (st := []) B (cJ0_checkIndex_df160c h4) mi_J0_checkIndex_df160 lk_RJ1_9 ⟨Nat.le_of_ble_eq_true rfl, Nat.le_of_ble_eq_true rfl⟩ rfl rfl (Nat.le_of_ble_eq_true rfl) dJ1_charAt_3b067_3 (Nat.zero_le _) (Nat.zero_le _) ?_
  refine g_aload_n B 0 dJ1_charAt_3b067_6 rfl rfl ?_
  refine g_iload_n B 1 dJ1_charAt_3b067_7 rfl rfl ?_
  replace h := bnP_s h
  obtain ⟨x5, h6, h⟩ := h
  refine g_bald B dJ1_charAt_3b067_8 h6 ?_
  refine g_sipush (v := 255) B dJ1_charAt_3b067_9 (by decide) ?_
  refine g_iand B dJ1_charAt_3b067_12 ?_
  refine g_i2c B dJ1_charAt_3b067_13 ?_
  replace h := bnP_s h
  obtain ⟨u8, h7, h⟩ := h
  replace h := Option.some.inj h
  subst h
  exact g_zret B hE (nrC_s h7) (Nat.zero_le _) (Nat.zero_le _) dJ1_charAt_3b067_14
set_option maxRecDepth 100000 in
set_option maxHeartbeats 4000000 in
theorem cJ0_charAt_5068ec {l : Launch} {v0 : Option Nat} {v1 : Int32} {σ : HpT} {r : Int32} (h : fJ0_charAt_5068e v0 v1 σ = some r) : IsK σ v0 12 ∧ Ct l yJ0_charAt_5068e cJ0_charAt_5068e 2 (some .char) 3 64 [va_rf v0, .int v1] σ (.ok (some (.int r))) σ 0 0 := by
  unfold fJ0_charAt_5068e at h
  replace h := bnP_s h
  obtain ⟨u, hk, h⟩ := h
  replace hk := isK_s hk
  refine ⟨hk, ?_⟩
  refine ct_start mi_J0_charAt_5068e.1 rfl (al_le (al_1 (rf_cat _) (al_1 rfl al_n)) (Nat.le_of_ble_eq_true rfl)) (ag_1 (rf_cat _) (ag_1 rfl ag_n)) (fun Δ Γ B hE hnm => ?_)
  refine g_aload_n B 0 dJ0_charAt_5068e_0 rfl rfl ?_
  replace h := bnP_s h
  obtain ⟨x1, h2, h⟩ := h
  refine g_callQs0 (st := []) B (cJ0_isLatin1_aae02c h2) rfl mi_J0_isLatin1_aae02 lk_RJ0_492 ⟨Nat.le_of_ble_eq_true rfl, Nat.le_of_ble_eq_true rfl⟩ rfl rfl (Nat.le_of_ble_eq_true rfl) dJ0_charAt_5068e_1 (Nat.zero_le _) (Nat.zero_le _) ?_
  refine g_if_eq B 16 dJ0_charAt_5068e_4 (by decide) (fun hc => ?_) (fun hc => ?_)
  · replace h := ifn (bI0 hc) h
    refine g_aload_n B 0 dJ0_charAt_5068e_16 rfl rfl ?_
    replace h := bnP_s h
    obtain ⟨x3, h4, h⟩ := h
    refine g_getSV B sv_RJ0_9 dJ0_charAt_5068e_17 h4 ?_
    refine g_iload_n B 1 dJ0_charAt_5068e_20 rfl rfl ?_
    cases h
  · replace h := ifp (bI1 hc) h
    refine g_aload_n B 0 dJ0_charAt_5068e_7 rfl rfl ?_
    replace h := bnP_s h
    obtain ⟨x5, h6, h⟩ := h
    refine g_getSV B sv_RJ0_9 dJ0_charAt_5068e_8 h6 ?_
    refine g_iload_n B 1 dJ0_charAt_5068e_11 rfl rfl ?_
    replace h := bnP_s h
    obtain ⟨x7, h8, h⟩ := h
    refine g_callSs0 (st := []) B (cJ1_charAt_3b067c h8) mi_J1_charAt_3b067 lk_RJ0_495 ⟨Nat.le_of_ble_eq_true rfl, Nat.le_of_ble_eq_true rfl⟩ rfl rfl (Nat.le_of_ble_eq_true rfl) dJ0_charAt_5068e_12 (Nat.zero_le _) (Nat.zero_le _) ?_
    replace h := bnP_s h
    obtain ⟨u10, h9, h⟩ := h
    replace h := Option.some.inj h
    subst h
    exact g_zret B hE (nrC_s h9) (Nat.zero_le _) (Nat.zero_le _) dJ0_charAt_5068e_15
set_option maxRecDepth 100000 in
set_option maxHeartbeats 4000000 in
theorem cJ5_init_d00dfc {l : Launch} {v0 : Option Nat} {v1 : Int32} {σ : HpT} {o : Except Nat (Unit)} {σ' : HpT} {a b : Nat} (h : fJ5_init_d00df v0 v1 σ = some (o, σ', a, b)) : IsK σ v0 11 ∧ Ct l yJ5_init_d00df cJ5_init_d00df 2 none 1 21 [va_rf v0, .int v1] σ (oU o) σ' a b := by
  unfold fJ5_init_d00df at h
  replace h := bnP_s h
  obtain ⟨u, hk, h⟩ := h
  replace hk := isK_s hk
  refine ⟨hk, ?_⟩
  refine ct_start mi_J5_init_d00df.1 rfl (al_le (al_1 (rf_cat _) (al_1 rfl al_n)) (Nat.le_of_ble_eq_true rfl)) (ag_1 (rf_cat _) (ag_1 rfl ag_n)) (fun Δ Γ B hE hnm => ?_)
  have hka : 0 + a = a := Nat.zero_add a
  have hkb : 0 + b = b := Nat.zero_add b
  have hla : a ≤ a := Nat.le_refl a
  have hlb : b ≤ b := Nat.le_refl b
  refine g_aload_n B 0 dJ5_init_d00df_0 rfl rfl ?_
  refine g_objInit9 B hk obj_RJ5_3 (by decide) (Nat.le_of_ble_eq_true rfl) dJ5_init_d00df_1 ?_
  refine g_gstC B sv_RJ5_18 dJ5_init_d00df_4 ?_
  refine g_if_eq B 25 dJ5_init_d00df_7 (by decide) (fun hc => ?_) (fun hc => ?_)
  · exact absurd hc (by decide)
  · skip
    refine g_aload_n B 0 dJ5_init_d00df_10 rfl rfl ?_
    refine g_iload_n B 1 dJ5_init_d00df_11 rfl rfl ?_
    replace h := bnA_s h
    rcases h with ⟨e9, h2, e8⟩ | ⟨x1, s3, a4, b5, a6, b7, h2, h, ea, eb⟩
    · exact absurd h2 (by simp [nwA, nwR]; try (split <;> simp))
    · subst ea; subst eb
      have hka := bk hka
      have hkb := bk hkb
      refine g_newarr B (Or.inr (Or.inr (Or.inl ⟨rfl, rfl⟩))) na_byte dJ5_init_d00df_12 h2 (Nat.le_trans (bm hka) hla) (Nat.le_trans (bm hkb) hlb) ?_
      replace h := bnP_s h
      obtain ⟨s10, h9, h⟩ := h
      refine g_putR B fl_RJ5_15 (by decide) (Or.inr ⟨_, rfl⟩) dJ5_init_d00df_14 h9 ?_
      refine g_aload_n B 0 dJ5_init_d00df_17 rfl rfl ?_
      refine g_iconst (v := 0) B dJ5_init_d00df_18 (by decide) ?_
      replace h := bnP_s h
      obtain ⟨s13, h12, h⟩ := h
      refine g_putB B fl_RJ5_22 (by decide) dJ5_init_d00df_19 h12 ?_
      refine g_goto B 38 dJ5_init_d00df_22 (by decide) ?_
      obtain ⟨w1, w2, w3, w4⟩ := inA h
      clear h
      subst w1
      subst w2
      subst w3
      subst w4
      exact g_vret B hE (Nat.le_trans (Nat.le_of_eq hka) hla) (Nat.le_trans (Nat.le_of_eq hkb) hlb) dJ5_init_d00df_38
set_option maxRecDepth 100000 in
set_option maxHeartbeats 4000000 in
theorem cJ4_init_da8c8c {l : Launch} {v0 : Option Nat} {σ : HpT} {o : Except Nat (Unit)} {σ' : HpT} {a b : Nat} (h : fJ4_init_da8c8 v0 σ = some (o, σ', a, b)) : IsK σ v0 11 ∧ Ct l yJ4_init_da8c8 cJ4_init_da8c8 1 none 2 42 [va_rf v0] σ (oU o) σ' a b := by
  unfold fJ4_init_da8c8 at h
  replace h := bnP_s h
  obtain ⟨u, hk, h⟩ := h
  replace hk := isK_s hk
  refine ⟨hk, ?_⟩
  refine ct_start mi_J4_init_da8c8.1 rfl (al_le (al_1 (rf_cat _) al_n) (Nat.le_of_ble_eq_true rfl)) (ag_1 (rf_cat _) ag_n) (fun Δ Γ B hE hnm => ?_)
  have hka : 0 + a = a := Nat.zero_add a
  have hkb : 0 + b = b := Nat.zero_add b
  have hla : a ≤ a := Nat.le_refl a
  have hlb : b ≤ b := Nat.le_refl b
  refine g_aload_n B 0 dJ4_init_da8c8_0 rfl rfl ?_
  refine g_bipush (v := 16) B dJ4_init_da8c8_1 (by decide) ?_
  replace h := bnA_s h
  rcases h with ⟨e9, h2, e8⟩ | ⟨x1, s3, a4, b5, a6, b7, h2, h, ea, eb⟩
  · subst e8
    exact g_callIx (st := []) B (cJ5_init_d00dfc (o := .error e9) h2) mi_J5_init_d00df lk_RJ4_1 ⟨Nat.le_of_ble_eq_true rfl, Nat.le_of_ble_eq_true rfl⟩ rfl rfl (Nat.le_of_ble_eq_true rfl) dJ4_init_da8c8_3 (Nat.le_trans (Nat.le_of_eq hka) hla) (Nat.le_trans (Nat.le_of_eq hkb) hlb) hE
  · subst ea; subst eb
    have hka := bk hka
    have hkb := bk hkb
    refine g_callIvA (st := []) B (cJ5_init_d00dfc (o := .ok x1) h2) mi_J5_init_d00df lk_RJ4_1 ⟨Nat.le_of_ble_eq_true rfl, Nat.le_of_ble_eq_true rfl⟩ rfl rfl (Nat.le_of_ble_eq_true rfl) dJ4_init_da8c8_3 (Nat.le_trans (bm hka) hla) (Nat.le_trans (bm hkb) hlb) ?_
    obtain ⟨w1, w2, w3, w4⟩ := inA h
    clear h
    subst w1
    subst w2
    subst w3
    subst w4
    exact g_vret B hE (Nat.le_trans (Nat.le_of_eq hka) hla) (Nat.le_trans (Nat.le_of_eq hkb) hlb) dJ4_init_da8c8_6
set_option maxRecDepth 100000 in
set_option maxHeartbeats 4000000 in
theorem cJ8_newLength_cabccc {l : Launch} {v0 : Int32} {v1 : Int32} {v2 : Int32} {σ : HpT} {r : Int32} (h : fJ8_newLength_cabcc v0 v1 v2 σ = some r) : Ct l yJ8_newLength_cabcc cJ8_newLength_cabcc 4 (some .int) 1 21 [.int v0, .int v1, .int v2] σ (.ok (some (.int r))) σ 0 0 := by
  unfold fJ8_newLength_cabcc at h
  refine ct_start mi_J8_newLength_cabcc.1 rfl (al_le (al_1 rfl (al_1 rfl (al_1 rfl al_n))) (Nat.le_of_ble_eq_true rfl)) (ag_1 rfl (ag_1 rfl (ag_1 rfl ag_n))) (fun Δ Γ B hE hnm => ?_)
  refine g_iload_n B 0 dJ8_newLength_cabcc_0 rfl rfl ?_
  refine g_iload_n B 1 dJ8_newLength_cabcc_1 rfl rfl ?_
  refine g_iload_n B 2 dJ8_newLength_cabcc_2 rfl rfl ?_
  refine g_mmax B mt_RJ8_194 (by decide) (Nat.le_of_ble_eq_true rfl) dJ8_newLength_cabcc_3 (Nat.zero_le _) (Nat.zero_le _) ?_
  refine g_iadd B dJ8_newLength_cabcc_6 ?_
  refine g_istore_n B dJ8_newLength_cabcc_7 rfl (Nat.le_of_ble_eq_true rfl) (s1_c (f1_k rfl (f1_k rfl (f1_1 rfl rfl f1_n)))) ?_
  refine g_iconst (v := 0) B dJ8_newLength_cabcc_8 (by decide) ?_
  refine g_iload_n B 0 dJ8_newLength_cabcc_9 rfl rfl ?_
  refine g_icmp_ge B 21 dJ8_newLength_cabcc_10 (by decide) (fun hc => ?_) (fun hc => ?_)
  · replace h := ifp hc h
    refine g_iload_n B 1 dJ8_newLength_cabcc_21 rfl rfl ?_
    refine g_iload_n B 2 dJ8_newLength_cabcc_22 rfl rfl ?_
    cases h
  · replace h := ifn hc h
    refine g_iload_n B 0 dJ8_newLength_cabcc_13 rfl rfl ?_
    refine g_ldc B cs_RJ8_200 dJ8_newLength_cabcc_14 ?_
    refine g_icmp_gt B 21 dJ8_newLength_cabcc_16 (by decide) (fun hc => ?_) (fun hc => ?_)
    · replace h := ifp hc h
      refine g_iload_n B 1 dJ8_newLength_cabcc_21 rfl rfl ?_
      refine g_iload_n B 2 dJ8_newLength_cabcc_22 rfl rfl ?_
      cases h
    · replace h := ifn hc h
      refine g_iload_n B 0 dJ8_newLength_cabcc_19 rfl rfl ?_
      replace h := Option.some.inj h
      subst h
      exact g_iret B hE (Nat.zero_le _) (Nat.zero_le _) dJ8_newLength_cabcc_20
set_option maxRecDepth 100000 in
set_option maxHeartbeats 4000000 in
theorem cJ5_newCapacity_0f7a4c {l : Launch} {v0 : Option Nat} {v1 : Int32} {σ : HpT} {o : Except Nat (Int32)} {σ' : HpT} {a b : Nat} (h : fJ5_newCapacity_0f7a4 v0 v1 σ = some (o, σ', a, b)) : IsK σ v0 11 ∧ Ct l yJ5_newCapacity_0f7a4 cJ5_newCapacity_0f7a4 6 (some .int) 2 44 [va_rf v0, .int v1] σ (oI o) σ' a b := by
  unfold fJ5_newCapacity_0f7a4 at h
  replace h := bnP_s h
  obtain ⟨u, hk, h⟩ := h
  replace hk := isK_s hk
  refine ⟨hk, ?_⟩
  refine ct_start mi_J5_newCapacity_0f7a4.1 rfl (al_le (al_1 (rf_cat _) (al_1 rfl al_n)) (Nat.le_of_ble_eq_true rfl)) (ag_1 (rf_cat _) (ag_1 rfl ag_n)) (fun Δ Γ B hE hnm => ?_)
  have hka : 0 + a = a := Nat.zero_add a
  have hkb : 0 + b = b := Nat.zero_add b
  have hla : a ≤ a := Nat.le_refl a
  have hlb : b ≤ b := Nat.le_refl b
  refine g_aload_n B 0 dJ5_newCapacity_0f7a4_0 rfl rfl ?_
  replace h := bnP_s h
  obtain ⟨x1, h2, h⟩ := h
  refine g_getR B fl_RJ5_15 (by decide) dJ5_newCapacity_0f7a4_1 h2 ?_
  replace h := bnP_s h
  obtain ⟨x3, h4, h⟩ := h
  refine g_alen B (κ := 22) (by decide) dJ5_newCapacity_0f7a4_4 h4 ?_
  refine g_istore_n B dJ5_newCapacity_0f7a4_5 rfl (Nat.le_of_ble_eq_true rfl) (s1_c (f1_k rfl (f1_1 rfl rfl f1_n))) ?_
  refine g_iload_n B 2 dJ5_newCapacity_0f7a4_6 rfl rfl ?_
  refine g_aload_n B 1 dJ5_newCapacity_0f7a4_7 rfl rfl ?_
  replace h := bnP_s h
  obtain ⟨x5, h6, h⟩ := h
  refine g_getI B fl_RJ5_22 (by decide) dJ5_newCapacity_0f7a4_8 h6 ?_
  refine g_ishl B dJ5_newCapacity_0f7a4_11 ?_
  refine g_istore_n B dJ5_newCapacity_0f7a4_12 rfl (Nat.le_of_ble_eq_true rfl) (s1_c (f1_1 rfl rfl (f1_k rfl (f1_k rfl f1_n)))) ?_
  refine g_iload_n B 0 dJ5_newCapacity_0f7a4_13 rfl rfl ?_
  refine g_iload_n B 1 dJ5_newCapacity_0f7a4_14 rfl rfl ?_
  refine g_isub B dJ5_newCapacity_0f7a4_15 ?_
  refine g_istore B dJ5_newCapacity_0f7a4_16 (Nat.le_of_ble_eq_true rfl) (s1_c (f1_1 rfl rfl (f1_k rfl (f1_k rfl (f1_k rfl f1_n))))) ?_
  refine g_iload_n B 2 dJ5_newCapacity_0f7a4_18 rfl rfl ?_
  refine g_iload B 0 dJ5_newCapacity_0f7a4_19 rfl ?_
  refine g_iload_n B 2 dJ5_newCapacity_0f7a4_21 rfl rfl ?_
  refine g_iconst (v := 2) B dJ5_newCapacity_0f7a4_22 (by decide) ?_
  refine g_aload_n B 3 dJ5_newCapacity_0f7a4_23 rfl rfl ?_
  replace h := bnP_s h
  obtain ⟨x7, h8, h⟩ := h
  refine g_getI B fl_RJ5_22 (by decide) dJ5_newCapacity_0f7a4_24 h8 ?_
  refine g_ishl B dJ5_newCapacity_0f7a4_27 ?_
  refine g_iadd B dJ5_newCapacity_0f7a4_28 ?_
  replace h := bnP_s h
  obtain ⟨x9, h10, h⟩ := h
  refine g_callSs0 (st := []) B (cJ8_newLength_cabccc h10) mi_J8_newLength_cabcc lk_RJ5_114 ⟨Nat.le_of_ble_eq_true rfl, Nat.le_of_ble_eq_true rfl⟩ rfl rfl (Nat.le_of_ble_eq_true rfl) dJ5_newCapacity_0f7a4_29 (Nat.le_trans (bm hka) hla) (Nat.le_trans (bm hkb) hlb) ?_
  refine g_istore B dJ5_newCapacity_0f7a4_32 (Nat.le_of_ble_eq_true rfl) (s1_c (f1_1 rfl rfl (f1_k rfl (f1_k rfl (f1_k rfl (f1_k rfl f1_n)))))) ?_
  refine g_iload B 0 dJ5_newCapacity_0f7a4_34 rfl ?_
  refine g_ldc B cs_RJ5_39 dJ5_newCapacity_0f7a4_36 ?_
  refine g_icmp_ne B 51 dJ5_newCapacity_0f7a4_38 (by decide) (fun hc => ?_) (fun hc => ?_)
  · replace h := ifn hc h
    refine g_iload B 0 dJ5_newCapacity_0f7a4_51 rfl ?_
    refine g_aload_n B 4 dJ5_newCapacity_0f7a4_53 rfl rfl ?_
    replace h := bnP_s h
    obtain ⟨x11, h12, h⟩ := h
    refine g_getI B fl_RJ5_22 (by decide) dJ5_newCapacity_0f7a4_54 h12 ?_
    refine g_ishr B dJ5_newCapacity_0f7a4_57 ?_
    obtain ⟨w1, w2, w3, w4⟩ := inA h
    clear h
    subst w1
    subst w2
    subst w3
    subst w4
    exact g_iret B hE (Nat.le_trans (Nat.le_of_eq hka) hla) (Nat.le_trans (Nat.le_of_eq hkb) hlb) dJ5_newCapacity_0f7a4_58
  · replace h := ifp hc h
    cases h
set_option maxRecDepth 100000 in
set_option maxHeartbeats 4000000 in
theorem cJ7_copyOf_9075bc {l : Launch} {v0 : Option Nat} {v1 : Int32} {σ : HpT} {o : Except Nat (Option Nat)} {σ' : HpT} {a b : Nat} (h : fJ7_copyOf_9075b v0 v1 σ = some (o, σ', a, b)) : Ct l yJ7_copyOf_9075b cJ7_copyOf_9075b 3 (some (.array .byte)) 1 60 [va_rf v0, .int v1] σ (oA o) σ' a b := by
  unfold fJ7_copyOf_9075b at h
  refine ct_start mi_J7_copyOf_9075b.1 rfl (al_le (al_1 (rf_cat _) (al_1 rfl al_n)) (Nat.le_of_ble_eq_true rfl)) (ag_1 (rf_cat _) (ag_1 rfl ag_n)) (fun Δ Γ B hE hnm => ?_)
  have hka : 0 + a = a := Nat.zero_add a
  have hkb : 0 + b = b := Nat.zero_add b
  have hla : a ≤ a := Nat.le_refl a
  have hlb : b ≤ b := Nat.le_refl b
  refine g_iload_n B 1 dJ7_copyOf_9075b_0 rfl rfl ?_
  refine g_aload_n B 0 dJ7_copyOf_9075b_1 rfl rfl ?_
  replace h := bnP_s h
  obtain ⟨x1, h2, h⟩ := h
  refine g_alen B (κ := 22) (by decide) dJ7_copyOf_9075b_2 h2 ?_
  refine g_icmp_ne B 14 dJ7_copyOf_9075b_3 (by decide) (fun hc => ?_) (fun hc => ?_)
  · replace h := ifn hc h
    refine g_iload_n B 1 dJ7_copyOf_9075b_14 rfl rfl ?_
    replace h := bnA_s h
    rcases h with ⟨e9, h4, e8⟩ | ⟨x3, s5, a6, b7, a8, b9, h4, h, ea, eb⟩
    · exact absurd h4 (by simp [nwA, nwR]; try (split <;> simp))
    · subst ea; subst eb
      have hka := bk hka
      have hkb := bk hkb
      refine g_newarr B (Or.inr (Or.inr (Or.inl ⟨rfl, rfl⟩))) na_byte dJ7_copyOf_9075b_15 h4 (Nat.le_trans (bm hka) hla) (Nat.le_trans (bm hkb) hlb) ?_
      refine g_astore_n B dJ7_copyOf_9075b_17 rfl (Nat.le_of_ble_eq_true rfl) (s1_c (f1_k rfl (f1_1 rfl rfl f1_n))) ?_
      refine g_aload_n B 1 dJ7_copyOf_9075b_18 rfl rfl ?_
      refine g_iconst (v := 0) B dJ7_copyOf_9075b_19 (by decide) ?_
      refine g_aload_n B 0 dJ7_copyOf_9075b_20 rfl rfl ?_
      refine g_iconst (v := 0) B dJ7_copyOf_9075b_21 (by decide) ?_
      refine g_aload_n B 1 dJ7_copyOf_9075b_22 rfl rfl ?_
      replace h := bnP_s h
      obtain ⟨x10, h11, h⟩ := h
      refine g_alen B (κ := 22) (by decide) dJ7_copyOf_9075b_23 h11 ?_
      refine g_iload_n B 2 dJ7_copyOf_9075b_24 rfl rfl ?_
      refine g_mmin B mt_RJ7_304 (by decide) (Nat.le_of_ble_eq_true rfl) dJ7_copyOf_9075b_25 (Nat.le_trans (bm hka) hla) (Nat.le_trans (bm hkb) hlb) ?_
      replace h := bnP_s h
      obtain ⟨s14, h13, h⟩ := h
      refine g_cpI B (κ := 22) (by decide) cp_RJ7_150 (by decide) (Nat.le_of_ble_eq_true rfl) dJ7_copyOf_9075b_28 h13 ?_
      refine g_aload_n B 0 dJ7_copyOf_9075b_31 rfl rfl ?_
      obtain ⟨w1, w2, w3, w4⟩ := inA h
      clear h
      subst w1
      subst w2
      subst w3
      subst w4
      exact g_aret B hE (Or.inr ⟨_, rfl⟩) (Nat.le_trans (Nat.le_of_eq hka) hla) (Nat.le_trans (Nat.le_of_eq hkb) hlb) dJ7_copyOf_9075b_32
  · replace h := ifp hc h
    refine g_aload_n B 0 dJ7_copyOf_9075b_6 rfl rfl ?_
    cases h
set_option maxRecDepth 100000 in
set_option maxHeartbeats 4000000 in
theorem cJ5_ensureCapacityInternal_d00dfc {l : Launch} {v0 : Option Nat} {v1 : Int32} {σ : HpT} {o : Except Nat (Unit)} {σ' : HpT} {a b : Nat} (h : fJ5_ensureCapacityInternal_d00df v0 v1 σ = some (o, σ', a, b)) : IsK σ v0 11 ∧ Ct l yJ5_ensureCapacityInternal_d00df cJ5_ensureCapacityInternal_d00df 3 none 3 82 [va_rf v0, .int v1] σ (oU o) σ' a b := by
  unfold fJ5_ensureCapacityInternal_d00df at h
  replace h := bnP_s h
  obtain ⟨u, hk, h⟩ := h
  replace hk := isK_s hk
  refine ⟨hk, ?_⟩
  refine ct_start mi_J5_ensureCapacityInternal_d00df.1 rfl (al_le (al_1 (rf_cat _) (al_1 rfl al_n)) (Nat.le_of_ble_eq_true rfl)) (ag_1 (rf_cat _) (ag_1 rfl ag_n)) (fun Δ Γ B hE hnm => ?_)
  have hka : 0 + a = a := Nat.zero_add a
  have hkb : 0 + b = b := Nat.zero_add b
  have hla : a ≤ a := Nat.le_refl a
  have hlb : b ≤ b := Nat.le_refl b
  refine g_aload_n B 0 dJ5_ensureCapacityInternal_d00df_0 rfl rfl ?_
  replace h := bnP_s h
  obtain ⟨x1, h2, h⟩ := h
  refine g_getR B fl_RJ5_15 (by decide) dJ5_ensureCapacityInternal_d00df_1 h2 ?_
  replace h := bnP_s h
  obtain ⟨x3, h4, h⟩ := h
  refine g_alen B (κ := 22) (by decide) dJ5_ensureCapacityInternal_d00df_4 h4 ?_
  refine g_aload_n B 0 dJ5_ensureCapacityInternal_d00df_5 rfl rfl ?_
  replace h := bnP_s h
  obtain ⟨x5, h6, h⟩ := h
  refine g_getI B fl_RJ5_22 (by decide) dJ5_ensureCapacityInternal_d00df_6 h6 ?_
  refine g_ishr B dJ5_ensureCapacityInternal_d00df_9 ?_
  refine g_istore_n B dJ5_ensureCapacityInternal_d00df_10 rfl (Nat.le_of_ble_eq_true rfl) (s1_c (f1_k rfl (f1_1 rfl rfl f1_n))) ?_
  refine g_iload_n B 2 dJ5_ensureCapacityInternal_d00df_11 rfl rfl ?_
  refine g_iload_n B 0 dJ5_ensureCapacityInternal_d00df_12 rfl rfl ?_
  refine g_isub B dJ5_ensureCapacityInternal_d00df_13 ?_
  refine g_if_le B 38 dJ5_ensureCapacityInternal_d00df_14 (by decide) (fun hc => ?_) (fun hc => ?_)
  · replace h := ifp hc h
    obtain ⟨w1, w2, w3, w4⟩ := inA h
    clear h
    subst w1
    subst w2
    subst w3
    subst w4
    exact g_vret B hE (Nat.le_trans (Nat.le_of_eq hka) hla) (Nat.le_trans (Nat.le_of_eq hkb) hlb) dJ5_ensureCapacityInternal_d00df_38
  · replace h := ifn hc h
    refine g_aload_n B 1 dJ5_ensureCapacityInternal_d00df_17 rfl rfl ?_
    refine g_aload_n B 1 dJ5_ensureCapacityInternal_d00df_18 rfl rfl ?_
    replace h := bnP_s h
    obtain ⟨x7, h8, h⟩ := h
    refine g_getR B fl_RJ5_15 (by decide) dJ5_ensureCapacityInternal_d00df_19 h8 ?_
    refine g_aload_n B 1 dJ5_ensureCapacityInternal_d00df_22 rfl rfl ?_
    refine g_iload_n B 2 dJ5_ensureCapacityInternal_d00df_23 rfl rfl ?_
    replace h := bnA_s h
    rcases h with ⟨e9, h10, e8⟩ | ⟨x9, s11, a12, b13, a14, b15, h10, h, ea, eb⟩
    · subst e8
      exact g_callVcx (st := [va_rf x7, va_rf v0]) B (cJ5_newCapacity_0f7a4c (o := .error e9) h10) (Nat.le_of_ble_eq_true rfl) rfl mi_J5_newCapacity_0f7a4 lk_RJ5_104 ⟨Nat.le_of_ble_eq_true rfl, Nat.le_of_ble_eq_true rfl⟩ rfl rfl (Nat.le_of_ble_eq_true rfl) dJ5_ensureCapacityInternal_d00df_24 (Nat.le_trans (Nat.le_of_eq hka) hla) (Nat.le_trans (Nat.le_of_eq hkb) hlb) hE
    · subst ea; subst eb
      have hka := bk hka
      have hkb := bk hkb
      refine g_callVcsA (st := [va_rf x7, va_rf v0]) B (cJ5_newCapacity_0f7a4c (o := .ok x9) h10) (Nat.le_of_ble_eq_true rfl) rfl mi_J5_newCapacity_0f7a4 lk_RJ5_104 ⟨Nat.le_of_ble_eq_true rfl, Nat.le_of_ble_eq_true rfl⟩ rfl rfl (Nat.le_of_ble_eq_true rfl) dJ5_ensureCapacityInternal_d00df_24 (Nat.le_trans (bm hka) hla) (Nat.le_trans (bm hkb) hlb) ?_
      refine g_aload_n B 1 dJ5_ensureCapacityInternal_d00df_27 rfl rfl ?_
      replace h := bnP_s h
      obtain ⟨x16, h17, h⟩ := h
      refine g_getI B fl_RJ5_22 (by decide) dJ5_ensureCapacityInternal_d00df_28 h17 ?_
      refine g_ishl B dJ5_ensureCapacityInternal_d00df_31 ?_
      replace h := bnA_s h
      rcases h with ⟨e9, h19, e8⟩ | ⟨x18, s20, a21, b22, a23, b24, h19, h, ea, eb⟩
      · subst e8
        exact g_callSx (st := [va_rf v0]) B (cJ7_copyOf_9075bc (o := .error e9) h19) mi_J7_copyOf_9075b lk_RJ5_108 ⟨Nat.le_of_ble_eq_true rfl, Nat.le_of_ble_eq_true rfl⟩ rfl rfl (Nat.le_of_ble_eq_true rfl) dJ5_ensureCapacityInternal_d00df_32 (Nat.le_trans (Nat.le_of_eq hka) hla) (Nat.le_trans (Nat.le_of_eq hkb) hlb) hE
      · subst ea; subst eb
        have hka := bk hka
        have hkb := bk hkb
        refine g_callSsA (st := [va_rf v0]) B (cJ7_copyOf_9075bc (o := .ok x18) h19) mi_J7_copyOf_9075b lk_RJ5_108 ⟨Nat.le_of_ble_eq_true rfl, Nat.le_of_ble_eq_true rfl⟩ rfl rfl (Nat.le_of_ble_eq_true rfl) dJ5_ensureCapacityInternal_d00df_32 (Nat.le_trans (bm hka) hla) (Nat.le_trans (bm hkb) hlb) ?_
        replace h := bnP_s h
        obtain ⟨s27, h26, h⟩ := h
        refine g_putR B fl_RJ5_15 (by decide) (Or.inr ⟨_, rfl⟩) dJ5_ensureCapacityInternal_d00df_35 h26 ?_
        obtain ⟨w1, w2, w3, w4⟩ := inA h
        clear h
        subst w1
        subst w2
        subst w3
        subst w4
        exact g_vret B hE (Nat.le_trans (Nat.le_of_eq hka) hla) (Nat.le_trans (Nat.le_of_eq hkb) hlb) dJ5_ensureCapacityInternal_d00df_38
set_option maxRecDepth 100000 in
set_option maxHeartbeats 4000000 in
theorem cJ5_isLatin1_aae02c {l : Launch} {v0 : Option Nat} {σ : HpT} {r : Bool} (h : fJ5_isLatin1_aae02 v0 σ = some r) : IsK σ v0 11 ∧ Ct l yJ5_isLatin1_aae02 cJ5_isLatin1_aae02 1 (some .boolean) 0 0 [va_rf v0] σ (.ok (some (.int (bI r)))) σ 0 0 := by
  unfold fJ5_isLatin1_aae02 at h
  replace h := bnP_s h
  obtain ⟨u, hk, h⟩ := h
  replace hk := isK_s hk
  refine ⟨hk, ?_⟩
  refine ct_start mi_J5_isLatin1_aae02.1 rfl (al_le (al_1 (rf_cat _) al_n) (Nat.le_of_ble_eq_true rfl)) (ag_1 (rf_cat _) ag_n) (fun Δ Γ B hE hnm => ?_)
  refine g_gstC B sv_RJ5_18 dJ5_isLatin1_aae02_0 ?_
  refine g_if_eq B 17 dJ5_isLatin1_aae02_3 (by decide) (fun hc => ?_) (fun hc => ?_)
  · exact absurd hc (by decide)
  · skip
    refine g_aload_n B 0 dJ5_isLatin1_aae02_6 rfl rfl ?_
    replace h := bnP_s h
    obtain ⟨x1, h2, h⟩ := h
    refine g_getI B fl_RJ5_22 (by decide) dJ5_isLatin1_aae02_7 h2 ?_
    refine g_if_ne B 17 dJ5_isLatin1_aae02_10 (by decide) (fun hc => ?_) (fun hc => ?_)
    · replace h := ifn hc h
      refine g_iconst (v := 0) B dJ5_isLatin1_aae02_17 (by decide) ?_
      replace h := Option.some.inj h
      subst h
      exact g_zret B hE rfl (Nat.zero_le _) (Nat.zero_le _) dJ5_isLatin1_aae02_18
    · replace h := ifp hc h
      refine g_iconst (v := 1) B dJ5_isLatin1_aae02_13 (by decide) ?_
      refine g_goto B 18 dJ5_isLatin1_aae02_14 (by decide) ?_
      replace h := Option.some.inj h
      subst h
      exact g_zret B hE rfl (Nat.zero_le _) (Nat.zero_le _) dJ5_isLatin1_aae02_18
set_option maxRecDepth 100000 in
set_option maxHeartbeats 4000000 in
theorem cJ5_setLength_d00dfc {l : Launch} {v0 : Option Nat} {v1 : Int32} {σ : HpT} {o : Except Nat (Unit)} {σ' : HpT} {a b : Nat} (h : fJ5_setLength_d00df v0 v1 σ = some (o, σ', a, b)) : IsK σ v0 11 ∧ Ct l yJ5_setLength_d00df cJ5_setLength_d00df 2 none 4 104 [va_rf v0, .int v1] σ (oU o) σ' a b := by
  unfold fJ5_setLength_d00df at h
  replace h := bnP_s h
  obtain ⟨u, hk, h⟩ := h
  replace hk := isK_s hk
  refine ⟨hk, ?_⟩
  refine ct_start mi_J5_setLength_d00df.1 rfl (al_le (al_1 (rf_cat _) (al_1 rfl al_n)) (Nat.le_of_ble_eq_true rfl)) (ag_1 (rf_cat _) (ag_1 rfl ag_n)) (fun Δ Γ B hE hnm => ?_)
  have hka : 0 + a = a := Nat.zero_add a
  have hkb : 0 + b = b := Nat.zero_add b
  have hla : a ≤ a := Nat.le_refl a
  have hlb : b ≤ b := Nat.le_refl b
  refine g_iload_n B 1 dJ5_setLength_d00df_0 rfl rfl ?_
  refine g_if_ge B 13 dJ5_setLength_d00df_1 (by decide) (fun hc => ?_) (fun hc => ?_)
  · replace h := ifp hc h
    refine g_aload_n B 0 dJ5_setLength_d00df_13 rfl rfl ?_
    refine g_iload_n B 1 dJ5_setLength_d00df_14 rfl rfl ?_
    replace h := bnA_s h
    rcases h with ⟨e9, h2, e8⟩ | ⟨x1, s3, a4, b5, a6, b7, h2, h, ea, eb⟩
    · subst e8
      exact g_callVcx (st := []) B (cJ5_ensureCapacityInternal_d00dfc (o := .error e9) h2) (Nat.le_of_ble_eq_true rfl) rfl mi_J5_ensureCapacityInternal_d00df lk_RJ5_100 ⟨Nat.le_of_ble_eq_true rfl, Nat.le_of_ble_eq_true rfl⟩ rfl rfl (Nat.le_of_ble_eq_true rfl) dJ5_setLength_d00df_15 (Nat.le_trans (Nat.le_of_eq hka) hla) (Nat.le_trans (Nat.le_of_eq hkb) hlb) hE
    · subst ea; subst eb
      have hka := bk hka
      have hkb := bk hkb
      refine g_callVcvA (st := []) B (cJ5_ensureCapacityInternal_d00dfc (o := .ok x1) h2) (Nat.le_of_ble_eq_true rfl) rfl mi_J5_ensureCapacityInternal_d00df lk_RJ5_100 ⟨Nat.le_of_ble_eq_true rfl, Nat.le_of_ble_eq_true rfl⟩ rfl rfl (Nat.le_of_ble_eq_true rfl) dJ5_setLength_d00df_15 (Nat.le_trans (bm hka) hla) (Nat.le_trans (bm hkb) hlb) ?_
      refine g_aload_n B 0 dJ5_setLength_d00df_18 rfl rfl ?_
      replace h := bnP_s h
      obtain ⟨x8, h9, h⟩ := h
      refine g_getI B fl_RJ5_79 (by decide) dJ5_setLength_d00df_19 h9 ?_
      refine g_iload_n B 1 dJ5_setLength_d00df_22 rfl rfl ?_
      replace h := bnS_s h
      obtain ⟨j10, s30, h11, h⟩ := h
      have k13 : GW Δ Γ (0 + a4) (0 + b5) 76 [(0, va_rf v0), (1, .int v1)] [] s30 := by
        refine g_aload_n B 0 dJ5_setLength_d00df_76 rfl rfl ?_
        refine g_iload_n B 1 dJ5_setLength_d00df_77 rfl rfl ?_
        replace h := bnP_s h
        obtain ⟨s33, h32, h⟩ := h
        refine g_putI B fl_RJ5_79 (by decide) dJ5_setLength_d00df_78 h32 ?_
        obtain ⟨w1, w2, w3, w4⟩ := inA h
        clear h
        subst w1
        subst w2
        subst w3
        subst w4
        exact g_vret B hE (Nat.le_trans (Nat.le_of_eq hka) hla) (Nat.le_trans (Nat.le_of_eq hkb) hlb) dJ5_setLength_d00df_81
      clear h
      have h := h11
      clear h11
      refine g_icmp_ge B 63 dJ5_setLength_d00df_23 (by decide) (fun hc => ?_) (fun hc => ?_)
      · replace h := ifp hc h
        refine g_aload_n B 0 dJ5_setLength_d00df_63 rfl rfl ?_
        replace h := bnP_s h
        obtain ⟨x15, h16, h⟩ := h
        refine g_getI B fl_RJ5_79 (by decide) dJ5_setLength_d00df_64 h16 ?_
        refine g_iload_n B 1 dJ5_setLength_d00df_67 rfl rfl ?_
        refine g_icmp_le B 76 dJ5_setLength_d00df_68 (by decide) (fun hc => ?_) (fun hc => ?_)
        · replace h := ifp hc h
          obtain ⟨w1, w2⟩ := inS h
          clear h
          subst w1
          subst w2
          exact g_sub [0, 1] rfl k13
        · replace h := ifn hc h
          refine g_aload_n B 0 dJ5_setLength_d00df_71 rfl rfl ?_
          refine g_iconst (v := 1) B dJ5_setLength_d00df_72 (by decide) ?_
          replace h := bnP_s h
          obtain ⟨s19, h18, h⟩ := h
          refine g_putZ B fl_RJ5_73 (by decide) dJ5_setLength_d00df_73 h18 ?_
          obtain ⟨w1, w2⟩ := inS h
          clear h
          subst w1
          subst w2
          exact g_sub [0, 1] rfl k13
      · replace h := ifn hc h
        refine g_aload_n B 0 dJ5_setLength_d00df_26 rfl rfl ?_
        replace h := bnP_s h
        obtain ⟨x20, h21, h⟩ := h
        refine g_callVcs0 (st := []) B (cJ5_isLatin1_aae02c h21) (Nat.le_of_ble_eq_true rfl) rfl mi_J5_isLatin1_aae02 lk_RJ5_83 ⟨Nat.le_of_ble_eq_true rfl, Nat.le_of_ble_eq_true rfl⟩ rfl rfl (Nat.le_of_ble_eq_true rfl) dJ5_setLength_d00df_27 (Nat.le_trans (bm hka) hla) (Nat.le_trans (bm hkb) hlb) ?_
        refine g_if_eq B 48 dJ5_setLength_d00df_30 (by decide) (fun hc => ?_) (fun hc => ?_)
        · replace h := ifn (bI0 hc) h
          refine g_aload_n B 0 dJ5_setLength_d00df_48 rfl rfl ?_
          replace h := bnP_s h
          obtain ⟨x22, h23, h⟩ := h
          refine g_getR B fl_RJ5_15 (by decide) dJ5_setLength_d00df_49 h23 ?_
          refine g_aload_n B 0 dJ5_setLength_d00df_52 rfl rfl ?_
          replace h := bnP_s h
          obtain ⟨x24, h25, h⟩ := h
          refine g_getI B fl_RJ5_79 (by decide) dJ5_setLength_d00df_53 h25 ?_
          refine g_iload_n B 1 dJ5_setLength_d00df_56 rfl rfl ?_
          cases h
        · replace h := ifp (bI1 hc) h
          refine g_aload_n B 0 dJ5_setLength_d00df_33 rfl rfl ?_
          replace h := bnP_s h
          obtain ⟨x26, h27, h⟩ := h
          refine g_getR B fl_RJ5_15 (by decide) dJ5_setLength_d00df_34 h27 ?_
          refine g_aload_n B 0 dJ5_setLength_d00df_37 rfl rfl ?_
          replace h := bnP_s h
          obtain ⟨x28, h29, h⟩ := h
          refine g_getI B fl_RJ5_79 (by decide) dJ5_setLength_d00df_38 h29 ?_
          refine g_iload_n B 1 dJ5_setLength_d00df_41 rfl rfl ?_
          cases h
  · replace h := ifn hc h
    cases h
set_option maxRecDepth 100000 in
set_option maxHeartbeats 4000000 in
theorem cJ4_setLength_d00dfc {l : Launch} {v0 : Option Nat} {v1 : Int32} {σ : HpT} {o : Except Nat (Unit)} {σ' : HpT} {a b : Nat} (h : fJ4_setLength_d00df v0 v1 σ = some (o, σ', a, b)) : IsK σ v0 11 ∧ Ct l yJ4_setLength_d00df cJ4_setLength_d00df 2 none 5 125 [va_rf v0, .int v1] σ (oU o) σ' a b := by
  unfold fJ4_setLength_d00df at h
  replace h := bnP_s h
  obtain ⟨u, hk, h⟩ := h
  replace hk := isK_s hk
  refine ⟨hk, ?_⟩
  refine ct_start mi_J4_setLength_d00df.1 rfl (al_le (al_1 (rf_cat _) (al_1 rfl al_n)) (Nat.le_of_ble_eq_true rfl)) (ag_1 (rf_cat _) (ag_1 rfl ag_n)) (fun Δ Γ B hE hnm => ?_)
  have hka : 0 + a = a := Nat.zero_add a
  have hkb : 0 + b = b := Nat.zero_add b
  have hla : a ≤ a := Nat.le_refl a
  have hlb : b ≤ b := Nat.le_refl b
  refine g_aload_n B 0 dJ4_setLength_d00df_0 rfl rfl ?_
  refine g_iload_n B 1 dJ4_setLength_d00df_1 rfl rfl ?_
  replace h := bnA_s h
  rcases h with ⟨e9, h2, e8⟩ | ⟨x1, s3, a4, b5, a6, b7, h2, h, ea, eb⟩
  · subst e8
    exact g_callSUx (st := []) B (cJ5_setLength_d00dfc (o := .error e9) h2) (Nat.le_of_ble_eq_true rfl) rfl mi_J5_setLength_d00df lk_RJ4_333 ⟨Nat.le_of_ble_eq_true rfl, Nat.le_of_ble_eq_true rfl⟩ rfl rfl (Nat.le_of_ble_eq_true rfl) dJ4_setLength_d00df_2 (Nat.le_trans (Nat.le_of_eq hka) hla) (Nat.le_trans (Nat.le_of_eq hkb) hlb) hE
  · subst ea; subst eb
    have hka := bk hka
    have hkb := bk hkb
    refine g_callSUvA (st := []) B (cJ5_setLength_d00dfc (o := .ok x1) h2) (Nat.le_of_ble_eq_true rfl) rfl mi_J5_setLength_d00df lk_RJ4_333 ⟨Nat.le_of_ble_eq_true rfl, Nat.le_of_ble_eq_true rfl⟩ rfl rfl (Nat.le_of_ble_eq_true rfl) dJ4_setLength_d00df_2 (Nat.le_trans (bm hka) hla) (Nat.le_trans (bm hkb) hlb) ?_
    obtain ⟨w1, w2, w3, w4⟩ := inA h
    clear h
    subst w1
    subst w2
    subst w3
    subst w4
    exact g_vret B hE (Nat.le_trans (Nat.le_of_eq hka) hla) (Nat.le_trans (Nat.le_of_eq hkb) hlb) dJ4_setLength_d00df_5
set_option maxRecDepth 100000 in
set_option maxHeartbeats 4000000 in
theorem cJ5_length_8abf5c {l : Launch} {v0 : Option Nat} {σ : HpT} {r : Int32} (h : fJ5_length_8abf5 v0 σ = some r) : IsK σ v0 11 ∧ Ct l yJ5_length_8abf5 cJ5_length_8abf5 1 (some .int) 0 0 [va_rf v0] σ (.ok (some (.int r))) σ 0 0 := by
  unfold fJ5_length_8abf5 at h
  replace h := bnP_s h
  obtain ⟨u, hk, h⟩ := h
  replace hk := isK_s hk
  refine ⟨hk, ?_⟩
  refine ct_start mi_J5_length_8abf5.1 rfl (al_le (al_1 (rf_cat _) al_n) (Nat.le_of_ble_eq_true rfl)) (ag_1 (rf_cat _) ag_n) (fun Δ Γ B hE hnm => ?_)
  refine g_aload_n B 0 dJ5_length_8abf5_0 rfl rfl ?_
  replace h := bnP_s h
  obtain ⟨x1, h2, h⟩ := h
  refine g_getI B fl_RJ5_79 (by decide) dJ5_length_8abf5_1 h2 ?_
  replace h := Option.some.inj h
  subst h
  exact g_iret B hE (Nat.zero_le _) (Nat.zero_le _) dJ5_length_8abf5_4
set_option maxRecDepth 100000 in
set_option maxHeartbeats 4000000 in
theorem cJ4_length_8abf5c {l : Launch} {v0 : Option Nat} {σ : HpT} {r : Int32} (h : fJ4_length_8abf5 v0 σ = some r) : IsK σ v0 11 ∧ Ct l yJ4_length_8abf5 cJ4_length_8abf5 1 (some .int) 1 20 [va_rf v0] σ (.ok (some (.int r))) σ 0 0 := by
  unfold fJ4_length_8abf5 at h
  replace h := bnP_s h
  obtain ⟨u, hk, h⟩ := h
  replace hk := isK_s hk
  refine ⟨hk, ?_⟩
  refine ct_start mi_J4_length_8abf5.1 rfl (al_le (al_1 (rf_cat _) al_n) (Nat.le_of_ble_eq_true rfl)) (ag_1 (rf_cat _) ag_n) (fun Δ Γ B hE hnm => ?_)
  refine g_aload_n B 0 dJ4_length_8abf5_0 rfl rfl ?_
  replace h := bnP_s h
  obtain ⟨x1, h2, h⟩ := h
  refine g_callSUs0 (st := []) B (cJ5_length_8abf5c h2) (Nat.le_of_ble_eq_true rfl) rfl mi_J5_length_8abf5 lk_RJ4_343 ⟨Nat.le_of_ble_eq_true rfl, Nat.le_of_ble_eq_true rfl⟩ rfl rfl (Nat.le_of_ble_eq_true rfl) dJ4_length_8abf5_1 (Nat.zero_le _) (Nat.zero_le _) ?_
  replace h := Option.some.inj h
  subst h
  exact g_iret B hE (Nat.zero_le _) (Nat.zero_le _) dJ4_length_8abf5_4
set_option maxRecDepth 100000 in
set_option maxHeartbeats 4000000 in
theorem cJ1_canEncode_fc78dc {l : Launch} {v0 : Int32} {σ : HpT} {r : Bool} (h : fJ1_canEncode_fc78d v0 σ = some r) : Ct l yJ1_canEncode_fc78d cJ1_canEncode_fc78d 1 (some .boolean) 0 0 [.int v0] σ (.ok (some (.int (bI r)))) σ 0 0 := by
  unfold fJ1_canEncode_fc78d at h
  refine ct_start mi_J1_canEncode_fc78d.1 rfl (al_le (al_1 rfl al_n) (Nat.le_of_ble_eq_true rfl)) (ag_1 rfl ag_n) (fun Δ Γ B hE hnm => ?_)
  refine g_iload_n B 0 dJ1_canEncode_fc78d_0 rfl rfl ?_
  refine g_sipush (v := 255) B dJ1_canEncode_fc78d_1 (by decide) ?_
  refine g_icmp_gt B 11 dJ1_canEncode_fc78d_4 (by decide) (fun hc => ?_) (fun hc => ?_)
  · replace h := ifp hc h
    refine g_iconst (v := 0) B dJ1_canEncode_fc78d_11 (by decide) ?_
    replace h := Option.some.inj h
    subst h
    exact g_zret B hE rfl (Nat.zero_le _) (Nat.zero_le _) dJ1_canEncode_fc78d_12
  · replace h := ifn hc h
    refine g_iconst (v := 1) B dJ1_canEncode_fc78d_7 (by decide) ?_
    refine g_goto B 12 dJ1_canEncode_fc78d_8 (by decide) ?_
    replace h := Option.some.inj h
    subst h
    exact g_zret B hE rfl (Nat.zero_le _) (Nat.zero_le _) dJ1_canEncode_fc78d_12
set_option maxRecDepth 100000 in
set_option maxHeartbeats 4000000 in
theorem cJ5_append_3fe6fc {l : Launch} {v0 : Option Nat} {v1 : Int32} {σ : HpT} {o : Except Nat (Option Nat)} {σ' : HpT} {a b : Nat} (h : fJ5_append_3fe6f v0 v1 σ = some (o, σ', a, b)) : IsK σ v0 11 ∧ Ct l yJ5_append_3fe6f cJ5_append_3fe6f 2 (some (.object "java/lang/AbstractStringBuilder")) 4 104 [va_rf v0, .int v1] σ (oA o) σ' a b := by
  unfold fJ5_append_3fe6f at h
  replace h := bnP_s h
  obtain ⟨u, hk, h⟩ := h
  replace hk := isK_s hk
  refine ⟨hk, ?_⟩
  refine ct_start mi_J5_append_3fe6f.1 rfl (al_le (al_1 (rf_cat _) (al_1 rfl al_n)) (Nat.le_of_ble_eq_true rfl)) (ag_1 (rf_cat _) (ag_1 rfl ag_n)) (fun Δ Γ B hE hnm => ?_)
  have hka : 0 + a = a := Nat.zero_add a
  have hkb : 0 + b = b := Nat.zero_add b
  have hla : a ≤ a := Nat.le_refl a
  have hlb : b ≤ b := Nat.le_refl b
  refine g_aload_n B 0 dJ5_append_3fe6f_0 rfl rfl ?_
  refine g_aload_n B 0 dJ5_append_3fe6f_1 rfl rfl ?_
  replace h := bnP_s h
  obtain ⟨x1, h2, h⟩ := h
  refine g_getI B fl_RJ5_79 (by decide) dJ5_append_3fe6f_2 h2 ?_
  refine g_iconst (v := 1) B dJ5_append_3fe6f_5 (by decide) ?_
  refine g_iadd B dJ5_append_3fe6f_6 ?_
  replace h := bnA_s h
  rcases h with ⟨e9, h4, e8⟩ | ⟨x3, s5, a6, b7, a8, b9, h4, h, ea, eb⟩
  · subst e8
    exact g_callVcx (st := []) B (cJ5_ensureCapacityInternal_d00dfc (o := .error e9) h4) (Nat.le_of_ble_eq_true rfl) rfl mi_J5_ensureCapacityInternal_d00df lk_RJ5_100 ⟨Nat.le_of_ble_eq_true rfl, Nat.le_of_ble_eq_true rfl⟩ rfl rfl (Nat.le_of_ble_eq_true rfl) dJ5_append_3fe6f_7 (Nat.le_trans (Nat.le_of_eq hka) hla) (Nat.le_trans (Nat.le_of_eq hkb) hlb) hE
  · subst ea; subst eb
    have hka := bk hka
    have hkb := bk hkb
    refine g_callVcvA (st := []) B (cJ5_ensureCapacityInternal_d00dfc (o := .ok x3) h4) (Nat.le_of_ble_eq_true rfl) rfl mi_J5_ensureCapacityInternal_d00df lk_RJ5_100 ⟨Nat.le_of_ble_eq_true rfl, Nat.le_of_ble_eq_true rfl⟩ rfl rfl (Nat.le_of_ble_eq_true rfl) dJ5_append_3fe6f_7 (Nat.le_trans (bm hka) hla) (Nat.le_trans (bm hkb) hlb) ?_
    refine g_aload_n B 0 dJ5_append_3fe6f_10 rfl rfl ?_
    replace h := bnP_s h
    obtain ⟨x10, h11, h⟩ := h
    refine g_callVcs0 (st := []) B (cJ5_isLatin1_aae02c h11) (Nat.le_of_ble_eq_true rfl) rfl mi_J5_isLatin1_aae02 lk_RJ5_83 ⟨Nat.le_of_ble_eq_true rfl, Nat.le_of_ble_eq_true rfl⟩ rfl rfl (Nat.le_of_ble_eq_true rfl) dJ5_append_3fe6f_11 (Nat.le_trans (bm hka) hla) (Nat.le_trans (bm hkb) hlb) ?_
    refine g_if_eq B 45 dJ5_append_3fe6f_14 (by decide) (fun hc => ?_) (fun hc => ?_)
    · replace h := ifn (bI0 hc) h
      refine g_aload_n B 0 dJ5_append_3fe6f_45 rfl rfl ?_
      replace h := bnP_s h
      obtain ⟨x12, h13, h⟩ := h
      refine g_callVcs0 (st := []) B (cJ5_isLatin1_aae02c h13) (Nat.le_of_ble_eq_true rfl) rfl mi_J5_isLatin1_aae02 lk_RJ5_83 ⟨Nat.le_of_ble_eq_true rfl, Nat.le_of_ble_eq_true rfl⟩ rfl rfl (Nat.le_of_ble_eq_true rfl) dJ5_append_3fe6f_46 (Nat.le_trans (bm hka) hla) (Nat.le_trans (bm hkb) hlb) ?_
      replace h := bnP_s h
      obtain ⟨j14, h15, h⟩ := h
      have k17 : GW Δ Γ (0 + a6) (0 + b7) 56 [(0, va_rf v0), (1, .int v1)] [] s5 := by
        refine g_aload_n B 0 dJ5_append_3fe6f_56 rfl rfl ?_
        replace h := bnP_s h
        obtain ⟨x19, h20, h⟩ := h
        refine g_getR B fl_RJ5_15 (by decide) dJ5_append_3fe6f_57 h20 ?_
        refine g_aload_n B 0 dJ5_append_3fe6f_60 rfl rfl ?_
        refine g_dup B dJ5_append_3fe6f_61 (rf_cat _) ?_
        replace h := bnP_s h
        obtain ⟨x21, h22, h⟩ := h
        refine g_getI B fl_RJ5_79 (by decide) dJ5_append_3fe6f_62 h22 ?_
        refine g_dup_x1 B dJ5_append_3fe6f_65 rfl (rf_cat _) ?_
        refine g_iconst (v := 1) B dJ5_append_3fe6f_66 (by decide) ?_
        refine g_iadd B dJ5_append_3fe6f_67 ?_
        replace h := bnP_s h
        obtain ⟨s25, h24, h⟩ := h
        refine g_putI B fl_RJ5_79 (by decide) dJ5_append_3fe6f_68 h24 ?_
        refine g_iload_n B 1 dJ5_append_3fe6f_71 rfl rfl ?_
        cases h
      clear h
      have h := h15
      clear h15
      refine g_if_eq B 56 dJ5_append_3fe6f_49 (by decide) (fun hc => ?_) (fun hc => ?_)
      · replace h := ifn (bI0 hc) h
        replace h := Option.some.inj h
        subst h
        exact g_sub [0, 1] rfl k17
      · replace h := ifp (bI1 hc) h
        refine g_aload_n B 0 dJ5_append_3fe6f_52 rfl rfl ?_
        cases h
    · replace h := ifp (bI1 hc) h
      refine g_iload_n B 1 dJ5_append_3fe6f_17 rfl rfl ?_
      replace h := bnP_s h
      obtain ⟨x26, h27, h⟩ := h
      refine g_callSs0 (st := []) B (cJ1_canEncode_fc78dc h27) mi_J1_canEncode_fc78d lk_RJ5_191 ⟨Nat.le_of_ble_eq_true rfl, Nat.le_of_ble_eq_true rfl⟩ rfl rfl (Nat.le_of_ble_eq_true rfl) dJ5_append_3fe6f_18 (Nat.le_trans (bm hka) hla) (Nat.le_trans (bm hkb) hlb) ?_
      refine g_if_eq B 45 dJ5_append_3fe6f_21 (by decide) (fun hc => ?_) (fun hc => ?_)
      · replace h := ifn (bI0 hc) h
        refine g_aload_n B 0 dJ5_append_3fe6f_45 rfl rfl ?_
        replace h := bnP_s h
        obtain ⟨x28, h29, h⟩ := h
        refine g_callVcs0 (st := []) B (cJ5_isLatin1_aae02c h29) (Nat.le_of_ble_eq_true rfl) rfl mi_J5_isLatin1_aae02 lk_RJ5_83 ⟨Nat.le_of_ble_eq_true rfl, Nat.le_of_ble_eq_true rfl⟩ rfl rfl (Nat.le_of_ble_eq_true rfl) dJ5_append_3fe6f_46 (Nat.le_trans (bm hka) hla) (Nat.le_trans (bm hkb) hlb) ?_
        replace h := bnP_s h
        obtain ⟨j30, h31, h⟩ := h
        have k33 : GW Δ Γ (0 + a6) (0 + b7) 56 [(0, va_rf v0), (1, .int v1)] [] s5 := by
          refine g_aload_n B 0 dJ5_append_3fe6f_56 rfl rfl ?_
          replace h := bnP_s h
          obtain ⟨x35, h36, h⟩ := h
          refine g_getR B fl_RJ5_15 (by decide) dJ5_append_3fe6f_57 h36 ?_
          refine g_aload_n B 0 dJ5_append_3fe6f_60 rfl rfl ?_
          refine g_dup B dJ5_append_3fe6f_61 (rf_cat _) ?_
          replace h := bnP_s h
          obtain ⟨x37, h38, h⟩ := h
          refine g_getI B fl_RJ5_79 (by decide) dJ5_append_3fe6f_62 h38 ?_
          refine g_dup_x1 B dJ5_append_3fe6f_65 rfl (rf_cat _) ?_
          refine g_iconst (v := 1) B dJ5_append_3fe6f_66 (by decide) ?_
          refine g_iadd B dJ5_append_3fe6f_67 ?_
          replace h := bnP_s h
          obtain ⟨s41, h40, h⟩ := h
          refine g_putI B fl_RJ5_79 (by decide) dJ5_append_3fe6f_68 h40 ?_
          refine g_iload_n B 1 dJ5_append_3fe6f_71 rfl rfl ?_
          cases h
        clear h
        have h := h31
        clear h31
        refine g_if_eq B 56 dJ5_append_3fe6f_49 (by decide) (fun hc => ?_) (fun hc => ?_)
        · replace h := ifn (bI0 hc) h
          replace h := Option.some.inj h
          subst h
          exact g_sub [0, 1] rfl k33
        · replace h := ifp (bI1 hc) h
          refine g_aload_n B 0 dJ5_append_3fe6f_52 rfl rfl ?_
          cases h
      · replace h := ifp (bI1 hc) h
        refine g_aload_n B 0 dJ5_append_3fe6f_24 rfl rfl ?_
        replace h := bnP_s h
        obtain ⟨x42, h43, h⟩ := h
        refine g_getR B fl_RJ5_15 (by decide) dJ5_append_3fe6f_25 h43 ?_
        refine g_aload_n B 0 dJ5_append_3fe6f_28 rfl rfl ?_
        refine g_dup B dJ5_append_3fe6f_29 (rf_cat _) ?_
        replace h := bnP_s h
        obtain ⟨x44, h45, h⟩ := h
        refine g_getI B fl_RJ5_79 (by decide) dJ5_append_3fe6f_30 h45 ?_
        refine g_dup_x1 B dJ5_append_3fe6f_33 rfl (rf_cat _) ?_
        refine g_iconst (v := 1) B dJ5_append_3fe6f_34 (by decide) ?_
        refine g_iadd B dJ5_append_3fe6f_35 ?_
        replace h := bnP_s h
        obtain ⟨s48, h47, h⟩ := h
        refine g_putI B fl_RJ5_79 (by decide) dJ5_append_3fe6f_36 h47 ?_
        refine g_iload_n B 1 dJ5_append_3fe6f_39 rfl rfl ?_
        refine g_i2b B dJ5_append_3fe6f_40 ?_
        replace h := bnP_s h
        obtain ⟨s51, h50, h⟩ := h
        refine g_bast B dJ5_append_3fe6f_41 h50 ?_
        refine g_goto B 75 dJ5_append_3fe6f_42 (by decide) ?_
        refine g_aload_n B 0 dJ5_append_3fe6f_75 rfl rfl ?_
        obtain ⟨w1, w2, w3, w4⟩ := inA h
        clear h
        subst w1
        subst w2
        subst w3
        subst w4
        exact g_aret B hE (Or.inl ⟨_, rfl⟩) (Nat.le_trans (Nat.le_of_eq hka) hla) (Nat.le_trans (Nat.le_of_eq hkb) hlb) dJ5_append_3fe6f_76
set_option maxRecDepth 100000 in
set_option maxHeartbeats 4000000 in
theorem cJ4_append_cf468c {l : Launch} {v0 : Option Nat} {v1 : Int32} {σ : HpT} {o : Except Nat (Option Nat)} {σ' : HpT} {a b : Nat} (h : fJ4_append_cf468 v0 v1 σ = some (o, σ', a, b)) : IsK σ v0 11 ∧ Ct l yJ4_append_cf468 cJ4_append_cf468 2 (some (.object "java/lang/StringBuilder")) 5 125 [va_rf v0, .int v1] σ (oA o) σ' a b := by
  unfold fJ4_append_cf468 at h
  replace h := bnP_s h
  obtain ⟨u, hk, h⟩ := h
  replace hk := isK_s hk
  refine ⟨hk, ?_⟩
  refine ct_start mi_J4_append_cf468.1 rfl (al_le (al_1 (rf_cat _) (al_1 rfl al_n)) (Nat.le_of_ble_eq_true rfl)) (ag_1 (rf_cat _) (ag_1 rfl ag_n)) (fun Δ Γ B hE hnm => ?_)
  have hka : 0 + a = a := Nat.zero_add a
  have hkb : 0 + b = b := Nat.zero_add b
  have hla : a ≤ a := Nat.le_refl a
  have hlb : b ≤ b := Nat.le_refl b
  refine g_aload_n B 0 dJ4_append_cf468_0 rfl rfl ?_
  refine g_iload_n B 1 dJ4_append_cf468_1 rfl rfl ?_
  replace h := bnA_s h
  rcases h with ⟨e9, h2, e8⟩ | ⟨x1, s3, a4, b5, a6, b7, h2, h, ea, eb⟩
  · subst e8
    exact g_callSUx (st := []) B (cJ5_append_3fe6fc (o := .error e9) h2) (Nat.le_of_ble_eq_true rfl) rfl mi_J5_append_3fe6f lk_RJ4_50 ⟨Nat.le_of_ble_eq_true rfl, Nat.le_of_ble_eq_true rfl⟩ rfl rfl (Nat.le_of_ble_eq_true rfl) dJ4_append_cf468_2 (Nat.le_trans (Nat.le_of_eq hka) hla) (Nat.le_trans (Nat.le_of_eq hkb) hlb) hE
  · subst ea; subst eb
    have hka := bk hka
    have hkb := bk hkb
    refine g_callSUsA (st := []) B (cJ5_append_3fe6fc (o := .ok x1) h2) (Nat.le_of_ble_eq_true rfl) rfl mi_J5_append_3fe6f lk_RJ4_50 ⟨Nat.le_of_ble_eq_true rfl, Nat.le_of_ble_eq_true rfl⟩ rfl rfl (Nat.le_of_ble_eq_true rfl) dJ4_append_cf468_2 (Nat.le_trans (bm hka) hla) (Nat.le_trans (bm hkb) hlb) ?_
    refine g_pop B dJ4_append_cf468_5 (rf_cat _) ?_
    refine g_aload_n B 0 dJ4_append_cf468_6 rfl rfl ?_
    obtain ⟨w1, w2, w3, w4⟩ := inA h
    clear h
    subst w1
    subst w2
    subst w3
    subst w4
    exact g_aret B hE (Or.inl ⟨_, rfl⟩) (Nat.le_trans (Nat.le_of_eq hka) hla) (Nat.le_trans (Nat.le_of_eq hkb) hlb) dJ4_append_cf468_7
set_option maxRecDepth 100000 in
set_option maxHeartbeats 4000000 in
theorem cJ6_stringSize_0f7a4c {l : Launch} {v0 : Int32} {σ : HpT} {r : Int32} (h : fJ6_stringSize_0f7a4 v0 σ = some r) : Ct l yJ6_stringSize_0f7a4 cJ6_stringSize_0f7a4 4 (some .int) 0 0 [.int v0] σ (.ok (some (.int r))) σ 0 0 := by
  unfold fJ6_stringSize_0f7a4 at h
  refine ct_start mi_J6_stringSize_0f7a4.1 rfl (al_le (al_1 rfl al_n) (Nat.le_of_ble_eq_true rfl)) (ag_1 rfl ag_n) (fun Δ Γ B hE hnm => ?_)
  refine g_iconst (v := 1) B dJ6_stringSize_0f7a4_0 (by decide) ?_
  refine g_istore_n B dJ6_stringSize_0f7a4_1 rfl (Nat.le_of_ble_eq_true rfl) (s1_c (f1_1 rfl rfl f1_n)) ?_
  refine g_iload_n B 1 dJ6_stringSize_0f7a4_2 rfl rfl ?_
  replace h := bnP_s h
  obtain ⟨j1, h2, h⟩ := h
  have k4 : GW Δ Γ (0) (0) 11 [(0, .int j1.1), (1, .int j1.2)] [] σ := by
    refine g_bipush (v := (-10)) B dJ6_stringSize_0f7a4_11 (by decide) ?_
    refine g_istore_n B dJ6_stringSize_0f7a4_13 rfl (Nat.le_of_ble_eq_true rfl) (s1_c (f1_k rfl (f1_1 rfl rfl f1_n))) ?_
    refine g_iconst (v := 1) B dJ6_stringSize_0f7a4_14 (by decide) ?_
    refine g_istore_n B dJ6_stringSize_0f7a4_15 rfl (Nat.le_of_ble_eq_true rfl) (s1_c (f1_1 rfl rfl (f1_k rfl (f1_k rfl f1_n)))) ?_
    replace h := bnP_s h
    obtain ⟨r7, h8, h⟩ := h
    have kE9 : ∀ y15, r7 = .inl y15 → GW Δ Γ (0) (0) 42 [(1, .int j1.2)] [] σ := by
      intro y15 er
      subst er
      dsimp only at h
      refine g_bipush (v := 10) B dJ6_stringSize_0f7a4_42 (by decide) ?_
      refine g_iload_n B 0 dJ6_stringSize_0f7a4_44 rfl rfl ?_
      refine g_iadd B dJ6_stringSize_0f7a4_45 ?_
      replace h := Option.some.inj h
      subst h
      exact g_iret B hE (Nat.zero_le _) (Nat.zero_le _) dJ6_stringSize_0f7a4_46
    have kR10 : ∀ vv, r7 = .inr vv → En Δ Γ (.ok (some (.int vv))) σ 0 0 (some .int) ∧ 0 ≤ 0 ∧ 0 ≤ 0 := by
      intro vv er
      subst er
      dsimp only at h
      replace h := Option.some.inj h
      subst h
      exact ⟨hE, Nat.zero_le _, Nat.zero_le _⟩
    clear h
    refine g_sub [2, 3, 1, 0] rfl ?_
    refine lpP_w (I := fun q6 => GW Δ Γ (0) (0) 16 [(0, .int j1.1), (1, .int j1.2), (2, .int q6.1), (3, .int q6.2)] [] σ) (r := r7) ?_ FUEL ((-10), 1) h8
    intro q6 x13 h hI11 hR12
    unfold fJ6_stringSize_0f7a4_l1 at h
    refine g_iload_n B 3 dJ6_stringSize_0f7a4_16 rfl rfl ?_
    refine g_bipush (v := 10) B dJ6_stringSize_0f7a4_17 (by decide) ?_
    refine g_icmp_ge B 42 dJ6_stringSize_0f7a4_19 (by decide) (fun hc => ?_) (fun hc => ?_)
    · replace h := ifp hc h
      replace h := Option.some.inj h
      subst h
      have e8 := hR12 _ rfl
      subst e8
      exact g_sub [1] rfl (kE9 _ rfl)
    · replace h := ifn hc h
      refine g_iload_n B 0 dJ6_stringSize_0f7a4_22 rfl rfl ?_
      refine g_iload_n B 2 dJ6_stringSize_0f7a4_23 rfl rfl ?_
      refine g_icmp_le B 31 dJ6_stringSize_0f7a4_24 (by decide) (fun hc => ?_) (fun hc => ?_)
      · replace h := ifp hc h
        refine g_bipush (v := 10) B dJ6_stringSize_0f7a4_31 (by decide) ?_
        refine g_iload_n B 2 dJ6_stringSize_0f7a4_33 rfl rfl ?_
        refine g_imul B dJ6_stringSize_0f7a4_34 ?_
        refine g_istore_n B dJ6_stringSize_0f7a4_35 rfl (Nat.le_of_ble_eq_true rfl) (s1_c (f1_k rfl (f1_1 rfl rfl (f1_x (f1_k rfl f1_n))))) ?_
        refine g_iinc (v := (q6.2 + 1)) B 3 dJ6_stringSize_0f7a4_36 rfl (by first | rfl | (congr 1; decide)) (Nat.le_of_ble_eq_true rfl) (s1_c (f1_1 rfl rfl (f1_k rfl (f1_k rfl (f1_x f1_n))))) ?_
        refine g_goto B 16 dJ6_stringSize_0f7a4_39 (by decide) ?_
        replace h := Option.some.inj h
        subst h
        exact g_sub [2, 3, 1, 0] rfl (hI11 _ rfl)
      · replace h := ifn hc h
        refine g_iload_n B 3 dJ6_stringSize_0f7a4_27 rfl rfl ?_
        refine g_iload_n B 1 dJ6_stringSize_0f7a4_28 rfl rfl ?_
        refine g_iadd B dJ6_stringSize_0f7a4_29 ?_
        replace h := Option.some.inj h
        subst h
        have e8 := hR12 _ rfl
        obtain ⟨hE, hc9, hs9⟩ := kR10 _ e8.symm
        exact g_iret B hE hc9 hs9 dJ6_stringSize_0f7a4_30
  clear h
  have h := h2
  clear h2
  refine g_if_lt B 11 dJ6_stringSize_0f7a4_3 (by decide) (fun hc => ?_) (fun hc => ?_)
  · replace h := ifp hc h
    replace h := Option.some.inj h
    subst h
    exact g_sub [1, 0] rfl k4
  · replace h := ifn hc h
    refine g_iconst (v := 0) B dJ6_stringSize_0f7a4_6 (by decide) ?_
    refine g_istore_n B dJ6_stringSize_0f7a4_7 rfl (Nat.le_of_ble_eq_true rfl) (s1_c (f1_x (f1_1 rfl rfl f1_n))) ?_
    refine g_iload_n B 1 dJ6_stringSize_0f7a4_8 rfl rfl ?_
    refine g_ineg B dJ6_stringSize_0f7a4_9 ?_
    refine g_istore_n B dJ6_stringSize_0f7a4_10 rfl (Nat.le_of_ble_eq_true rfl) (s1_c (f1_k rfl (f1_x f1_n))) ?_
    replace h := Option.some.inj h
    subst h
    exact g_sub [0, 1] rfl k4
set_option maxRecDepth 100000 in
set_option maxHeartbeats 4000000 in
theorem cJ6_getChars_ba4f3c {l : Launch} {v0 : Int32} {v1 : Int32} {v2 : Option Nat} {σ : HpT} {r : Int32} {σ' : HpT} (h : fJ6_getChars_ba4f3 v0 v1 v2 σ = some (r, σ')) : Ct l yJ6_getChars_ba4f3 cJ6_getChars_ba4f3 7 (some .int) 0 0 [.int v0, .int v1, va_rf v2] σ (.ok (some (.int r))) σ' 0 0 := by
  unfold fJ6_getChars_ba4f3 at h
  refine ct_start mi_J6_getChars_ba4f3.1 rfl (al_le (al_1 rfl (al_1 rfl (al_1 (rf_cat _) al_n))) (Nat.le_of_ble_eq_true rfl)) (ag_1 rfl (ag_1 rfl (ag_1 (rf_cat _) ag_n))) (fun Δ Γ B hE hnm => ?_)
  refine g_iload_n B 1 dJ6_getChars_ba4f3_0 rfl rfl ?_
  refine g_istore B dJ6_getChars_ba4f3_1 (Nat.le_of_ble_eq_true rfl) (s1_c (f1_k rfl (f1_k rfl (f1_k rfl f1_n)))) ?_
  refine g_iload_n B 1 dJ6_getChars_ba4f3_3 rfl rfl ?_
  replace h := bnP_s h
  obtain ⟨j1, h2, h⟩ := h
  have k4 : GW Δ Γ (0) (0) 12 [(0, .int v0), (2, va_rf v2), (5, .int v1)] [.int j1] σ := by
    refine g_istore B dJ6_getChars_ba4f3_12 (Nat.le_of_ble_eq_true rfl) (s1_c (f1_k rfl (f1_k rfl (f1_1 rfl rfl f1_n)))) ?_
    refine g_iload B 0 dJ6_getChars_ba4f3_14 rfl ?_
    replace h := bnP_s h
    obtain ⟨j6, h7, h⟩ := h
    have k9 : GW Δ Γ (0) (0) 22 [(0, .int j6), (2, va_rf v2), (5, .int v1), (6, .int j1)] [] σ := by
      replace h := bnS_s h
      obtain ⟨r12, s31, h13, h⟩ := h
      have kE14 : GW Δ Γ (0) (0) 72 [(0, .int r12.1), (2, va_rf v2), (5, .int r12.2), (6, .int j1)] [] s31 := by
        refine g_aload_n B 1 dJ6_getChars_ba4f3_72 rfl rfl ?_
        refine g_iinc (v := (r12.2 + (-1))) B 2 dJ6_getChars_ba4f3_73 rfl (by first | rfl | (congr 1; decide)) (Nat.le_of_ble_eq_true rfl) (s1_c (f1_k rfl (f1_k rfl (f1_x (f1_k rfl f1_n))))) ?_
        refine g_iload B 0 dJ6_getChars_ba4f3_76 rfl ?_
        refine g_gstO B sv_RJ6_83 dJ6_getChars_ba4f3_78 ?_
        refine g_iload_n B 1 dJ6_getChars_ba4f3_81 rfl rfl ?_
        refine g_ineg B dJ6_getChars_ba4f3_82 ?_
        replace h := bnP_s h
        obtain ⟨x32, h33, h⟩ := h
        refine g_bald B dJ6_getChars_ba4f3_83 h33 ?_
        replace h := bnP_s h
        obtain ⟨s36, h35, h⟩ := h
        refine g_bast B dJ6_getChars_ba4f3_84 h35 ?_
        refine g_iload_n B 1 dJ6_getChars_ba4f3_85 rfl rfl ?_
        refine g_bipush (v := (-9)) B dJ6_getChars_ba4f3_86 (by decide) ?_
        replace h := bnS_s h
        obtain ⟨j37, s47, h38, h⟩ := h
        have k40 : GW Δ Γ (0) (0) 104 [(2, va_rf v2), (5, .int j37), (6, .int j1)] [] s47 := by
          refine g_iload B 2 dJ6_getChars_ba4f3_104 rfl ?_
          refine g_if_eq B 118 dJ6_getChars_ba4f3_106 (by decide) (fun hc => ?_) (fun hc => ?_)
          · replace h := ifp hc h
            refine g_iload B 1 dJ6_getChars_ba4f3_118 rfl ?_
            obtain ⟨w1, w2⟩ := inS h
            clear h
            subst w1
            subst w2
            exact g_iret B hE (Nat.zero_le _) (Nat.zero_le _) dJ6_getChars_ba4f3_120
          · replace h := ifn hc h
            refine g_aload_n B 0 dJ6_getChars_ba4f3_109 rfl rfl ?_
            refine g_iinc (v := (j37 + (-1))) B 1 dJ6_getChars_ba4f3_110 rfl (by first | rfl | (congr 1; decide)) (Nat.le_of_ble_eq_true rfl) (s1_c (f1_k rfl (f1_x (f1_k rfl f1_n)))) ?_
            refine g_iload B 0 dJ6_getChars_ba4f3_113 rfl ?_
            refine g_bipush (v := 45) B dJ6_getChars_ba4f3_115 (by decide) ?_
            replace h := bnP_s h
            obtain ⟨s50, h49, h⟩ := h
            refine g_bast B dJ6_getChars_ba4f3_117 h49 ?_
            refine g_iload B 0 dJ6_getChars_ba4f3_118 rfl ?_
            obtain ⟨w1, w2⟩ := inS h
            clear h
            subst w1
            subst w2
            exact g_iret B hE (Nat.zero_le _) (Nat.zero_le _) dJ6_getChars_ba4f3_120
        clear h
        have h := h38
        clear h38
        refine g_icmp_ge B 104 dJ6_getChars_ba4f3_88 (by decide) (fun hc => ?_) (fun hc => ?_)
        · replace h := ifp hc h
          obtain ⟨w1, w2⟩ := inS h
          clear h
          subst w1
          subst w2
          exact g_sub [2, 0, 3] rfl k40
        · replace h := ifn hc h
          refine g_aload_n B 2 dJ6_getChars_ba4f3_91 rfl rfl ?_
          refine g_iinc (v := ((r12.2 + (-1)) + (-1))) B 0 dJ6_getChars_ba4f3_92 rfl (by first | rfl | (congr 1; decide)) (Nat.le_of_ble_eq_true rfl) (s1_c (f1_x (f1_k rfl (f1_k rfl (f1_k rfl f1_n))))) ?_
          refine g_iload B 0 dJ6_getChars_ba4f3_95 rfl ?_
          refine g_gstT B sv_RJ6_87 dJ6_getChars_ba4f3_97 ?_
          refine g_iload_n B 1 dJ6_getChars_ba4f3_100 rfl rfl ?_
          refine g_ineg B dJ6_getChars_ba4f3_101 ?_
          replace h := bnP_s h
          obtain ⟨x42, h43, h⟩ := h
          refine g_bald B dJ6_getChars_ba4f3_102 h43 ?_
          replace h := bnP_s h
          obtain ⟨s46, h45, h⟩ := h
          refine g_bast B dJ6_getChars_ba4f3_103 h45 ?_
          obtain ⟨w1, w2⟩ := inS h
          clear h
          subst w1
          subst w2
          exact g_sub [2, 0, 3] rfl k40
      clear h
      refine g_sub [0, 1, 2, 3] rfl ?_
      refine lpS_w (I := fun q11 s20 => GW Δ Γ (0) (0) 22 [(0, .int q11.1), (2, va_rf v2), (5, .int q11.2), (6, .int j1)] [] s20) (r := r12) (σr := s31) ?_ FUEL (j6, v1) σ h13
      intro q11 s20 x18 s9 h hI16 hR17
      unfold fJ6_getChars_ba4f3_l1 at h
      refine g_iload_n B 0 dJ6_getChars_ba4f3_22 rfl rfl ?_
      refine g_bipush (v := (-100)) B dJ6_getChars_ba4f3_23 (by decide) ?_
      refine g_icmp_gt B 72 dJ6_getChars_ba4f3_25 (by decide) (fun hc => ?_) (fun hc => ?_)
      · replace h := ifp hc h
        obtain ⟨w1, w2⟩ := inS h
        clear h
        subst w1
        subst w2
        obtain ⟨e8, e7⟩ := hR17 _ rfl
        subst e8
        subst e7
        exact g_sub [0, 1, 2, 3] rfl kE14
      · replace h := ifn hc h
        refine g_iload_n B 0 dJ6_getChars_ba4f3_28 rfl rfl ?_
        refine g_bipush (v := 100) B dJ6_getChars_ba4f3_29 (by decide) ?_
        refine g_idiv B dJ6_getChars_ba4f3_31 (by decide) ?_
        refine g_istore_n B dJ6_getChars_ba4f3_32 rfl (Nat.le_of_ble_eq_true rfl) (s1_c (f1_k rfl (f1_1 rfl (rf_cat _) (f1_k rfl (f1_k rfl f1_n))))) ?_
        refine g_iload_n B 0 dJ6_getChars_ba4f3_33 rfl rfl ?_
        refine g_bipush (v := 100) B dJ6_getChars_ba4f3_34 (by decide) ?_
        refine g_imul B dJ6_getChars_ba4f3_36 ?_
        refine g_iload_n B 1 dJ6_getChars_ba4f3_37 rfl rfl ?_
        refine g_isub B dJ6_getChars_ba4f3_38 ?_
        refine g_istore B dJ6_getChars_ba4f3_39 (Nat.le_of_ble_eq_true rfl) (s1_c (f1_1 rfl rfl (f1_k rfl (f1_k rfl (f1_k rfl (f1_k rfl f1_n)))))) ?_
        refine g_iload_n B 1 dJ6_getChars_ba4f3_41 rfl rfl ?_
        refine g_istore_n B dJ6_getChars_ba4f3_42 rfl (Nat.le_of_ble_eq_true rfl) (s1_c (f1_k rfl (f1_k rfl (f1_x (f1_k rfl (f1_k rfl (f1_k rfl f1_n))))))) ?_
        refine g_aload_n B 3 dJ6_getChars_ba4f3_43 rfl rfl ?_
        refine g_iinc (v := (q11.2 + (-1))) B 4 dJ6_getChars_ba4f3_44 rfl (by first | rfl | (congr 1; decide)) (Nat.le_of_ble_eq_true rfl) (s1_c (f1_k rfl (f1_1 rfl rfl (f1_k rfl (f1_k rfl (f1_x (f1_k rfl f1_n))))))) ?_
        refine g_iload B 0 dJ6_getChars_ba4f3_47 rfl ?_
        refine g_gstO B sv_RJ6_83 dJ6_getChars_ba4f3_49 ?_
        refine g_iload B 2 dJ6_getChars_ba4f3_52 rfl ?_
        replace h := bnP_s h
        obtain ⟨x21, h22, h⟩ := h
        refine g_bald B dJ6_getChars_ba4f3_54 h22 ?_
        replace h := bnP_s h
        obtain ⟨s25, h24, h⟩ := h
        refine g_bast B dJ6_getChars_ba4f3_55 h24 ?_
        refine g_aload_n B 4 dJ6_getChars_ba4f3_56 rfl rfl ?_
        refine g_iinc (v := ((q11.2 + (-1)) + (-1))) B 0 dJ6_getChars_ba4f3_57 rfl (by first | rfl | (congr 1; decide)) (Nat.le_of_ble_eq_true rfl) (s1_c (f1_x (f1_k rfl (f1_1 rfl rfl (f1_k rfl (f1_k rfl (f1_k rfl f1_n))))))) ?_
        refine g_iload B 0 dJ6_getChars_ba4f3_60 rfl ?_
        refine g_gstT B sv_RJ6_87 dJ6_getChars_ba4f3_62 ?_
        refine g_iload B 2 dJ6_getChars_ba4f3_65 rfl ?_
        replace h := bnP_s h
        obtain ⟨x26, h27, h⟩ := h
        refine g_bald B dJ6_getChars_ba4f3_67 h27 ?_
        replace h := bnP_s h
        obtain ⟨s30, h29, h⟩ := h
        refine g_bast B dJ6_getChars_ba4f3_68 h29 ?_
        refine g_goto B 22 dJ6_getChars_ba4f3_69 (by decide) ?_
        obtain ⟨w1, w2⟩ := inS h
        clear h
        subst w1
        subst w2
        exact g_sub [1, 4, 0, 5] rfl (hI16 _ rfl)
    clear h
    have h := h7
    clear h7
    refine g_if_ne B 22 dJ6_getChars_ba4f3_16 (by decide) (fun hc => ?_) (fun hc => ?_)
    · replace h := ifn hc h
      replace h := Option.some.inj h
      subst h
      exact g_sub [1, 2, 3, 0] rfl k9
    · replace h := ifp hc h
      refine g_iload_n B 1 dJ6_getChars_ba4f3_19 rfl rfl ?_
      refine g_ineg B dJ6_getChars_ba4f3_20 ?_
      refine g_istore_n B dJ6_getChars_ba4f3_21 rfl (Nat.le_of_ble_eq_true rfl) (s1_c (f1_k rfl (f1_x (f1_k rfl (f1_k rfl f1_n))))) ?_
      replace h := Option.some.inj h
      subst h
      exact g_sub [0, 2, 3, 1] rfl k9
  clear h
  have h := h2
  clear h2
  refine g_if_ge B 11 dJ6_getChars_ba4f3_4 (by decide) (fun hc => ?_) (fun hc => ?_)
  · replace h := ifp hc h
    refine g_iconst (v := 0) B dJ6_getChars_ba4f3_11 (by decide) ?_
    replace h := Option.some.inj h
    subst h
    exact g_sub [1, 3, 0] rfl k4
  · replace h := ifn hc h
    refine g_iconst (v := 1) B dJ6_getChars_ba4f3_7 (by decide) ?_
    refine g_goto B 12 dJ6_getChars_ba4f3_8 (by decide) ?_
    replace h := Option.some.inj h
    subst h
    exact g_sub [1, 3, 0] rfl k4
set_option maxRecDepth 100000 in
set_option maxHeartbeats 4000000 in
theorem cJ5_append_c97b9c {l : Launch} {v0 : Option Nat} {v1 : Int32} {σ : HpT} {o : Except Nat (Option Nat)} {σ' : HpT} {a b : Nat} (h : fJ5_append_c97b9 v0 v1 σ = some (o, σ', a, b)) : IsK σ v0 11 ∧ Ct l yJ5_append_c97b9 cJ5_append_c97b9 4 (some (.object "java/lang/AbstractStringBuilder")) 4 104 [va_rf v0, .int v1] σ (oA o) σ' a b := by
  unfold fJ5_append_c97b9 at h
  replace h := bnP_s h
  obtain ⟨u, hk, h⟩ := h
  replace hk := isK_s hk
  refine ⟨hk, ?_⟩
  refine ct_start mi_J5_append_c97b9.1 rfl (al_le (al_1 (rf_cat _) (al_1 rfl al_n)) (Nat.le_of_ble_eq_true rfl)) (ag_1 (rf_cat _) (ag_1 rfl ag_n)) (fun Δ Γ B hE hnm => ?_)
  have hka : 0 + a = a := Nat.zero_add a
  have hkb : 0 + b = b := Nat.zero_add b
  have hla : a ≤ a := Nat.le_refl a
  have hlb : b ≤ b := Nat.le_refl b
  refine g_aload_n B 0 dJ5_append_c97b9_0 rfl rfl ?_
  replace h := bnP_s h
  obtain ⟨x1, h2, h⟩ := h
  refine g_getI B fl_RJ5_79 (by decide) dJ5_append_c97b9_1 h2 ?_
  refine g_istore_n B dJ5_append_c97b9_4 rfl (Nat.le_of_ble_eq_true rfl) (s1_c (f1_k rfl (f1_1 rfl rfl f1_n))) ?_
  refine g_iload_n B 0 dJ5_append_c97b9_5 rfl rfl ?_
  refine g_iload_n B 2 dJ5_append_c97b9_6 rfl rfl ?_
  replace h := bnP_s h
  obtain ⟨x3, h4, h⟩ := h
  refine g_callSs0 (st := [.int x1]) B (cJ6_stringSize_0f7a4c h4) mi_J6_stringSize_0f7a4 lk_RJ5_245 ⟨Nat.le_of_ble_eq_true rfl, Nat.le_of_ble_eq_true rfl⟩ rfl rfl (Nat.le_of_ble_eq_true rfl) dJ5_append_c97b9_7 (Nat.le_trans (bm hka) hla) (Nat.le_trans (bm hkb) hlb) ?_
  refine g_iadd B dJ5_append_c97b9_10 ?_
  refine g_istore_n B dJ5_append_c97b9_11 rfl (Nat.le_of_ble_eq_true rfl) (s1_c (f1_1 rfl rfl (f1_k rfl (f1_k rfl f1_n)))) ?_
  refine g_aload_n B 2 dJ5_append_c97b9_12 rfl rfl ?_
  refine g_iload_n B 0 dJ5_append_c97b9_13 rfl rfl ?_
  replace h := bnA_s h
  rcases h with ⟨e9, h6, e8⟩ | ⟨x5, s7, a8, b9, a10, b11, h6, h, ea, eb⟩
  · subst e8
    exact g_callVcx (st := []) B (cJ5_ensureCapacityInternal_d00dfc (o := .error e9) h6) (Nat.le_of_ble_eq_true rfl) rfl mi_J5_ensureCapacityInternal_d00df lk_RJ5_100 ⟨Nat.le_of_ble_eq_true rfl, Nat.le_of_ble_eq_true rfl⟩ rfl rfl (Nat.le_of_ble_eq_true rfl) dJ5_append_c97b9_14 (Nat.le_trans (Nat.le_of_eq hka) hla) (Nat.le_trans (Nat.le_of_eq hkb) hlb) hE
  · subst ea; subst eb
    have hka := bk hka
    have hkb := bk hkb
    refine g_callVcvA (st := []) B (cJ5_ensureCapacityInternal_d00dfc (o := .ok x5) h6) (Nat.le_of_ble_eq_true rfl) rfl mi_J5_ensureCapacityInternal_d00df lk_RJ5_100 ⟨Nat.le_of_ble_eq_true rfl, Nat.le_of_ble_eq_true rfl⟩ rfl rfl (Nat.le_of_ble_eq_true rfl) dJ5_append_c97b9_14 (Nat.le_trans (bm hka) hla) (Nat.le_trans (bm hkb) hlb) ?_
    refine g_aload_n B 2 dJ5_append_c97b9_17 rfl rfl ?_
    replace h := bnP_s h
    obtain ⟨x12, h13, h⟩ := h
    refine g_callVcs0 (st := []) B (cJ5_isLatin1_aae02c h13) (Nat.le_of_ble_eq_true rfl) rfl mi_J5_isLatin1_aae02 lk_RJ5_83 ⟨Nat.le_of_ble_eq_true rfl, Nat.le_of_ble_eq_true rfl⟩ rfl rfl (Nat.le_of_ble_eq_true rfl) dJ5_append_c97b9_18 (Nat.le_trans (bm hka) hla) (Nat.le_trans (bm hkb) hlb) ?_
    replace h := bnS_s h
    obtain ⟨j14, s26, h15, h⟩ := h
    have k17 : GW Δ Γ (0 + a8) (0 + b9) 48 [(0, va_rf v0), (3, .int (x1 + x3))] [] s26 := by
      refine g_aload_n B 0 dJ5_append_c97b9_48 rfl rfl ?_
      refine g_iload_n B 1 dJ5_append_c97b9_49 rfl rfl ?_
      replace h := bnP_s h
      obtain ⟨s29, h28, h⟩ := h
      refine g_putI B fl_RJ5_79 (by decide) dJ5_append_c97b9_50 h28 ?_
      refine g_aload_n B 0 dJ5_append_c97b9_53 rfl rfl ?_
      obtain ⟨w1, w2, w3, w4⟩ := inA h
      clear h
      subst w1
      subst w2
      subst w3
      subst w4
      exact g_aret B hE (Or.inl ⟨_, rfl⟩) (Nat.le_trans (Nat.le_of_eq hka) hla) (Nat.le_trans (Nat.le_of_eq hkb) hlb) dJ5_append_c97b9_54
    clear h
    have h := h15
    clear h15
    refine g_if_eq B 37 dJ5_append_c97b9_21 (by decide) (fun hc => ?_) (fun hc => ?_)
    · replace h := ifn (bI0 hc) h
      refine g_iload_n B 3 dJ5_append_c97b9_37 rfl rfl ?_
      refine g_iload_n B 1 dJ5_append_c97b9_38 rfl rfl ?_
      refine g_iload_n B 0 dJ5_append_c97b9_39 rfl rfl ?_
      refine g_aload_n B 2 dJ5_append_c97b9_40 rfl rfl ?_
      replace h := bnP_s h
      obtain ⟨x19, h20, h⟩ := h
      refine g_getR B fl_RJ5_15 (by decide) dJ5_append_c97b9_41 h20 ?_
      cases h
    · replace h := ifp (bI1 hc) h
      refine g_iload_n B 3 dJ5_append_c97b9_24 rfl rfl ?_
      refine g_iload_n B 0 dJ5_append_c97b9_25 rfl rfl ?_
      refine g_aload_n B 2 dJ5_append_c97b9_26 rfl rfl ?_
      replace h := bnP_s h
      obtain ⟨x21, h22, h⟩ := h
      refine g_getR B fl_RJ5_15 (by decide) dJ5_append_c97b9_27 h22 ?_
      replace h := bnS_s h
      obtain ⟨x23, s25, h24, h⟩ := h
      refine g_callSs0 (st := []) B (cJ6_getChars_ba4f3c h24) mi_J6_getChars_ba4f3 lk_RJ5_248 ⟨Nat.le_of_ble_eq_true rfl, Nat.le_of_ble_eq_true rfl⟩ rfl rfl (Nat.le_of_ble_eq_true rfl) dJ5_append_c97b9_30 (Nat.le_trans (bm hka) hla) (Nat.le_trans (bm hkb) hlb) ?_
      refine g_pop B dJ5_append_c97b9_33 rfl ?_
      refine g_goto B 48 dJ5_append_c97b9_34 (by decide) ?_
      obtain ⟨w1, w2⟩ := inS h
      clear h
      subst w1
      subst w2
      exact g_sub [2, 0] rfl k17
set_option maxRecDepth 100000 in
set_option maxHeartbeats 4000000 in
theorem cJ4_append_bf812c {l : Launch} {v0 : Option Nat} {v1 : Int32} {σ : HpT} {o : Except Nat (Option Nat)} {σ' : HpT} {a b : Nat} (h : fJ4_append_bf812 v0 v1 σ = some (o, σ', a, b)) : IsK σ v0 11 ∧ Ct l yJ4_append_bf812 cJ4_append_bf812 2 (some (.object "java/lang/StringBuilder")) 5 127 [va_rf v0, .int v1] σ (oA o) σ' a b := by
  unfold fJ4_append_bf812 at h
  replace h := bnP_s h
  obtain ⟨u, hk, h⟩ := h
  replace hk := isK_s hk
  refine ⟨hk, ?_⟩
  refine ct_start mi_J4_append_bf812.1 rfl (al_le (al_1 (rf_cat _) (al_1 rfl al_n)) (Nat.le_of_ble_eq_true rfl)) (ag_1 (rf_cat _) (ag_1 rfl ag_n)) (fun Δ Γ B hE hnm => ?_)
  have hka : 0 + a = a := Nat.zero_add a
  have hkb : 0 + b = b := Nat.zero_add b
  have hla : a ≤ a := Nat.le_refl a
  have hlb : b ≤ b := Nat.le_refl b
  refine g_aload_n B 0 dJ4_append_bf812_0 rfl rfl ?_
  refine g_iload_n B 1 dJ4_append_bf812_1 rfl rfl ?_
  replace h := bnA_s h
  rcases h with ⟨e9, h2, e8⟩ | ⟨x1, s3, a4, b5, a6, b7, h2, h, ea, eb⟩
  · subst e8
    exact g_callSUx (st := []) B (cJ5_append_c97b9c (o := .error e9) h2) (Nat.le_of_ble_eq_true rfl) rfl mi_J5_append_c97b9 lk_RJ4_53 ⟨Nat.le_of_ble_eq_true rfl, Nat.le_of_ble_eq_true rfl⟩ rfl rfl (Nat.le_of_ble_eq_true rfl) dJ4_append_bf812_2 (Nat.le_trans (Nat.le_of_eq hka) hla) (Nat.le_trans (Nat.le_of_eq hkb) hlb) hE
  · subst ea; subst eb
    have hka := bk hka
    have hkb := bk hkb
    refine g_callSUsA (st := []) B (cJ5_append_c97b9c (o := .ok x1) h2) (Nat.le_of_ble_eq_true rfl) rfl mi_J5_append_c97b9 lk_RJ4_53 ⟨Nat.le_of_ble_eq_true rfl, Nat.le_of_ble_eq_true rfl⟩ rfl rfl (Nat.le_of_ble_eq_true rfl) dJ4_append_bf812_2 (Nat.le_trans (bm hka) hla) (Nat.le_trans (bm hkb) hlb) ?_
    refine g_pop B dJ4_append_bf812_5 (rf_cat _) ?_
    refine g_aload_n B 0 dJ4_append_bf812_6 rfl rfl ?_
    obtain ⟨w1, w2, w3, w4⟩ := inA h
    clear h
    subst w1
    subst w2
    subst w3
    subst w4
    exact g_aret B hE (Or.inl ⟨_, rfl⟩) (Nat.le_trans (Nat.le_of_eq hka) hla) (Nat.le_trans (Nat.le_of_eq hkb) hlb) dJ4_append_bf812_7
set_option maxRecDepth 100000 in
set_option maxHeartbeats 4000000 in
theorem cJ5_charAt_5068ec {l : Launch} {v0 : Option Nat} {v1 : Int32} {σ : HpT} {r : Int32} (h : fJ5_charAt_5068e v0 v1 σ = some r) : IsK σ v0 11 ∧ Ct l yJ5_charAt_5068e cJ5_charAt_5068e 5 (some .char) 2 43 [va_rf v0, .int v1] σ (.ok (some (.int r))) σ 0 0 := by
  unfold fJ5_charAt_5068e at h
  replace h := bnP_s h
  obtain ⟨u, hk, h⟩ := h
  replace hk := isK_s hk
  refine ⟨hk, ?_⟩
  refine ct_start mi_J5_charAt_5068e.1 rfl (al_le (al_1 (rf_cat _) (al_1 rfl al_n)) (Nat.le_of_ble_eq_true rfl)) (ag_1 (rf_cat _) (ag_1 rfl ag_n)) (fun Δ Γ B hE hnm => ?_)
  refine g_aload_n B 0 dJ5_charAt_5068e_0 rfl rfl ?_
  replace h := bnP_s h
  obtain ⟨x1, h2, h⟩ := h
  refine g_getI B fl_RJ5_22 (by decide) dJ5_charAt_5068e_1 h2 ?_
  refine g_istore_n B dJ5_charAt_5068e_4 rfl (Nat.le_of_ble_eq_true rfl) (s1_c (f1_k rfl (f1_1 rfl rfl f1_n))) ?_
  refine g_aload_n B 1 dJ5_charAt_5068e_5 rfl rfl ?_
  replace h := bnP_s h
  obtain ⟨x3, h4, h⟩ := h
  refine g_getR B fl_RJ5_15 (by decide) dJ5_charAt_5068e_6 h4 ?_
  refine g_astore_n B dJ5_charAt_5068e_9 rfl (Nat.le_of_ble_eq_true rfl) (s1_c (f1_1 rfl rfl (f1_k rfl (f1_k rfl f1_n)))) ?_
  refine g_aload_n B 2 dJ5_charAt_5068e_10 rfl rfl ?_
  replace h := bnP_s h
  obtain ⟨x5, h6, h⟩ := h
  refine g_getI B fl_RJ5_79 (by decide) dJ5_charAt_5068e_11 h6 ?_
  refine g_aload_n B 0 dJ5_charAt_5068e_14 rfl rfl ?_
  replace h := bnP_s h
  obtain ⟨x7, h8, h⟩ := h
  refine g_alen B (κ := 22) (by decide) dJ5_charAt_5068e_15 h8 ?_
  refine g_iload_n B 1 dJ5_charAt_5068e_16 rfl rfl ?_
  refine g_ishr B dJ5_charAt_5068e_17 ?_
  refine g_mmin B mt_RJ5_138 (by decide) (Nat.le_of_ble_eq_true rfl) dJ5_charAt_5068e_18 (Nat.zero_le _) (Nat.zero_le _) ?_
  refine g_istore B dJ5_charAt_5068e_21 (Nat.le_of_ble_eq_true rfl) (s1_c (f1_1 rfl (rf_cat _) (f1_k rfl (f1_k rfl (f1_k rfl f1_n))))) ?_
  refine g_iload_n B 4 dJ5_charAt_5068e_23 rfl rfl ?_
  refine g_iload B 0 dJ5_charAt_5068e_24 rfl ?_
  replace h := bnP_s h
  obtain ⟨x9, h10, h⟩ := h
  refine g_callSv0 (st := []) B (cJ0_checkIndex_df160c h10) mi_J0_checkIndex_df160 lk_RJ5_144 ⟨Nat.le_of_ble_eq_true rfl, Nat.le_of_ble_eq_true rfl⟩ rfl rfl (Nat.le_of_ble_eq_true rfl) dJ5_charAt_5068e_26 (Nat.zero_le _) (Nat.zero_le _) ?_
  refine g_iload_n B 2 dJ5_charAt_5068e_29 rfl rfl ?_
  refine g_if_ne B 42 dJ5_charAt_5068e_30 (by decide) (fun hc => ?_) (fun hc => ?_)
  · replace h := ifn hc h
    refine g_aload_n B 1 dJ5_charAt_5068e_42 rfl rfl ?_
    refine g_iload_n B 4 dJ5_charAt_5068e_43 rfl rfl ?_
    cases h
  · replace h := ifp hc h
    refine g_aload_n B 1 dJ5_charAt_5068e_33 rfl rfl ?_
    refine g_iload_n B 4 dJ5_charAt_5068e_34 rfl rfl ?_
    replace h := bnP_s h
    obtain ⟨x11, h12, h⟩ := h
    refine g_bald B dJ5_charAt_5068e_35 h12 ?_
    refine g_sipush (v := 255) B dJ5_charAt_5068e_36 (by decide) ?_
    refine g_iand B dJ5_charAt_5068e_39 ?_
    refine g_i2c B dJ5_charAt_5068e_40 ?_
    replace h := bnP_s h
    obtain ⟨u14, h13, h⟩ := h
    replace h := Option.some.inj h
    subst h
    exact g_zret B hE (nrC_s h13) (Nat.zero_le _) (Nat.zero_le _) dJ5_charAt_5068e_41
set_option maxRecDepth 100000 in
set_option maxHeartbeats 4000000 in
theorem cJ4_charAt_5068ec {l : Launch} {v0 : Option Nat} {v1 : Int32} {σ : HpT} {r : Int32} (h : fJ4_charAt_5068e v0 v1 σ = some r) : IsK σ v0 11 ∧ Ct l yJ4_charAt_5068e cJ4_charAt_5068e 2 (some .char) 3 67 [va_rf v0, .int v1] σ (.ok (some (.int r))) σ 0 0 := by
  unfold fJ4_charAt_5068e at h
  replace h := bnP_s h
  obtain ⟨u, hk, h⟩ := h
  replace hk := isK_s hk
  refine ⟨hk, ?_⟩
  refine ct_start mi_J4_charAt_5068e.1 rfl (al_le (al_1 (rf_cat _) (al_1 rfl al_n)) (Nat.le_of_ble_eq_true rfl)) (ag_1 (rf_cat _) (ag_1 rfl ag_n)) (fun Δ Γ B hE hnm => ?_)
  refine g_aload_n B 0 dJ4_charAt_5068e_0 rfl rfl ?_
  refine g_iload_n B 1 dJ4_charAt_5068e_1 rfl rfl ?_
  replace h := bnP_s h
  obtain ⟨x1, h2, h⟩ := h
  refine g_callSUs0 (st := []) B (cJ5_charAt_5068ec h2) (Nat.le_of_ble_eq_true rfl) rfl mi_J5_charAt_5068e lk_RJ4_329 ⟨Nat.le_of_ble_eq_true rfl, Nat.le_of_ble_eq_true rfl⟩ rfl rfl (Nat.le_of_ble_eq_true rfl) dJ4_charAt_5068e_2 (Nat.zero_le _) (Nat.zero_le _) ?_
  replace h := bnP_s h
  obtain ⟨u4, h3, h⟩ := h
  replace h := Option.some.inj h
  subst h
  exact g_zret B hE (nrC_s h3) (Nat.zero_le _) (Nat.zero_le _) dJ4_charAt_5068e_5
