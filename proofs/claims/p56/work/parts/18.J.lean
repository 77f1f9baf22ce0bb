theorem mi_J0_charAt_5068e : MI yJ0_charAt_5068e cJ0_charAt_5068e 2 (some .char) 1 := ⟨by decide +kernel, (mw (i := 599) (by decide +kernel) rfl), (mw (i := 49) (by decide +kernel) rfl), by decide +kernel, by decide +kernel⟩
theorem mi_J0_checkBoundsBeginEnd_23922 : MI yJ0_checkBoundsBeginEnd_23922 cJ0_checkBoundsBeginEnd_23922 3 none 3 := ⟨by decide +kernel, (mw (i := 1430) (by decide +kernel) rfl), (mw (i := 49) (by decide +kernel) rfl), by decide +kernel, by decide +kernel⟩
theorem mi_J0_checkIndex_df160 : MI yJ0_checkIndex_df160 cJ0_checkIndex_df160 2 none 2 := ⟨by decide +kernel, (mw (i := 609) (by decide +kernel) rfl), (mw (i := 49) (by decide +kernel) rfl), by decide +kernel, by decide +kernel⟩
theorem mi_J0_coder_7d493 : MI yJ0_coder_7d493 cJ0_coder_7d493 1 (some .byte) 0 := ⟨by decide +kernel, (mw (i := 594) (by decide +kernel) rfl), (mw (i := 49) (by decide +kernel) rfl), by decide +kernel, by decide +kernel⟩
theorem mi_J0_getBytes_840e7 : MI yJ0_getBytes_840e7 cJ0_getBytes_840e7 4 none 3 := ⟨by decide +kernel, (mw (i := 1467) (by decide +kernel) rfl), (mw (i := 49) (by decide +kernel) rfl), by decide +kernel, by decide +kernel⟩
theorem mi_J0_init_031fb : MI yJ0_init_031fb cJ0_init_031fb 3 none 2 := ⟨by decide +kernel, (mw (i := 1637) (by decide +kernel) rfl), (mw (i := 49) (by decide +kernel) rfl), by decide +kernel, by decide +kernel⟩
theorem mi_J0_init_81219 : MI yJ0_init_81219 cJ0_init_81219 2 none 1 := ⟨by decide +kernel, (mw (i := 1725) (by decide +kernel) rfl), (mw (i := 49) (by decide +kernel) rfl), by decide +kernel, by decide +kernel⟩
theorem mi_J0_init_db425 : MI yJ0_init_db425 cJ0_init_db425 5 none 2 := ⟨by decide +kernel, (mw (i := 1728) (by decide +kernel) rfl), (mw (i := 49) (by decide +kernel) rfl), by decide +kernel, by decide +kernel⟩
theorem mi_J0_isLatin1_aae02 : MI yJ0_isLatin1_aae02 cJ0_isLatin1_aae02 1 (some .boolean) 0 := ⟨by decide +kernel, (mw (i := 603) (by decide +kernel) rfl), (mw (i := 49) (by decide +kernel) rfl), by decide +kernel, by decide +kernel⟩
theorem mi_J0_length_8abf5 : MI yJ0_length_8abf5 cJ0_length_8abf5 1 (some .int) 0 := ⟨by decide +kernel, (mw (i := 590) (by decide +kernel) rfl), (mw (i := 49) (by decide +kernel) rfl), by decide +kernel, by decide +kernel⟩
theorem mi_J0_substring_37a41 : MI yJ0_substring_37a41 cJ0_substring_37a41 5 (some (.object "java/lang/String")) 2 := ⟨by decide +kernel, (mw (i := 1617) (by decide +kernel) rfl), (mw (i := 49) (by decide +kernel) rfl), by decide +kernel, by decide +kernel⟩
theorem mi_J15_checkIndex_7cf53 : MI yJ15_checkIndex_7cf53 cJ15_checkIndex_7cf53 2 (some .int) 2 := ⟨by decide +kernel, (mw (i := 1704) (by decide +kernel) rfl), (mw (i := 65) (by decide +kernel) rfl), by decide +kernel, by decide +kernel⟩
theorem mi_J1_canEncode_fc78d : MI yJ1_canEncode_fc78d cJ1_canEncode_fc78d 1 (some .boolean) 1 := ⟨by decide +kernel, (mw (i := 1504) (by decide +kernel) rfl), (mw (i := 60) (by decide +kernel) rfl), by decide +kernel, by decide +kernel⟩
theorem mi_J1_charAt_3b067 : MI yJ1_charAt_3b067 cJ1_charAt_3b067 2 (some .char) 2 := ⟨by decide +kernel, (mw (i := 606) (by decide +kernel) rfl), (mw (i := 60) (by decide +kernel) rfl), by decide +kernel, by decide +kernel⟩
theorem mi_J1_newString_b4f7a : MI yJ1_newString_b4f7a cJ1_newString_b4f7a 3 (some (.object "java/lang/String")) 3 := ⟨by decide +kernel, (mw (i := 1622) (by decide +kernel) rfl), (mw (i := 60) (by decide +kernel) rfl), by decide +kernel, by decide +kernel⟩
theorem mi_J3_checkFromToIndex_8c36e : MI yJ3_checkFromToIndex_8c36e cJ3_checkFromToIndex_8c36e 4 (some .int) 4 := ⟨by decide +kernel, (mw (i := 1433) (by decide +kernel) rfl), (mw (i := 59) (by decide +kernel) rfl), by decide +kernel, by decide +kernel⟩
theorem mi_J3_checkIndex_8e157 : MI yJ3_checkIndex_8e157 cJ3_checkIndex_8e157 3 (some .int) 3 := ⟨by decide +kernel, (mw (i := 614) (by decide +kernel) rfl), (mw (i := 59) (by decide +kernel) rfl), by decide +kernel, by decide +kernel⟩
theorem mi_J4_append_15ec4 : MI yJ4_append_15ec4 cJ4_append_15ec4 2 (some (.object "java/lang/StringBuilder")) 1 := ⟨by decide +kernel, (mw (i := 1382) (by decide +kernel) rfl), (mw (i := 48) (by decide +kernel) rfl), by decide +kernel, by decide +kernel⟩
theorem mi_J4_append_bf812 : MI yJ4_append_bf812 cJ4_append_bf812 2 (some (.object "java/lang/StringBuilder")) 1 := ⟨by decide +kernel, (mw (i := 1473) (by decide +kernel) rfl), (mw (i := 48) (by decide +kernel) rfl), by decide +kernel, by decide +kernel⟩
theorem mi_J4_append_cf1ce : MI yJ4_append_cf1ce cJ4_append_cf1ce 2 (some (.object "java/lang/AbstractStringBuilder")) 1 := ⟨by decide +kernel, (mw (i := 1378) (by decide +kernel) rfl), (mw (i := 48) (by decide +kernel) rfl), by decide +kernel, by decide +kernel⟩
theorem mi_J4_append_cf468 : MI yJ4_append_cf468 cJ4_append_cf468 2 (some (.object "java/lang/StringBuilder")) 1 := ⟨by decide +kernel, (mw (i := 1498) (by decide +kernel) rfl), (mw (i := 48) (by decide +kernel) rfl), by decide +kernel, by decide +kernel⟩
theorem mi_J4_init_a7421 : MI yJ4_init_a7421 cJ4_init_a7421 2 none 1 := ⟨by decide +kernel, (mw (i := 1365) (by decide +kernel) rfl), (mw (i := 48) (by decide +kernel) rfl), by decide +kernel, by decide +kernel⟩
theorem mi_J4_init_da8c8 : MI yJ4_init_da8c8 cJ4_init_da8c8 1 none 0 := ⟨by decide +kernel, (mw (i := 384) (by decide +kernel) rfl), (mw (i := 48) (by decide +kernel) rfl), by decide +kernel, by decide +kernel⟩
theorem mi_J4_length_8abf5 : MI yJ4_length_8abf5 cJ4_length_8abf5 1 (some .int) 0 := ⟨by decide +kernel, (mw (i := 1319) (by decide +kernel) rfl), (mw (i := 48) (by decide +kernel) rfl), by decide +kernel, by decide +kernel⟩
theorem mi_J4_toString_0e30d : MI yJ4_toString_0e30d cJ4_toString_0e30d 1 (some (.object "java/lang/String")) 0 := ⟨by decide +kernel, (mw (i := 1721) (by decide +kernel) rfl), (mw (i := 48) (by decide +kernel) rfl), by decide +kernel, by decide +kernel⟩
theorem mi_J5_append_3fe6f : MI yJ5_append_3fe6f cJ5_append_3fe6f 2 (some (.object "java/lang/AbstractStringBuilder")) 1 := ⟨by decide +kernel, (mw (i := 1501) (by decide +kernel) rfl), (mw (i := 47) (by decide +kernel) rfl), by decide +kernel, by decide +kernel⟩
theorem mi_J5_append_c97b9 : MI yJ5_append_c97b9 cJ5_append_c97b9 4 (some (.object "java/lang/AbstractStringBuilder")) 1 := ⟨by decide +kernel, (mw (i := 1476) (by decide +kernel) rfl), (mw (i := 47) (by decide +kernel) rfl), by decide +kernel, by decide +kernel⟩
theorem mi_J5_append_cf1ce : MI yJ5_append_cf1ce cJ5_append_cf1ce 3 (some (.object "java/lang/AbstractStringBuilder")) 1 := ⟨by decide +kernel, (mw (i := 1384) (by decide +kernel) rfl), (mw (i := 47) (by decide +kernel) rfl), by decide +kernel, by decide +kernel⟩
theorem mi_J5_ensureCapacityInternal_d00df : MI yJ5_ensureCapacityInternal_d00df cJ5_ensureCapacityInternal_d00df 3 none 1 := ⟨by decide +kernel, (mw (i := 1392) (by decide +kernel) rfl), (mw (i := 47) (by decide +kernel) rfl), by decide +kernel, by decide +kernel⟩
theorem mi_J5_getValue_6d5f1 : MI yJ5_getValue_6d5f1 cJ5_getValue_6d5f1 1 (some (.array .byte)) 0 := ⟨by decide +kernel, (mw (i := 1733) (by decide +kernel) rfl), (mw (i := 47) (by decide +kernel) rfl), by decide +kernel, by decide +kernel⟩
theorem mi_J5_inflateIfNeededFor_a7421 : MI yJ5_inflateIfNeededFor_a7421 cJ5_inflateIfNeededFor_a7421 2 none 1 := ⟨by decide +kernel, (mw (i := 1444) (by decide +kernel) rfl), (mw (i := 47) (by decide +kernel) rfl), by decide +kernel, by decide +kernel⟩
theorem mi_J5_init_a7421 : MI yJ5_init_a7421 cJ5_init_a7421 5 none 1 := ⟨by decide +kernel, (mw (i := 1368) (by decide +kernel) rfl), (mw (i := 47) (by decide +kernel) rfl), by decide +kernel, by decide +kernel⟩
theorem mi_J5_init_d00df : MI yJ5_init_d00df cJ5_init_d00df 2 none 1 := ⟨by decide +kernel, (mw (i := 387) (by decide +kernel) rfl), (mw (i := 47) (by decide +kernel) rfl), by decide +kernel, by decide +kernel⟩
theorem mi_J5_isLatin1_aae02 : MI yJ5_isLatin1_aae02 cJ5_isLatin1_aae02 1 (some .boolean) 0 := ⟨by decide +kernel, (mw (i := 1421) (by decide +kernel) rfl), (mw (i := 47) (by decide +kernel) rfl), by decide +kernel, by decide +kernel⟩
theorem mi_J5_length_8abf5 : MI yJ5_length_8abf5 cJ5_length_8abf5 1 (some .int) 0 := ⟨by decide +kernel, (mw (i := 1322) (by decide +kernel) rfl), (mw (i := 47) (by decide +kernel) rfl), by decide +kernel, by decide +kernel⟩
theorem mi_J5_newCapacity_0f7a4 : MI yJ5_newCapacity_0f7a4 cJ5_newCapacity_0f7a4 6 (some .int) 1 := ⟨by decide +kernel, (mw (i := 1396) (by decide +kernel) rfl), (mw (i := 47) (by decide +kernel) rfl), by decide +kernel, by decide +kernel⟩
theorem mi_J5_putStringAt_47b60 : MI yJ5_putStringAt_47b60 cJ5_putStringAt_47b60 3 none 2 := ⟨by decide +kernel, (mw (i := 1440) (by decide +kernel) rfl), (mw (i := 47) (by decide +kernel) rfl), by decide +kernel, by decide +kernel⟩
theorem mi_J6_getChars_ba4f3 : MI yJ6_getChars_ba4f3 cJ6_getChars_ba4f3 7 (some .int) 3 := ⟨by decide +kernel, (mw (i := 1482) (by decide +kernel) rfl), (mw (i := 62) (by decide +kernel) rfl), by decide +kernel, by decide +kernel⟩
theorem mi_J6_stringSize_0f7a4 : MI yJ6_stringSize_0f7a4 cJ6_stringSize_0f7a4 4 (some .int) 1 := ⟨by decide +kernel, (mw (i := 1479) (by decide +kernel) rfl), (mw (i := 62) (by decide +kernel) rfl), by decide +kernel, by decide +kernel⟩
theorem mi_J7_checkLength_df160 : MI yJ7_checkLength_df160 cJ7_checkLength_df160 2 none 2 := ⟨by decide +kernel, (mw (i := 1634) (by decide +kernel) rfl), (mw (i := 57) (by decide +kernel) rfl), by decide +kernel, by decide +kernel⟩
theorem mi_J7_copyOfRangeByte_39247 : MI yJ7_copyOfRangeByte_39247 cJ7_copyOfRangeByte_39247 5 (some (.array .byte)) 3 := ⟨by decide +kernel, (mw (i := 1631) (by decide +kernel) rfl), (mw (i := 57) (by decide +kernel) rfl), by decide +kernel, by decide +kernel⟩
theorem mi_J7_copyOfRange_39247 : MI yJ7_copyOfRange_39247 cJ7_copyOfRange_39247 3 (some (.array .byte)) 3 := ⟨by decide +kernel, (mw (i := 1628) (by decide +kernel) rfl), (mw (i := 57) (by decide +kernel) rfl), by decide +kernel, by decide +kernel⟩
theorem mi_J7_copyOf_59c91 : MI yJ7_copyOf_59c91 cJ7_copyOf_59c91 3 (some (.array .int)) 2 := ⟨by decide +kernel, (mw (i := 1606) (by decide +kernel) rfl), (mw (i := 57) (by decide +kernel) rfl), by decide +kernel, by decide +kernel⟩
theorem mi_J7_copyOf_9075b : MI yJ7_copyOf_9075b cJ7_copyOf_9075b 3 (some (.array .byte)) 2 := ⟨by decide +kernel, (mw (i := 1407) (by decide +kernel) rfl), (mw (i := 57) (by decide +kernel) rfl), by decide +kernel, by decide +kernel⟩
theorem mi_J7_fill_d0a16 : MI yJ7_fill_d0a16 cJ7_fill_d0a16 5 none 2 := ⟨by decide +kernel, (mw (i := 1776) (by decide +kernel) rfl), (mw (i := 57) (by decide +kernel) rfl), by decide +kernel, by decide +kernel⟩
theorem mi_J8_newLength_cabcc : MI yJ8_newLength_cabcc cJ8_newLength_cabcc 4 (some .int) 3 := ⟨by decide +kernel, (mw (i := 1399) (by decide +kernel) rfl), (mw (i := 55) (by decide +kernel) rfl), by decide +kernel, by decide +kernel⟩
theorem mi_Jx4a65c_add_72be8 : MI yJx4a65c_add_72be8 cJx4a65c_add_72be8 4 none 3 := ⟨by decide +kernel, (mw (i := 1559) (by decide +kernel) rfl), (mw (i := 54) (by decide +kernel) rfl), by decide +kernel, by decide +kernel⟩
theorem mi_Jx4a65c_add_9ea2d : MI yJx4a65c_add_9ea2d cJx4a65c_add_9ea2d 2 (some .boolean) 1 := ⟨by decide +kernel, (mw (i := 1555) (by decide +kernel) rfl), (mw (i := 54) (by decide +kernel) rfl), by decide +kernel, by decide +kernel⟩
theorem mi_Jx4a65c_elementData_915e3 : MI yJx4a65c_elementData_915e3 cJx4a65c_elementData_915e3 2 (some (.object "java/lang/Object")) 1 := ⟨by decide +kernel, (mw (i := 1709) (by decide +kernel) rfl), (mw (i := 54) (by decide +kernel) rfl), by decide +kernel, by decide +kernel⟩
theorem mi_Jx4a65c_get_915e3 : MI yJx4a65c_get_915e3 cJx4a65c_get_915e3 2 (some (.object "java/lang/Object")) 1 := ⟨by decide +kernel, (mw (i := 1701) (by decide +kernel) rfl), (mw (i := 54) (by decide +kernel) rfl), by decide +kernel, by decide +kernel⟩
theorem mi_Jx4a65c_grow_92f84 : MI yJx4a65c_grow_92f84 cJx4a65c_grow_92f84 4 (some (.array (.object "java/lang/Object"))) 1 := ⟨by decide +kernel, (mw (i := 1567) (by decide +kernel) rfl), (mw (i := 54) (by decide +kernel) rfl), by decide +kernel, by decide +kernel⟩
theorem mi_Jx4a65c_grow_d5877 : MI yJx4a65c_grow_d5877 cJx4a65c_grow_d5877 1 (some (.array (.object "java/lang/Object"))) 0 := ⟨by decide +kernel, (mw (i := 1563) (by decide +kernel) rfl), (mw (i := 54) (by decide +kernel) rfl), by decide +kernel, by decide +kernel⟩
theorem mi_Jx4a65c_init_da8c8 : MI yJx4a65c_init_da8c8 cJx4a65c_init_da8c8 1 none 0 := ⟨by decide +kernel, (mw (i := 1254) (by decide +kernel) rfl), (mw (i := 54) (by decide +kernel) rfl), by decide +kernel, by decide +kernel⟩
theorem mi_Jx4a65c_size_8abf5 : MI yJx4a65c_size_8abf5 cJx4a65c_size_8abf5 1 (some .int) 0 := ⟨by decide +kernel, (mw (i := 1697) (by decide +kernel) rfl), (mw (i := 54) (by decide +kernel) rfl), by decide +kernel, by decide +kernel⟩
theorem mi_Jxa1e45_init_da8c8 : MI yJxa1e45_init_da8c8 cJxa1e45_init_da8c8 1 none 0 := ⟨by decide +kernel, (mw (i := 1260) (by decide +kernel) rfl), (mw (i := 52) (by decide +kernel) rfl), by decide +kernel, by decide +kernel⟩
theorem mi_Jxc12de_init_da8c8 : MI yJxc12de_init_da8c8 cJxc12de_init_da8c8 1 none 0 := ⟨by decide +kernel, (mw (i := 1257) (by decide +kernel) rfl), (mw (i := 53) (by decide +kernel) rfl), by decide +kernel, by decide +kernel⟩
theorem fl_RJ0_9 : Fl RJ0 9 15 0 (.array .byte) true := ⟨RJ0, TJ0, 4, tyJ0, rfl, by decide, rfl, lay_15, (mw (i := 1639) (by decide +kernel) rfl), tyJ0_ok, nmJ0, tyJ0_ok 0 (by decide), rfl, by decide, fun _ => rfl⟩
theorem fl_RJ0_15 : Fl RJ0 15 15 1 .byte true := ⟨RJ0, TJ0, 4, tyJ0, rfl, by decide, rfl, lay_15, (mw (i := 1640) (by decide +kernel) rfl), tyJ0_ok, nmJ0, tyJ0_ok 1 (by decide), rfl, by decide, fun _ => rfl⟩
theorem fl_RJ0_1048 : Fl RJ0 1048 11 2 .boolean false := ⟨RJ4, TJ4, 4, tyJ4, rfl, by decide, rfl, lay_11, (mw (i := 400) (by decide +kernel) rfl), tyJ4_ok, nmJ4, tyJ4_ok 2 (by decide), rfl, by decide, by decide⟩
theorem fl_RJ5_15 : Fl RJ5 15 11 0 (.array .byte) false := ⟨RJ4, TJ4, 4, tyJ4, rfl, by decide, rfl, lay_11, (mw (i := 398) (by decide +kernel) rfl), tyJ4_ok, nmJ4, tyJ4_ok 0 (by decide), rfl, by decide, by decide⟩
theorem fl_RJ5_22 : Fl RJ5 22 11 1 .byte false := ⟨RJ4, TJ4, 4, tyJ4, rfl, by decide, rfl, lay_11, (mw (i := 399) (by decide +kernel) rfl), tyJ4_ok, nmJ4, tyJ4_ok 1 (by decide), rfl, by decide, by decide⟩
theorem fl_RJ5_79 : Fl RJ5 79 11 3 .int false := ⟨RJ4, TJ4, 4, tyJ4, rfl, by decide, rfl, lay_11, (mw (i := 401) (by decide +kernel) rfl), tyJ4_ok, nmJ4, tyJ4_ok 3 (by decide), rfl, by decide, by decide⟩
theorem fl_RJx4a65c_9 : Fl RJx4a65c 9 12 1 (.array (.object "java/lang/Object")) false := ⟨RJx4a65c, TJx4a65c, 3, tyJx4a65c, rfl, by decide, rfl, lay_12, (mw (i := 1264) (by decide +kernel) rfl), tyJx4a65c_ok, nmJx4a65c, tyJx4a65c_ok 1 (by decide), rfl, by decide, by decide⟩
theorem fl_RJx4a65c_48 : Fl RJx4a65c 48 12 2 .int false := ⟨RJx4a65c, TJx4a65c, 3, tyJx4a65c, rfl, by decide, rfl, lay_12, (mw (i := 1265) (by decide +kernel) rfl), tyJx4a65c_ok, nmJx4a65c, tyJx4a65c_ok 2 (by decide), rfl, by decide, by decide⟩
theorem fl_RJxc12de_7 : Fl RJxc12de 7 12 0 .int false := ⟨RJx4a65c, TJx4a65c, 3, tyJx4a65c, rfl, by decide, rfl, lay_12, (mw (i := 1266) (by decide +kernel) rfl), tyJx4a65c_ok, nmJx4a65c, tyJx4a65c_ok 0 (by decide), rfl, by decide, by decide⟩
theorem fS_RJx4a65c_63 : FlS RJx4a65c 63 12 0 .int := ⟨RJx4a65c, "java/util/ArrayList", TJx4a65c, 3, tyJx4a65c, rfl, by decide, rfl, lay_12, (mw (i := 1267) (by decide +kernel) rfl), (mw (i := 1268) (by decide +kernel) rfl), tyJx4a65c_ok, nmJx4a65c, tyJx4a65c_ok 0 (by decide), rfl, by decide⟩
theorem fs_RJ0_9 : Fs RJ0 9 15 0 := ⟨RJ0, TJ0, 4, rfl, by decide, rfl, lay_15, (mw (i := 1639) (by decide +kernel) rfl)⟩
theorem fs_RJ0_15 : Fs RJ0 15 15 1 := ⟨RJ0, TJ0, 4, rfl, by decide, rfl, lay_15, (mw (i := 1640) (by decide +kernel) rfl)⟩
theorem cc_RJ7_311 : Cond.classLink RJ7 311 "[B" ∈ ALLw := (mw (i := 1414) (by decide +kernel) rfl)
theorem cl_RJ7_310 : CLW RJ7 310 := ⟨(mw (i := 1408) (by decide +kernel) rfl), (mw (i := 1409) (by decide +kernel) rfl), (mw (i := 1410) (by decide +kernel) rfl), (mw (i := 1411) (by decide +kernel) rfl), (mw (i := 1412) (by decide +kernel) rfl), (mn (i := 1413) (by decide +kernel) rfl)⟩
theorem oa_A : Cond.castable RX10 "java/lang/Object" ∈ ALLn := (mn (i := 1911) (by decide +kernel) rfl)
theorem oa_W : Cond.castable RX12 "java/lang/Object" ∈ ALLn := (mn (i := 1913) (by decide +kernel) rfl)
theorem lk_RJ0_54 : LSt RJ0 54 yJ7_copyOfRange_39247 := ⟨(mw (i := 1736) (by decide +kernel) rfl), (mw (i := 1627) (by decide +kernel) rfl)⟩
theorem lk_RJ0_335 : LV RJ0 335 yJ0_coder_7d493 := ⟨(mw (i := 591) (by decide +kernel) rfl), (mw (i := 592) (by decide +kernel) rfl), (mw (i := 593) (by decide +kernel) rfl)⟩
theorem lk_RJ0_489 : LI RJ0 489 yJ0_init_db425 := ⟨(mw (i := 1726) (by decide +kernel) rfl), (mw (i := 1727) (by decide +kernel) rfl), rfl⟩
theorem lk_RJ0_492 : LV RJ0 492 yJ0_isLatin1_aae02 := ⟨(mw (i := 600) (by decide +kernel) rfl), (mw (i := 601) (by decide +kernel) rfl), (mw (i := 602) (by decide +kernel) rfl)⟩
theorem lk_RJ0_495 : LSt RJ0 495 yJ1_charAt_3b067 := ⟨(mw (i := 604) (by decide +kernel) rfl), (mw (i := 605) (by decide +kernel) rfl)⟩
theorem lk_RJ0_505 : LV RJ0 505 yJ0_length_8abf5 := ⟨(mw (i := 1618) (by decide +kernel) rfl), (mw (i := 588) (by decide +kernel) rfl), (mw (i := 589) (by decide +kernel) rfl)⟩
theorem lk_RJ0_521 : LSt RJ0 521 yJ0_checkBoundsBeginEnd_23922 := ⟨(mw (i := 1619) (by decide +kernel) rfl), (mw (i := 1429) (by decide +kernel) rfl)⟩
theorem lk_RJ0_549 : LO RJ0 549 yJ5_length_8abf5 yJ4_length_8abf5 RJ4 := ⟨(mw (i := 1734) (by decide +kernel) rfl), (mw (i := 1887) (by decide +kernel) rfl), (mw (i := 1321) (by decide +kernel) rfl), (mw (i := 1897) (by decide +kernel) rfl), (mw (i := 1317) (by decide +kernel) rfl), ⟨cJ5_length_8abf5, 1, (some .int), (mw (i := 1322) (by decide +kernel) rfl)⟩, by decide +kernel, rfl⟩
theorem lk_RJ0_552 : LVc RJ0 552 yJ5_getValue_6d5f1 RJ4 := .of (mw (i := 1729) (by decide +kernel) rfl) (mw (i := 1730) (by decide +kernel) rfl) (mw (i := 1732) (by decide +kernel) rfl)
theorem lk_RJ0_685 : LSt RJ0 685 yJ1_newString_b4f7a := ⟨(mw (i := 1620) (by decide +kernel) rfl), (mw (i := 1621) (by decide +kernel) rfl)⟩
theorem lk_RJ0_1047 : LVc RJ0 1047 yJ5_isLatin1_aae02 RJ4 := .of (mw (i := 1735) (by decide +kernel) rfl) (mw (i := 1418) (by decide +kernel) rfl) (mw (i := 1420) (by decide +kernel) rfl)
theorem lk_RJ0_1059 : LSt RJ0 1059 yJ3_checkIndex_8e157 := ⟨(mw (i := 612) (by decide +kernel) rfl), (mw (i := 613) (by decide +kernel) rfl)⟩
theorem lk_RJ0_1062 : LSt RJ0 1062 yJ3_checkFromToIndex_8c36e := ⟨(mw (i := 1431) (by decide +kernel) rfl), (mw (i := 1432) (by decide +kernel) rfl)⟩
theorem lk_RJ1_9 : LSt RJ1 9 yJ0_checkIndex_df160 := ⟨(mw (i := 607) (by decide +kernel) rfl), (mw (i := 608) (by decide +kernel) rfl)⟩
theorem lk_RJ1_112 : LI RJ1 112 yJ0_init_031fb := ⟨(mw (i := 1635) (by decide +kernel) rfl), (mw (i := 1636) (by decide +kernel) rfl), rfl⟩
theorem lk_RJ1_232 : LSt RJ1 232 yJ7_copyOfRange_39247 := ⟨(mw (i := 1626) (by decide +kernel) rfl), (mw (i := 1627) (by decide +kernel) rfl)⟩
theorem lk_RJ15_105 : LSt RJ15 105 yJ3_checkIndex_8e157 := ⟨(mw (i := 1705) (by decide +kernel) rfl), (mw (i := 613) (by decide +kernel) rfl)⟩
theorem lk_RJ4_1 : LI RJ4 1 yJ5_init_d00df := ⟨(mw (i := 385) (by decide +kernel) rfl), (mw (i := 386) (by decide +kernel) rfl), rfl⟩
theorem lk_RJ4_7 : LI RJ4 7 yJ5_init_a7421 := ⟨(mw (i := 1366) (by decide +kernel) rfl), (mw (i := 1367) (by decide +kernel) rfl), rfl⟩
theorem lk_RJ4_23 : LV RJ4 23 yJ4_append_15ec4 := ⟨(mw (i := 1379) (by decide +kernel) rfl), (mw (i := 1380) (by decide +kernel) rfl), (mw (i := 1381) (by decide +kernel) rfl)⟩
theorem lk_RJ4_29 : LSU RJ4 29 yJ5_append_cf1ce := ⟨(mw (i := 1383) (by decide +kernel) rfl), (mw (i := 1375) (by decide +kernel) rfl), (mw (i := 410) (by decide +kernel) rfl), (mw (i := 1374) (by decide +kernel) rfl), by decide +kernel⟩
theorem lk_RJ4_50 : LSU RJ4 50 yJ5_append_3fe6f := ⟨(mw (i := 1499) (by decide +kernel) rfl), (mw (i := 1896) (by decide +kernel) rfl), (mw (i := 410) (by decide +kernel) rfl), (mw (i := 1500) (by decide +kernel) rfl), by decide +kernel⟩
theorem lk_RJ4_53 : LSU RJ4 53 yJ5_append_c97b9 := ⟨(mw (i := 1474) (by decide +kernel) rfl), (mw (i := 1895) (by decide +kernel) rfl), (mw (i := 410) (by decide +kernel) rfl), (mw (i := 1475) (by decide +kernel) rfl), by decide +kernel⟩
theorem lk_RJ4_137 : LI RJ4 137 yJ0_init_81219 := ⟨(mw (i := 1723) (by decide +kernel) rfl), (mw (i := 1724) (by decide +kernel) rfl), rfl⟩
theorem lk_RJ4_343 : LSU RJ4 343 yJ5_length_8abf5 := ⟨(mw (i := 1320) (by decide +kernel) rfl), (mw (i := 1887) (by decide +kernel) rfl), (mw (i := 410) (by decide +kernel) rfl), (mw (i := 1321) (by decide +kernel) rfl), by decide +kernel⟩
theorem lk_RJ5_32 : LV RJ5 32 yJ0_length_8abf5 := ⟨(mw (i := 1369) (by decide +kernel) rfl), (mw (i := 588) (by decide +kernel) rfl), (mw (i := 589) (by decide +kernel) rfl)⟩
theorem lk_RJ5_40 : LV RJ5 40 yJ0_coder_7d493 := ⟨(mw (i := 1372) (by decide +kernel) rfl), (mw (i := 592) (by decide +kernel) rfl), (mw (i := 593) (by decide +kernel) rfl)⟩
theorem lk_RJ5_43 : LO RJ5 43 yJ5_append_cf1ce yJ4_append_cf1ce RJ4 := ⟨(mw (i := 1373) (by decide +kernel) rfl), (mw (i := 1375) (by decide +kernel) rfl), (mw (i := 1374) (by decide +kernel) rfl), (mw (i := 1376) (by decide +kernel) rfl), (mw (i := 1377) (by decide +kernel) rfl), ⟨cJ5_append_cf1ce, 3, (some (.object "java/lang/AbstractStringBuilder")), (mw (i := 1384) (by decide +kernel) rfl)⟩, by decide +kernel, rfl⟩
theorem lk_RJ5_83 : LVc RJ5 83 yJ5_isLatin1_aae02 RJ4 := .of (mw (i := 1417) (by decide +kernel) rfl) (mw (i := 1418) (by decide +kernel) rfl) (mw (i := 1420) (by decide +kernel) rfl)
theorem lk_RJ5_100 : LVc RJ5 100 yJ5_ensureCapacityInternal_d00df RJ4 := .of (mw (i := 1389) (by decide +kernel) rfl) (mw (i := 1391) (by decide +kernel) rfl) mx0
theorem lk_RJ5_104 : LVc RJ5 104 yJ5_newCapacity_0f7a4 RJ4 := .of (mw (i := 1393) (by decide +kernel) rfl) (mw (i := 1395) (by decide +kernel) rfl) mx1
theorem lk_RJ5_108 : LSt RJ5 108 yJ7_copyOf_9075b := ⟨(mw (i := 1405) (by decide +kernel) rfl), (mw (i := 1406) (by decide +kernel) rfl)⟩
theorem lk_RJ5_114 : LSt RJ5 114 yJ8_newLength_cabcc := ⟨(mw (i := 1397) (by decide +kernel) rfl), (mw (i := 1398) (by decide +kernel) rfl)⟩
theorem lk_RJ5_191 : LSt RJ5 191 yJ1_canEncode_fc78d := ⟨(mw (i := 1502) (by decide +kernel) rfl), (mw (i := 1503) (by decide +kernel) rfl)⟩
theorem lk_RJ5_208 : LVc RJ5 208 yJ5_putStringAt_47b60 RJ4 := .of (mw (i := 1437) (by decide +kernel) rfl) (mw (i := 1439) (by decide +kernel) rfl) mx2
theorem lk_RJ5_245 : LSt RJ5 245 yJ6_stringSize_0f7a4 := ⟨(mw (i := 1477) (by decide +kernel) rfl), (mw (i := 1478) (by decide +kernel) rfl)⟩
theorem lk_RJ5_248 : LSt RJ5 248 yJ6_getChars_ba4f3 := ⟨(mw (i := 1480) (by decide +kernel) rfl), (mw (i := 1481) (by decide +kernel) rfl)⟩
theorem lk_RJ5_397 : LVc RJ5 397 yJ5_inflateIfNeededFor_a7421 RJ4 := .of (mw (i := 1441) (by decide +kernel) rfl) (mw (i := 1443) (by decide +kernel) rfl) mx3
theorem lk_RJ5_399 : LV RJ5 399 yJ0_getBytes_840e7 := ⟨(mw (i := 1464) (by decide +kernel) rfl), (mw (i := 1465) (by decide +kernel) rfl), (mw (i := 1466) (by decide +kernel) rfl)⟩
theorem lk_RJ7_339 : LSt RJ7 339 yJ7_copyOfRangeByte_39247 := ⟨(mw (i := 1629) (by decide +kernel) rfl), (mw (i := 1630) (by decide +kernel) rfl)⟩
theorem lk_RJ7_343 : LSt RJ7 343 yJ7_checkLength_df160 := ⟨(mw (i := 1632) (by decide +kernel) rfl), (mw (i := 1633) (by decide +kernel) rfl)⟩
theorem lk_RJx4a65c_1 : LI RJx4a65c 1 yJxc12de_init_da8c8 := ⟨(mw (i := 1255) (by decide +kernel) rfl), (mw (i := 1256) (by decide +kernel) rfl), rfl⟩
theorem lk_RJx4a65c_69 : LV RJx4a65c 69 yJx4a65c_grow_92f84 := ⟨(mw (i := 1564) (by decide +kernel) rfl), (mw (i := 1566) (by decide +kernel) rfl), (mw (i := 35) (by decide +kernel) rfl)⟩
theorem lk_RJx4a65c_73 : LSt RJx4a65c 73 yJ8_newLength_cabcc := ⟨(mw (i := 1568) (by decide +kernel) rfl), (mw (i := 1398) (by decide +kernel) rfl)⟩
theorem lk_RJx4a65c_118 : LSt RJx4a65c 118 yJ15_checkIndex_7cf53 := ⟨(mw (i := 1702) (by decide +kernel) rfl), (mw (i := 1703) (by decide +kernel) rfl)⟩
theorem lk_RJx4a65c_123 : LV RJx4a65c 123 yJx4a65c_elementData_915e3 := ⟨(mw (i := 1706) (by decide +kernel) rfl), (mw (i := 1707) (by decide +kernel) rfl), (mw (i := 1708) (by decide +kernel) rfl)⟩
theorem lk_RJx4a65c_129 : LV RJx4a65c 129 yJx4a65c_grow_d5877 := ⟨(mw (i := 1560) (by decide +kernel) rfl), (mw (i := 1562) (by decide +kernel) rfl), (mw (i := 34) (by decide +kernel) rfl)⟩
theorem lk_RJx4a65c_131 : LV RJx4a65c 131 yJx4a65c_add_72be8 := ⟨(mw (i := 1556) (by decide +kernel) rfl), (mw (i := 1558) (by decide +kernel) rfl), (mw (i := 33) (by decide +kernel) rfl)⟩
theorem lk_RJxc12de_1 : LI RJxc12de 1 yJxa1e45_init_da8c8 := ⟨(mw (i := 1258) (by decide +kernel) rfl), (mw (i := 1259) (by decide +kernel) rfl), rfl⟩
theorem nw_RJ1_1 : NW RJ1 1 15 := ⟨RJ0, TJ0, 4, tyJ0, rfl, rfl, lay_15, tyJ0_ok, (mw (i := 1624) (by decide +kernel) rfl), (mw (i := 1625) (by decide +kernel) rfl), (mw (i := 49) (by decide +kernel) rfl), by decide, dv_15⟩
theorem nw_RJ4_18 : NW RJ4 18 15 := ⟨RJ0, TJ0, 4, tyJ0, rfl, rfl, lay_15, tyJ0_ok, (mw (i := 1722) (by decide +kernel) rfl), (mw (i := 1625) (by decide +kernel) rfl), (mw (i := 49) (by decide +kernel) rfl), by decide, dv_15⟩
theorem cs_RJ5_38 : Cond.constant RJ5 38 2147483631 ∈ ALLw := mw (i := 1370) (by decide +kernel) rfl
theorem cs_RJ5_39 : Cond.constant RJ5 39 2147483647 ∈ ALLw := mw (i := 1371) (by decide +kernel) rfl
theorem cs_RJ8_200 : Cond.constant RJ8 200 2147483639 ∈ ALLw := mw (i := 1401) (by decide +kernel) rfl
theorem na_byte : Cond.arrayClass (newarray.typeOf .byte) ∈ ALLw := mw (i := 133) (by decide +kernel) rfl
theorem na_int : Cond.arrayClass (newarray.typeOf .int) ∈ ALLw := mw (i := 135) (by decide +kernel) rfl
theorem an_RJx4a65c_7 : Cond.classLink RJx4a65c 7 "java/lang/Object" ∈ ALLw ∧ Cond.arrayOver (.object "java/lang/Object") ∈ ALLn := ⟨(mw (i := 1603) (by decide +kernel) rfl), (mn (i := 1600) (by decide +kernel) rfl)⟩
theorem mt_RJ7_304 : MTW RJ7 304 Lib.Math.min.name Lib.Math.min.code 2 := ⟨(mw (i := 1415) (by decide +kernel) rfl), (mw (i := 549) (by decide +kernel) rfl), (mw (i := 56) (by decide +kernel) rfl), (mw (i := 550) (by decide +kernel) rfl)⟩
theorem mt_RJ8_194 : MTW RJ8 194 Lib.Math.max.name Lib.Math.max.code 2 := ⟨(mw (i := 1400) (by decide +kernel) rfl), (mw (i := 707) (by decide +kernel) rfl), (mw (i := 56) (by decide +kernel) rfl), (mw (i := 708) (by decide +kernel) rfl)⟩
theorem mt_RJx4a65c_79 : MTW RJx4a65c 79 Lib.Math.max.name Lib.Math.max.code 2 := ⟨(mw (i := 1602) (by decide +kernel) rfl), (mw (i := 707) (by decide +kernel) rfl), (mw (i := 56) (by decide +kernel) rfl), (mw (i := 708) (by decide +kernel) rfl)⟩
theorem cp_RJ0_212 : CPW RJ0 212 := ⟨(mw (i := 1468) (by decide +kernel) rfl), (mw (i := 1123) (by decide +kernel) rfl), (mw (i := 1122) (by decide +kernel) rfl), (mw (i := 58) (by decide +kernel) rfl)⟩
theorem cp_RJ7_150 : CPW RJ7 150 := ⟨(mw (i := 1416) (by decide +kernel) rfl), (mw (i := 1123) (by decide +kernel) rfl), (mw (i := 1122) (by decide +kernel) rfl), (mw (i := 58) (by decide +kernel) rfl)⟩
theorem obj_RJ0_1 : OBW RJ0 1 := ⟨(mw (i := 1638) (by decide +kernel) rfl), (mw (i := 81) (by decide +kernel) rfl), (mw (i := 82) (by decide +kernel) rfl)⟩
theorem obj_RJ5_3 : OBW RJ5 3 := ⟨(mw (i := 388) (by decide +kernel) rfl), (mw (i := 81) (by decide +kernel) rfl), (mw (i := 82) (by decide +kernel) rfl)⟩
theorem obj_RJxa1e45_1 : OBW RJxa1e45 1 := ⟨(mw (i := 1261) (by decide +kernel) rfl), (mw (i := 81) (by decide +kernel) rfl), (mw (i := 82) (by decide +kernel) rfl)⟩
theorem sv_RJ0_1053 : Cond.fieldLink RJ0 1053 "jdk/internal/util/Preconditions" "SIOOBE_FORMATTER" "Ljava/util/function/BiFunction;" ∈ ALLw := mw (i := 610) (by decide +kernel) rfl
theorem sv_RJ0_15 : Cond.fieldLink RJ0 15 "java/lang/String" "coder" "B" ∈ ALLw := mw (i := 1640) (by decide +kernel) rfl
theorem sv_RJ0_38 : Cond.fieldLink RJ0 38 "java/lang/String" "COMPACT_STRINGS" "Z" ∈ ALLw := mw (i := 595) (by decide +kernel) rfl
theorem sv_RJ0_9 : Cond.fieldLink RJ0 9 "java/lang/String" "value" "[B" ∈ ALLw := mw (i := 1639) (by decide +kernel) rfl
theorem sv_RJ5_18 : Cond.fieldLink RJ5 18 "java/lang/String" "COMPACT_STRINGS" "Z" ∈ ALLw := mw (i := 389) (by decide +kernel) rfl
theorem sv_RJ6_83 : Cond.fieldLink RJ6 83 "java/lang/Integer" "DigitOnes" "[B" ∈ ALLw := mw (i := 1483) (by decide +kernel) rfl
theorem sv_RJ6_87 : Cond.fieldLink RJ6 87 "java/lang/Integer" "DigitTens" "[B" ∈ ALLw := mw (i := 1485) (by decide +kernel) rfl
theorem sv_RJx4a65c_39 : Cond.fieldLink RJx4a65c 39 "java/util/ArrayList" "DEFAULTCAPACITY_EMPTY_ELEMENTDATA" "[Ljava/lang/Object;" ∈ ALLw := mw (i := 1262) (by decide +kernel) rfl
theorem dJ0_coder_7d493_0 : decode cJ0_coder_7d493 0 = .ok (.getstatic 38, 3) := by decide +kernel
theorem dJ0_coder_7d493_3 : decode cJ0_coder_7d493 3 = .ok (.ifCond .eq 10, 3) := by decide +kernel
theorem dJ0_coder_7d493_6 : decode cJ0_coder_7d493 6 = .ok (.aload_n 0, 1) := by decide +kernel
theorem dJ0_coder_7d493_7 : decode cJ0_coder_7d493 7 = .ok (.getfield 15, 3) := by decide +kernel
theorem dJ0_coder_7d493_10 : decode cJ0_coder_7d493 10 = .ok (.goto 4, 3) := by decide +kernel
theorem dJ0_coder_7d493_14 : decode cJ0_coder_7d493 14 = .ok (.ireturn, 1) := by decide +kernel
theorem dJ0_length_8abf5_0 : decode cJ0_length_8abf5 0 = .ok (.aload_n 0, 1) := by decide +kernel
theorem dJ0_length_8abf5_1 : decode cJ0_length_8abf5 1 = .ok (.getfield 9, 3) := by decide +kernel
theorem dJ0_length_8abf5_4 : decode cJ0_length_8abf5 4 = .ok (.arraylength, 1) := by decide +kernel
theorem dJ0_length_8abf5_5 : decode cJ0_length_8abf5 5 = .ok (.aload_n 0, 1) := by decide +kernel
theorem dJ0_length_8abf5_6 : decode cJ0_length_8abf5 6 = .ok (.invokevirtual 335, 3) := by decide +kernel
theorem dJ0_length_8abf5_9 : decode cJ0_length_8abf5 9 = .ok (.ishr, 1) := by decide +kernel
theorem dJ0_length_8abf5_10 : decode cJ0_length_8abf5 10 = .ok (.ireturn, 1) := by decide +kernel
theorem dJ0_isLatin1_aae02_0 : decode cJ0_isLatin1_aae02 0 = .ok (.getstatic 38, 3) := by decide +kernel
theorem dJ0_isLatin1_aae02_3 : decode cJ0_isLatin1_aae02 3 = .ok (.ifCond .eq 14, 3) := by decide +kernel
theorem dJ0_isLatin1_aae02_6 : decode cJ0_isLatin1_aae02 6 = .ok (.aload_n 0, 1) := by decide +kernel
theorem dJ0_isLatin1_aae02_7 : decode cJ0_isLatin1_aae02 7 = .ok (.getfield 15, 3) := by decide +kernel
theorem dJ0_isLatin1_aae02_10 : decode cJ0_isLatin1_aae02 10 = .ok (.ifCond .ne 7, 3) := by decide +kernel
theorem dJ0_isLatin1_aae02_13 : decode cJ0_isLatin1_aae02 13 = .ok (.iconst 1, 1) := by decide +kernel
theorem dJ0_isLatin1_aae02_14 : decode cJ0_isLatin1_aae02 14 = .ok (.goto 4, 3) := by decide +kernel
theorem dJ0_isLatin1_aae02_17 : decode cJ0_isLatin1_aae02 17 = .ok (.iconst 0, 1) := by decide +kernel
theorem dJ0_isLatin1_aae02_18 : decode cJ0_isLatin1_aae02 18 = .ok (.ireturn, 1) := by decide +kernel
theorem dJ3_checkIndex_8e157_0 : decode cJ3_checkIndex_8e157 0 = .ok (.iload_n 0, 1) := by decide +kernel
theorem dJ3_checkIndex_8e157_1 : decode cJ3_checkIndex_8e157 1 = .ok (.ifCond .lt 8, 3) := by decide +kernel
theorem dJ3_checkIndex_8e157_4 : decode cJ3_checkIndex_8e157 4 = .ok (.iload_n 0, 1) := by decide +kernel
theorem dJ3_checkIndex_8e157_5 : decode cJ3_checkIndex_8e157 5 = .ok (.iload_n 1, 1) := by decide +kernel
theorem dJ3_checkIndex_8e157_6 : decode cJ3_checkIndex_8e157 6 = .ok (.if_icmp .lt 10, 3) := by decide +kernel
theorem dJ3_checkIndex_8e157_9 : decode cJ3_checkIndex_8e157 9 = .ok (.aload_n 2, 1) := by decide +kernel
theorem dJ3_checkIndex_8e157_10 : decode cJ3_checkIndex_8e157 10 = .ok (.iload_n 0, 1) := by decide +kernel
theorem dJ3_checkIndex_8e157_11 : decode cJ3_checkIndex_8e157 11 = .ok (.iload_n 1, 1) := by decide +kernel
theorem dJ3_checkIndex_8e157_16 : decode cJ3_checkIndex_8e157 16 = .ok (.iload_n 0, 1) := by decide +kernel
theorem dJ3_checkIndex_8e157_17 : decode cJ3_checkIndex_8e157 17 = .ok (.ireturn, 1) := by decide +kernel
theorem dJ0_checkIndex_df160_0 : decode cJ0_checkIndex_df160 0 = .ok (.iload_n 0, 1) := by decide +kernel
theorem dJ0_checkIndex_df160_1 : decode cJ0_checkIndex_df160 1 = .ok (.iload_n 1, 1) := by decide +kernel
theorem dJ0_checkIndex_df160_2 : decode cJ0_checkIndex_df160 2 = .ok (.getstatic 1053, 3) := by decide +kernel
theorem dJ0_checkIndex_df160_5 : decode cJ0_checkIndex_df160 5 = .ok (.invokestatic 1059, 3) := by decide +kernel
theorem dJ0_checkIndex_df160_8 : decode cJ0_checkIndex_df160 8 = .ok (.pop, 1) := by decide +kernel
theorem dJ0_checkIndex_df160_9 : decode cJ0_checkIndex_df160 9 = .ok (.return_, 1) := by decide +kernel
theorem dJ1_charAt_3b067_0 : decode cJ1_charAt_3b067 0 = .ok (.iload_n 1, 1) := by decide +kernel
theorem dJ1_charAt_3b067_1 : decode cJ1_charAt_3b067 1 = .ok (.aload_n 0, 1) := by decide +kernel
theorem dJ1_charAt_3b067_2 : decode cJ1_charAt_3b067 2 = .ok (.arraylength, 1) := by decide +kernel
theorem dJ1_charAt_3b067_3 : decode cJ1_charAt_3b067 3 = .ok (.invokestatic 9, 3) := by decide +kernel
theorem dJ1_charAt_3b067_6 : decode cJ1_charAt_3b067 6 = .ok (.aload_n 0, 1) := by decide +kernel
theorem dJ1_charAt_3b067_7 : decode cJ1_charAt_3b067 7 = .ok (.iload_n 1, 1) := by decide +kernel
theorem dJ1_charAt_3b067_8 : decode cJ1_charAt_3b067 8 = .ok (.baload, 1) := by decide +kernel
theorem dJ1_charAt_3b067_9 : decode cJ1_charAt_3b067 9 = .ok (.sipush 255, 3) := by decide +kernel
theorem dJ1_charAt_3b067_12 : decode cJ1_charAt_3b067 12 = .ok (.iand, 1) := by decide +kernel
theorem dJ1_charAt_3b067_13 : decode cJ1_charAt_3b067 13 = .ok (.i2c, 1) := by decide +kernel
theorem dJ1_charAt_3b067_14 : decode cJ1_charAt_3b067 14 = .ok (.ireturn, 1) := by decide +kernel
theorem dJ0_charAt_5068e_0 : decode cJ0_charAt_5068e 0 = .ok (.aload_n 0, 1) := by decide +kernel
theorem dJ0_charAt_5068e_1 : decode cJ0_charAt_5068e 1 = .ok (.invokevirtual 492, 3) := by decide +kernel
theorem dJ0_charAt_5068e_4 : decode cJ0_charAt_5068e 4 = .ok (.ifCond .eq 12, 3) := by decide +kernel
theorem dJ0_charAt_5068e_7 : decode cJ0_charAt_5068e 7 = .ok (.aload_n 0, 1) := by decide +kernel
theorem dJ0_charAt_5068e_8 : decode cJ0_charAt_5068e 8 = .ok (.getfield 9, 3) := by decide +kernel
theorem dJ0_charAt_5068e_11 : decode cJ0_charAt_5068e 11 = .ok (.iload_n 1, 1) := by decide +kernel
theorem dJ0_charAt_5068e_12 : decode cJ0_charAt_5068e 12 = .ok (.invokestatic 495, 3) := by decide +kernel
theorem dJ0_charAt_5068e_15 : decode cJ0_charAt_5068e 15 = .ok (.ireturn, 1) := by decide +kernel
theorem dJ0_charAt_5068e_16 : decode cJ0_charAt_5068e 16 = .ok (.aload_n 0, 1) := by decide +kernel
theorem dJ0_charAt_5068e_17 : decode cJ0_charAt_5068e 17 = .ok (.getfield 9, 3) := by decide +kernel
theorem dJ0_charAt_5068e_20 : decode cJ0_charAt_5068e 20 = .ok (.iload_n 1, 1) := by decide +kernel
theorem dJ5_init_d00df_0 : decode cJ5_init_d00df 0 = .ok (.aload_n 0, 1) := by decide +kernel
theorem dJ5_init_d00df_1 : decode cJ5_init_d00df 1 = .ok (.invokespecial 3, 3) := by decide +kernel
theorem dJ5_init_d00df_4 : decode cJ5_init_d00df 4 = .ok (.getstatic 18, 3) := by decide +kernel
theorem dJ5_init_d00df_7 : decode cJ5_init_d00df 7 = .ok (.ifCond .eq 18, 3) := by decide +kernel
theorem dJ5_init_d00df_10 : decode cJ5_init_d00df 10 = .ok (.aload_n 0, 1) := by decide +kernel
theorem dJ5_init_d00df_11 : decode cJ5_init_d00df 11 = .ok (.iload_n 1, 1) := by decide +kernel
theorem dJ5_init_d00df_12 : decode cJ5_init_d00df 12 = .ok (.newarray .byte, 2) := by decide +kernel
theorem dJ5_init_d00df_14 : decode cJ5_init_d00df 14 = .ok (.putfield 15, 3) := by decide +kernel
theorem dJ5_init_d00df_17 : decode cJ5_init_d00df 17 = .ok (.aload_n 0, 1) := by decide +kernel
theorem dJ5_init_d00df_18 : decode cJ5_init_d00df 18 = .ok (.iconst 0, 1) := by decide +kernel
theorem dJ5_init_d00df_19 : decode cJ5_init_d00df 19 = .ok (.putfield 22, 3) := by decide +kernel
theorem dJ5_init_d00df_22 : decode cJ5_init_d00df 22 = .ok (.goto 16, 3) := by decide +kernel
theorem dJ5_init_d00df_38 : decode cJ5_init_d00df 38 = .ok (.return_, 1) := by decide +kernel
theorem dJ4_init_da8c8_0 : decode cJ4_init_da8c8 0 = .ok (.aload_n 0, 1) := by decide +kernel
theorem dJ4_init_da8c8_1 : decode cJ4_init_da8c8 1 = .ok (.bipush 16, 2) := by decide +kernel
theorem dJ4_init_da8c8_3 : decode cJ4_init_da8c8 3 = .ok (.invokespecial 1, 3) := by decide +kernel
theorem dJ4_init_da8c8_6 : decode cJ4_init_da8c8 6 = .ok (.return_, 1) := by decide +kernel
theorem dJxa1e45_init_da8c8_0 : decode cJxa1e45_init_da8c8 0 = .ok (.aload_n 0, 1) := by decide +kernel
theorem dJxa1e45_init_da8c8_1 : decode cJxa1e45_init_da8c8 1 = .ok (.invokespecial 1, 3) := by decide +kernel
theorem dJxa1e45_init_da8c8_4 : decode cJxa1e45_init_da8c8 4 = .ok (.return_, 1) := by decide +kernel
theorem dJxc12de_init_da8c8_0 : decode cJxc12de_init_da8c8 0 = .ok (.aload_n 0, 1) := by decide +kernel
theorem dJxc12de_init_da8c8_1 : decode cJxc12de_init_da8c8 1 = .ok (.invokespecial 1, 3) := by decide +kernel
theorem dJxc12de_init_da8c8_4 : decode cJxc12de_init_da8c8 4 = .ok (.aload_n 0, 1) := by decide +kernel
theorem dJxc12de_init_da8c8_5 : decode cJxc12de_init_da8c8 5 = .ok (.iconst 0, 1) := by decide +kernel
theorem dJxc12de_init_da8c8_6 : decode cJxc12de_init_da8c8 6 = .ok (.putfield 7, 3) := by decide +kernel
theorem dJxc12de_init_da8c8_9 : decode cJxc12de_init_da8c8 9 = .ok (.return_, 1) := by decide +kernel
theorem dJx4a65c_init_da8c8_0 : decode cJx4a65c_init_da8c8 0 = .ok (.aload_n 0, 1) := by decide +kernel
theorem dJx4a65c_init_da8c8_1 : decode cJx4a65c_init_da8c8 1 = .ok (.invokespecial 1, 3) := by decide +kernel
theorem dJx4a65c_init_da8c8_4 : decode cJx4a65c_init_da8c8 4 = .ok (.aload_n 0, 1) := by decide +kernel
theorem dJx4a65c_init_da8c8_5 : decode cJx4a65c_init_da8c8 5 = .ok (.getstatic 39, 3) := by decide +kernel
theorem dJx4a65c_init_da8c8_8 : decode cJx4a65c_init_da8c8 8 = .ok (.putfield 9, 3) := by decide +kernel
theorem dJx4a65c_init_da8c8_11 : decode cJx4a65c_init_da8c8 11 = .ok (.return_, 1) := by decide +kernel
theorem dJx4a65c_size_8abf5_0 : decode cJx4a65c_size_8abf5 0 = .ok (.aload_n 0, 1) := by decide +kernel
theorem dJx4a65c_size_8abf5_1 : decode cJx4a65c_size_8abf5 1 = .ok (.getfield 48, 3) := by decide +kernel
theorem dJx4a65c_size_8abf5_4 : decode cJx4a65c_size_8abf5 4 = .ok (.ireturn, 1) := by decide +kernel
theorem dJ15_checkIndex_7cf53_0 : decode cJ15_checkIndex_7cf53 0 = .ok (.iload_n 0, 1) := by decide +kernel
theorem dJ15_checkIndex_7cf53_1 : decode cJ15_checkIndex_7cf53 1 = .ok (.iload_n 1, 1) := by decide +kernel
theorem dJ15_checkIndex_7cf53_2 : decode cJ15_checkIndex_7cf53 2 = .ok (.aconst_null, 1) := by decide +kernel
theorem dJ15_checkIndex_7cf53_3 : decode cJ15_checkIndex_7cf53 3 = .ok (.invokestatic 105, 3) := by decide +kernel
theorem dJ15_checkIndex_7cf53_6 : decode cJ15_checkIndex_7cf53 6 = .ok (.ireturn, 1) := by decide +kernel
theorem dJx4a65c_elementData_915e3_0 : decode cJx4a65c_elementData_915e3 0 = .ok (.aload_n 0, 1) := by decide +kernel
theorem dJx4a65c_elementData_915e3_1 : decode cJx4a65c_elementData_915e3 1 = .ok (.getfield 9, 3) := by decide +kernel
theorem dJx4a65c_elementData_915e3_4 : decode cJx4a65c_elementData_915e3 4 = .ok (.iload_n 1, 1) := by decide +kernel
theorem dJx4a65c_elementData_915e3_5 : decode cJx4a65c_elementData_915e3 5 = .ok (.aaload, 1) := by decide +kernel
theorem dJx4a65c_elementData_915e3_6 : decode cJx4a65c_elementData_915e3 6 = .ok (.areturn, 1) := by decide +kernel
theorem dJx4a65c_get_915e3_0 : decode cJx4a65c_get_915e3 0 = .ok (.iload_n 1, 1) := by decide +kernel
theorem dJx4a65c_get_915e3_1 : decode cJx4a65c_get_915e3 1 = .ok (.aload_n 0, 1) := by decide +kernel
theorem dJx4a65c_get_915e3_2 : decode cJx4a65c_get_915e3 2 = .ok (.getfield 48, 3) := by decide +kernel
theorem dJx4a65c_get_915e3_5 : decode cJx4a65c_get_915e3 5 = .ok (.invokestatic 118, 3) := by decide +kernel
theorem dJx4a65c_get_915e3_8 : decode cJx4a65c_get_915e3 8 = .ok (.pop, 1) := by decide +kernel
theorem dJx4a65c_get_915e3_9 : decode cJx4a65c_get_915e3 9 = .ok (.aload_n 0, 1) := by decide +kernel
theorem dJx4a65c_get_915e3_10 : decode cJx4a65c_get_915e3 10 = .ok (.iload_n 1, 1) := by decide +kernel
theorem dJx4a65c_get_915e3_11 : decode cJx4a65c_get_915e3 11 = .ok (.invokevirtual 123, 3) := by decide +kernel
theorem dJx4a65c_get_915e3_14 : decode cJx4a65c_get_915e3 14 = .ok (.areturn, 1) := by decide +kernel
theorem dJ8_newLength_cabcc_0 : decode cJ8_newLength_cabcc 0 = .ok (.iload_n 0, 1) := by decide +kernel
theorem dJ8_newLength_cabcc_1 : decode cJ8_newLength_cabcc 1 = .ok (.iload_n 1, 1) := by decide +kernel
theorem dJ8_newLength_cabcc_2 : decode cJ8_newLength_cabcc 2 = .ok (.iload_n 2, 1) := by decide +kernel
theorem dJ8_newLength_cabcc_3 : decode cJ8_newLength_cabcc 3 = .ok (.invokestatic 194, 3) := by decide +kernel
theorem dJ8_newLength_cabcc_6 : decode cJ8_newLength_cabcc 6 = .ok (.iadd, 1) := by decide +kernel
theorem dJ8_newLength_cabcc_7 : decode cJ8_newLength_cabcc 7 = .ok (.istore_n 3, 1) := by decide +kernel
theorem dJ8_newLength_cabcc_8 : decode cJ8_newLength_cabcc 8 = .ok (.iconst 0, 1) := by decide +kernel
theorem dJ8_newLength_cabcc_9 : decode cJ8_newLength_cabcc 9 = .ok (.iload_n 3, 1) := by decide +kernel
theorem dJ8_newLength_cabcc_10 : decode cJ8_newLength_cabcc 10 = .ok (.if_icmp .ge 11, 3) := by decide +kernel
theorem dJ8_newLength_cabcc_13 : decode cJ8_newLength_cabcc 13 = .ok (.iload_n 3, 1) := by decide +kernel
theorem dJ8_newLength_cabcc_14 : decode cJ8_newLength_cabcc 14 = .ok (.ldc 200, 2) := by decide +kernel
theorem dJ8_newLength_cabcc_16 : decode cJ8_newLength_cabcc 16 = .ok (.if_icmp .gt 5, 3) := by decide +kernel
theorem dJ8_newLength_cabcc_19 : decode cJ8_newLength_cabcc 19 = .ok (.iload_n 3, 1) := by decide +kernel
theorem dJ8_newLength_cabcc_20 : decode cJ8_newLength_cabcc 20 = .ok (.ireturn, 1) := by decide +kernel
theorem dJ8_newLength_cabcc_21 : decode cJ8_newLength_cabcc 21 = .ok (.iload_n 0, 1) := by decide +kernel
theorem dJ8_newLength_cabcc_22 : decode cJ8_newLength_cabcc 22 = .ok (.iload_n 1, 1) := by decide +kernel
theorem dJx4a65c_grow_92f84_0 : decode cJx4a65c_grow_92f84 0 = .ok (.aload_n 0, 1) := by decide +kernel
theorem dJx4a65c_grow_92f84_1 : decode cJx4a65c_grow_92f84 1 = .ok (.getfield 9, 3) := by decide +kernel
theorem dJx4a65c_grow_92f84_4 : decode cJx4a65c_grow_92f84 4 = .ok (.arraylength, 1) := by decide +kernel
theorem dJx4a65c_grow_92f84_5 : decode cJx4a65c_grow_92f84 5 = .ok (.istore_n 2, 1) := by decide +kernel
theorem dJx4a65c_grow_92f84_6 : decode cJx4a65c_grow_92f84 6 = .ok (.iload_n 2, 1) := by decide +kernel
theorem dJx4a65c_grow_92f84_7 : decode cJx4a65c_grow_92f84 7 = .ok (.ifCond .gt 13, 3) := by decide +kernel
theorem dJx4a65c_grow_92f84_10 : decode cJx4a65c_grow_92f84 10 = .ok (.aload_n 0, 1) := by decide +kernel
theorem dJx4a65c_grow_92f84_11 : decode cJx4a65c_grow_92f84 11 = .ok (.getfield 9, 3) := by decide +kernel
theorem dJx4a65c_grow_92f84_14 : decode cJx4a65c_grow_92f84 14 = .ok (.getstatic 39, 3) := by decide +kernel
theorem dJx4a65c_grow_92f84_17 : decode cJx4a65c_grow_92f84 17 = .ok (.if_acmp .eq 28, 3) := by decide +kernel
theorem dJx4a65c_grow_92f84_20 : decode cJx4a65c_grow_92f84 20 = .ok (.iload_n 2, 1) := by decide +kernel
theorem dJx4a65c_grow_92f84_21 : decode cJx4a65c_grow_92f84 21 = .ok (.iload_n 1, 1) := by decide +kernel
theorem dJx4a65c_grow_92f84_22 : decode cJx4a65c_grow_92f84 22 = .ok (.iload_n 2, 1) := by decide +kernel
theorem dJx4a65c_grow_92f84_23 : decode cJx4a65c_grow_92f84 23 = .ok (.isub, 1) := by decide +kernel
theorem dJx4a65c_grow_92f84_24 : decode cJx4a65c_grow_92f84 24 = .ok (.iload_n 2, 1) := by decide +kernel
theorem dJx4a65c_grow_92f84_25 : decode cJx4a65c_grow_92f84 25 = .ok (.iconst 1, 1) := by decide +kernel
theorem dJx4a65c_grow_92f84_26 : decode cJx4a65c_grow_92f84 26 = .ok (.ishr, 1) := by decide +kernel
theorem dJx4a65c_grow_92f84_27 : decode cJx4a65c_grow_92f84 27 = .ok (.invokestatic 73, 3) := by decide +kernel
theorem dJx4a65c_grow_92f84_30 : decode cJx4a65c_grow_92f84 30 = .ok (.istore_n 3, 1) := by decide +kernel
theorem dJx4a65c_grow_92f84_31 : decode cJx4a65c_grow_92f84 31 = .ok (.aload_n 0, 1) := by decide +kernel
theorem dJx4a65c_grow_92f84_32 : decode cJx4a65c_grow_92f84 32 = .ok (.aload_n 0, 1) := by decide +kernel
theorem dJx4a65c_grow_92f84_33 : decode cJx4a65c_grow_92f84 33 = .ok (.getfield 9, 3) := by decide +kernel
theorem dJx4a65c_grow_92f84_36 : decode cJx4a65c_grow_92f84 36 = .ok (.iload_n 3, 1) := by decide +kernel
theorem dJx4a65c_grow_92f84_45 : decode cJx4a65c_grow_92f84 45 = .ok (.aload_n 0, 1) := by decide +kernel
theorem dJx4a65c_grow_92f84_46 : decode cJx4a65c_grow_92f84 46 = .ok (.bipush 10, 2) := by decide +kernel
theorem dJx4a65c_grow_92f84_48 : decode cJx4a65c_grow_92f84 48 = .ok (.iload_n 1, 1) := by decide +kernel
theorem dJx4a65c_grow_92f84_49 : decode cJx4a65c_grow_92f84 49 = .ok (.invokestatic 79, 3) := by decide +kernel
theorem dJx4a65c_grow_92f84_52 : decode cJx4a65c_grow_92f84 52 = .ok (.anewarray 7, 3) := by decide +kernel
theorem dJx4a65c_grow_92f84_55 : decode cJx4a65c_grow_92f84 55 = .ok (.dup_x1, 1) := by decide +kernel
theorem dJx4a65c_grow_92f84_56 : decode cJx4a65c_grow_92f84 56 = .ok (.putfield 9, 3) := by decide +kernel
theorem dJx4a65c_grow_92f84_59 : decode cJx4a65c_grow_92f84 59 = .ok (.areturn, 1) := by decide +kernel
theorem dJx4a65c_grow_d5877_0 : decode cJx4a65c_grow_d5877 0 = .ok (.aload_n 0, 1) := by decide +kernel
theorem dJx4a65c_grow_d5877_1 : decode cJx4a65c_grow_d5877 1 = .ok (.aload_n 0, 1) := by decide +kernel
theorem dJx4a65c_grow_d5877_2 : decode cJx4a65c_grow_d5877 2 = .ok (.getfield 48, 3) := by decide +kernel
theorem dJx4a65c_grow_d5877_5 : decode cJx4a65c_grow_d5877 5 = .ok (.iconst 1, 1) := by decide +kernel
theorem dJx4a65c_grow_d5877_6 : decode cJx4a65c_grow_d5877 6 = .ok (.iadd, 1) := by decide +kernel
theorem dJx4a65c_grow_d5877_7 : decode cJx4a65c_grow_d5877 7 = .ok (.invokevirtual 69, 3) := by decide +kernel
theorem dJx4a65c_grow_d5877_10 : decode cJx4a65c_grow_d5877 10 = .ok (.areturn, 1) := by decide +kernel
theorem dJx4a65c_add_72be8_0 : decode cJx4a65c_add_72be8 0 = .ok (.iload_n 3, 1) := by decide +kernel
theorem dJx4a65c_add_72be8_1 : decode cJx4a65c_add_72be8 1 = .ok (.aload_n 2, 1) := by decide +kernel
theorem dJx4a65c_add_72be8_2 : decode cJx4a65c_add_72be8 2 = .ok (.arraylength, 1) := by decide +kernel
theorem dJx4a65c_add_72be8_3 : decode cJx4a65c_add_72be8 3 = .ok (.if_icmp .ne 8, 3) := by decide +kernel
theorem dJx4a65c_add_72be8_6 : decode cJx4a65c_add_72be8 6 = .ok (.aload_n 0, 1) := by decide +kernel
theorem dJx4a65c_add_72be8_7 : decode cJx4a65c_add_72be8 7 = .ok (.invokevirtual 129, 3) := by decide +kernel
theorem dJx4a65c_add_72be8_10 : decode cJx4a65c_add_72be8 10 = .ok (.astore_n 2, 1) := by decide +kernel
theorem dJx4a65c_add_72be8_11 : decode cJx4a65c_add_72be8 11 = .ok (.aload_n 2, 1) := by decide +kernel
theorem dJx4a65c_add_72be8_12 : decode cJx4a65c_add_72be8 12 = .ok (.iload_n 3, 1) := by decide +kernel
theorem dJx4a65c_add_72be8_13 : decode cJx4a65c_add_72be8 13 = .ok (.aload_n 1, 1) := by decide +kernel
theorem dJx4a65c_add_72be8_14 : decode cJx4a65c_add_72be8 14 = .ok (.aastore, 1) := by decide +kernel
theorem dJx4a65c_add_72be8_15 : decode cJx4a65c_add_72be8 15 = .ok (.aload_n 0, 1) := by decide +kernel
theorem dJx4a65c_add_72be8_16 : decode cJx4a65c_add_72be8 16 = .ok (.iload_n 3, 1) := by decide +kernel
theorem dJx4a65c_add_72be8_17 : decode cJx4a65c_add_72be8 17 = .ok (.iconst 1, 1) := by decide +kernel
theorem dJx4a65c_add_72be8_18 : decode cJx4a65c_add_72be8 18 = .ok (.iadd, 1) := by decide +kernel
theorem dJx4a65c_add_72be8_19 : decode cJx4a65c_add_72be8 19 = .ok (.putfield 48, 3) := by decide +kernel
theorem dJx4a65c_add_72be8_22 : decode cJx4a65c_add_72be8 22 = .ok (.return_, 1) := by decide +kernel
theorem dJx4a65c_add_9ea2d_0 : decode cJx4a65c_add_9ea2d 0 = .ok (.aload_n 0, 1) := by decide +kernel
theorem dJx4a65c_add_9ea2d_1 : decode cJx4a65c_add_9ea2d 1 = .ok (.dup, 1) := by decide +kernel
theorem dJx4a65c_add_9ea2d_2 : decode cJx4a65c_add_9ea2d 2 = .ok (.getfield 63, 3) := by decide +kernel
theorem dJx4a65c_add_9ea2d_5 : decode cJx4a65c_add_9ea2d 5 = .ok (.iconst 1, 1) := by decide +kernel
theorem dJx4a65c_add_9ea2d_6 : decode cJx4a65c_add_9ea2d 6 = .ok (.iadd, 1) := by decide +kernel
theorem dJx4a65c_add_9ea2d_7 : decode cJx4a65c_add_9ea2d 7 = .ok (.putfield 63, 3) := by decide +kernel
theorem dJx4a65c_add_9ea2d_10 : decode cJx4a65c_add_9ea2d 10 = .ok (.aload_n 0, 1) := by decide +kernel
theorem dJx4a65c_add_9ea2d_11 : decode cJx4a65c_add_9ea2d 11 = .ok (.aload_n 1, 1) := by decide +kernel
theorem dJx4a65c_add_9ea2d_12 : decode cJx4a65c_add_9ea2d 12 = .ok (.aload_n 0, 1) := by decide +kernel
theorem dJx4a65c_add_9ea2d_13 : decode cJx4a65c_add_9ea2d 13 = .ok (.getfield 9, 3) := by decide +kernel
theorem dJx4a65c_add_9ea2d_16 : decode cJx4a65c_add_9ea2d 16 = .ok (.aload_n 0, 1) := by decide +kernel
theorem dJx4a65c_add_9ea2d_17 : decode cJx4a65c_add_9ea2d 17 = .ok (.getfield 48, 3) := by decide +kernel
theorem dJx4a65c_add_9ea2d_20 : decode cJx4a65c_add_9ea2d 20 = .ok (.invokevirtual 131, 3) := by decide +kernel
theorem dJx4a65c_add_9ea2d_23 : decode cJx4a65c_add_9ea2d 23 = .ok (.iconst 1, 1) := by decide +kernel
theorem dJx4a65c_add_9ea2d_24 : decode cJx4a65c_add_9ea2d 24 = .ok (.ireturn, 1) := by decide +kernel
theorem dJ7_copyOf_59c91_0 : decode cJ7_copyOf_59c91 0 = .ok (.iload_n 1, 1) := by decide +kernel
theorem dJ7_copyOf_59c91_1 : decode cJ7_copyOf_59c91 1 = .ok (.aload_n 0, 1) := by decide +kernel
theorem dJ7_copyOf_59c91_2 : decode cJ7_copyOf_59c91 2 = .ok (.arraylength, 1) := by decide +kernel
theorem dJ7_copyOf_59c91_3 : decode cJ7_copyOf_59c91 3 = .ok (.if_icmp .ne 11, 3) := by decide +kernel
theorem dJ7_copyOf_59c91_6 : decode cJ7_copyOf_59c91 6 = .ok (.aload_n 0, 1) := by decide +kernel
theorem dJ7_copyOf_59c91_14 : decode cJ7_copyOf_59c91 14 = .ok (.iload_n 1, 1) := by decide +kernel
theorem dJ7_copyOf_59c91_15 : decode cJ7_copyOf_59c91 15 = .ok (.newarray .int, 2) := by decide +kernel
theorem dJ7_copyOf_59c91_17 : decode cJ7_copyOf_59c91 17 = .ok (.astore_n 2, 1) := by decide +kernel
theorem dJ7_copyOf_59c91_18 : decode cJ7_copyOf_59c91 18 = .ok (.aload_n 0, 1) := by decide +kernel
theorem dJ7_copyOf_59c91_19 : decode cJ7_copyOf_59c91 19 = .ok (.iconst 0, 1) := by decide +kernel
theorem dJ7_copyOf_59c91_20 : decode cJ7_copyOf_59c91 20 = .ok (.aload_n 2, 1) := by decide +kernel
theorem dJ7_copyOf_59c91_21 : decode cJ7_copyOf_59c91 21 = .ok (.iconst 0, 1) := by decide +kernel
theorem dJ7_copyOf_59c91_22 : decode cJ7_copyOf_59c91 22 = .ok (.aload_n 0, 1) := by decide +kernel
theorem dJ7_copyOf_59c91_23 : decode cJ7_copyOf_59c91 23 = .ok (.arraylength, 1) := by decide +kernel
theorem dJ7_copyOf_59c91_24 : decode cJ7_copyOf_59c91 24 = .ok (.iload_n 1, 1) := by decide +kernel
theorem dJ7_copyOf_59c91_25 : decode cJ7_copyOf_59c91 25 = .ok (.invokestatic 304, 3) := by decide +kernel
theorem dJ7_copyOf_59c91_28 : decode cJ7_copyOf_59c91 28 = .ok (.invokestatic 150, 3) := by decide +kernel
theorem dJ7_copyOf_59c91_31 : decode cJ7_copyOf_59c91 31 = .ok (.aload_n 2, 1) := by decide +kernel
theorem dJ7_copyOf_59c91_32 : decode cJ7_copyOf_59c91 32 = .ok (.areturn, 1) := by decide +kernel
theorem dJ5_newCapacity_0f7a4_0 : decode cJ5_newCapacity_0f7a4 0 = .ok (.aload_n 0, 1) := by decide +kernel
theorem dJ5_newCapacity_0f7a4_1 : decode cJ5_newCapacity_0f7a4 1 = .ok (.getfield 15, 3) := by decide +kernel
theorem dJ5_newCapacity_0f7a4_4 : decode cJ5_newCapacity_0f7a4 4 = .ok (.arraylength, 1) := by decide +kernel
theorem dJ5_newCapacity_0f7a4_5 : decode cJ5_newCapacity_0f7a4 5 = .ok (.istore_n 2, 1) := by decide +kernel
theorem dJ5_newCapacity_0f7a4_6 : decode cJ5_newCapacity_0f7a4 6 = .ok (.iload_n 1, 1) := by decide +kernel
theorem dJ5_newCapacity_0f7a4_7 : decode cJ5_newCapacity_0f7a4 7 = .ok (.aload_n 0, 1) := by decide +kernel
theorem dJ5_newCapacity_0f7a4_8 : decode cJ5_newCapacity_0f7a4 8 = .ok (.getfield 22, 3) := by decide +kernel
theorem dJ5_newCapacity_0f7a4_11 : decode cJ5_newCapacity_0f7a4 11 = .ok (.ishl, 1) := by decide +kernel
theorem dJ5_newCapacity_0f7a4_12 : decode cJ5_newCapacity_0f7a4 12 = .ok (.istore_n 3, 1) := by decide +kernel
theorem dJ5_newCapacity_0f7a4_13 : decode cJ5_newCapacity_0f7a4 13 = .ok (.iload_n 3, 1) := by decide +kernel
theorem dJ5_newCapacity_0f7a4_14 : decode cJ5_newCapacity_0f7a4 14 = .ok (.iload_n 2, 1) := by decide +kernel
theorem dJ5_newCapacity_0f7a4_15 : decode cJ5_newCapacity_0f7a4 15 = .ok (.isub, 1) := by decide +kernel
theorem dJ5_newCapacity_0f7a4_16 : decode cJ5_newCapacity_0f7a4 16 = .ok (.istore 4, 2) := by decide +kernel
theorem dJ5_newCapacity_0f7a4_18 : decode cJ5_newCapacity_0f7a4 18 = .ok (.iload_n 2, 1) := by decide +kernel
theorem dJ5_newCapacity_0f7a4_19 : decode cJ5_newCapacity_0f7a4 19 = .ok (.iload 4, 2) := by decide +kernel
theorem dJ5_newCapacity_0f7a4_21 : decode cJ5_newCapacity_0f7a4 21 = .ok (.iload_n 2, 1) := by decide +kernel
theorem dJ5_newCapacity_0f7a4_22 : decode cJ5_newCapacity_0f7a4 22 = .ok (.iconst 2, 1) := by decide +kernel
theorem dJ5_newCapacity_0f7a4_23 : decode cJ5_newCapacity_0f7a4 23 = .ok (.aload_n 0, 1) := by decide +kernel
theorem dJ5_newCapacity_0f7a4_24 : decode cJ5_newCapacity_0f7a4 24 = .ok (.getfield 22, 3) := by decide +kernel
theorem dJ5_newCapacity_0f7a4_27 : decode cJ5_newCapacity_0f7a4 27 = .ok (.ishl, 1) := by decide +kernel
theorem dJ5_newCapacity_0f7a4_28 : decode cJ5_newCapacity_0f7a4 28 = .ok (.iadd, 1) := by decide +kernel
theorem dJ5_newCapacity_0f7a4_29 : decode cJ5_newCapacity_0f7a4 29 = .ok (.invokestatic 114, 3) := by decide +kernel
theorem dJ5_newCapacity_0f7a4_32 : decode cJ5_newCapacity_0f7a4 32 = .ok (.istore 5, 2) := by decide +kernel
theorem dJ5_newCapacity_0f7a4_34 : decode cJ5_newCapacity_0f7a4 34 = .ok (.iload 5, 2) := by decide +kernel
theorem dJ5_newCapacity_0f7a4_36 : decode cJ5_newCapacity_0f7a4 36 = .ok (.ldc 39, 2) := by decide +kernel
theorem dJ5_newCapacity_0f7a4_38 : decode cJ5_newCapacity_0f7a4 38 = .ok (.if_icmp .ne 13, 3) := by decide +kernel
theorem dJ5_newCapacity_0f7a4_51 : decode cJ5_newCapacity_0f7a4 51 = .ok (.iload 5, 2) := by decide +kernel
theorem dJ5_newCapacity_0f7a4_53 : decode cJ5_newCapacity_0f7a4 53 = .ok (.aload_n 0, 1) := by decide +kernel
theorem dJ5_newCapacity_0f7a4_54 : decode cJ5_newCapacity_0f7a4 54 = .ok (.getfield 22, 3) := by decide +kernel
theorem dJ5_newCapacity_0f7a4_57 : decode cJ5_newCapacity_0f7a4 57 = .ok (.ishr, 1) := by decide +kernel
theorem dJ5_newCapacity_0f7a4_58 : decode cJ5_newCapacity_0f7a4 58 = .ok (.ireturn, 1) := by decide +kernel
theorem dJ7_copyOf_9075b_0 : decode cJ7_copyOf_9075b 0 = .ok (.iload_n 1, 1) := by decide +kernel
theorem dJ7_copyOf_9075b_1 : decode cJ7_copyOf_9075b 1 = .ok (.aload_n 0, 1) := by decide +kernel
theorem dJ7_copyOf_9075b_2 : decode cJ7_copyOf_9075b 2 = .ok (.arraylength, 1) := by decide +kernel
theorem dJ7_copyOf_9075b_3 : decode cJ7_copyOf_9075b 3 = .ok (.if_icmp .ne 11, 3) := by decide +kernel
theorem dJ7_copyOf_9075b_6 : decode cJ7_copyOf_9075b 6 = .ok (.aload_n 0, 1) := by decide +kernel
theorem dJ7_copyOf_9075b_7 : decode cJ7_copyOf_9075b 7 = .ok (.invokevirtual 310, 3) := by decide +kernel
theorem dJ7_copyOf_9075b_10 : decode cJ7_copyOf_9075b 10 = .ok (.checkcast 311, 3) := by decide +kernel
theorem dJ7_copyOf_9075b_13 : decode cJ7_copyOf_9075b 13 = .ok (.areturn, 1) := by decide +kernel
theorem dJ7_copyOf_9075b_14 : decode cJ7_copyOf_9075b 14 = .ok (.iload_n 1, 1) := by decide +kernel
theorem dJ7_copyOf_9075b_15 : decode cJ7_copyOf_9075b 15 = .ok (.newarray .byte, 2) := by decide +kernel
theorem dJ7_copyOf_9075b_17 : decode cJ7_copyOf_9075b 17 = .ok (.astore_n 2, 1) := by decide +kernel
theorem dJ7_copyOf_9075b_18 : decode cJ7_copyOf_9075b 18 = .ok (.aload_n 0, 1) := by decide +kernel
theorem dJ7_copyOf_9075b_19 : decode cJ7_copyOf_9075b 19 = .ok (.iconst 0, 1) := by decide +kernel
theorem dJ7_copyOf_9075b_20 : decode cJ7_copyOf_9075b 20 = .ok (.aload_n 2, 1) := by decide +kernel
theorem dJ7_copyOf_9075b_21 : decode cJ7_copyOf_9075b 21 = .ok (.iconst 0, 1) := by decide +kernel
theorem dJ7_copyOf_9075b_22 : decode cJ7_copyOf_9075b 22 = .ok (.aload_n 0, 1) := by decide +kernel
theorem dJ7_copyOf_9075b_23 : decode cJ7_copyOf_9075b 23 = .ok (.arraylength, 1) := by decide +kernel
theorem dJ7_copyOf_9075b_24 : decode cJ7_copyOf_9075b 24 = .ok (.iload_n 1, 1) := by decide +kernel
theorem dJ7_copyOf_9075b_25 : decode cJ7_copyOf_9075b 25 = .ok (.invokestatic 304, 3) := by decide +kernel
theorem dJ7_copyOf_9075b_28 : decode cJ7_copyOf_9075b 28 = .ok (.invokestatic 150, 3) := by decide +kernel
theorem dJ7_copyOf_9075b_31 : decode cJ7_copyOf_9075b 31 = .ok (.aload_n 2, 1) := by decide +kernel
theorem dJ7_copyOf_9075b_32 : decode cJ7_copyOf_9075b 32 = .ok (.areturn, 1) := by decide +kernel
theorem dJ5_ensureCapacityInternal_d00df_0 : decode cJ5_ensureCapacityInternal_d00df 0 = .ok (.aload_n 0, 1) := by decide +kernel
theorem dJ5_ensureCapacityInternal_d00df_1 : decode cJ5_ensureCapacityInternal_d00df 1 = .ok (.getfield 15, 3) := by decide +kernel
theorem dJ5_ensureCapacityInternal_d00df_4 : decode cJ5_ensureCapacityInternal_d00df 4 = .ok (.arraylength, 1) := by decide +kernel
theorem dJ5_ensureCapacityInternal_d00df_5 : decode cJ5_ensureCapacityInternal_d00df 5 = .ok (.aload_n 0, 1) := by decide +kernel
theorem dJ5_ensureCapacityInternal_d00df_6 : decode cJ5_ensureCapacityInternal_d00df 6 = .ok (.getfield 22, 3) := by decide +kernel
theorem dJ5_ensureCapacityInternal_d00df_9 : decode cJ5_ensureCapacityInternal_d00df 9 = .ok (.ishr, 1) := by decide +kernel
theorem dJ5_ensureCapacityInternal_d00df_10 : decode cJ5_ensureCapacityInternal_d00df 10 = .ok (.istore_n 2, 1) := by decide +kernel
theorem dJ5_ensureCapacityInternal_d00df_11 : decode cJ5_ensureCapacityInternal_d00df 11 = .ok (.iload_n 1, 1) := by decide +kernel
theorem dJ5_ensureCapacityInternal_d00df_12 : decode cJ5_ensureCapacityInternal_d00df 12 = .ok (.iload_n 2, 1) := by decide +kernel
theorem dJ5_ensureCapacityInternal_d00df_13 : decode cJ5_ensureCapacityInternal_d00df 13 = .ok (.isub, 1) := by decide +kernel
theorem dJ5_ensureCapacityInternal_d00df_14 : decode cJ5_ensureCapacityInternal_d00df 14 = .ok (.ifCond .le 24, 3) := by decide +kernel
theorem dJ5_ensureCapacityInternal_d00df_17 : decode cJ5_ensureCapacityInternal_d00df 17 = .ok (.aload_n 0, 1) := by decide +kernel
theorem dJ5_ensureCapacityInternal_d00df_18 : decode cJ5_ensureCapacityInternal_d00df 18 = .ok (.aload_n 0, 1) := by decide +kernel
theorem dJ5_ensureCapacityInternal_d00df_19 : decode cJ5_ensureCapacityInternal_d00df 19 = .ok (.getfield 15, 3) := by decide +kernel
theorem dJ5_ensureCapacityInternal_d00df_22 : decode cJ5_ensureCapacityInternal_d00df 22 = .ok (.aload_n 0, 1) := by decide +kernel
theorem dJ5_ensureCapacityInternal_d00df_23 : decode cJ5_ensureCapacityInternal_d00df 23 = .ok (.iload_n 1, 1) := by decide +kernel
theorem dJ5_ensureCapacityInternal_d00df_24 : decode cJ5_ensureCapacityInternal_d00df 24 = .ok (.invokevirtual 104, 3) := by decide +kernel
theorem dJ5_ensureCapacityInternal_d00df_27 : decode cJ5_ensureCapacityInternal_d00df 27 = .ok (.aload_n 0, 1) := by decide +kernel
theorem dJ5_ensureCapacityInternal_d00df_28 : decode cJ5_ensureCapacityInternal_d00df 28 = .ok (.getfield 22, 3) := by decide +kernel
theorem dJ5_ensureCapacityInternal_d00df_31 : decode cJ5_ensureCapacityInternal_d00df 31 = .ok (.ishl, 1) := by decide +kernel
theorem dJ5_ensureCapacityInternal_d00df_32 : decode cJ5_ensureCapacityInternal_d00df 32 = .ok (.invokestatic 108, 3) := by decide +kernel
theorem dJ5_ensureCapacityInternal_d00df_35 : decode cJ5_ensureCapacityInternal_d00df 35 = .ok (.putfield 15, 3) := by decide +kernel
theorem dJ5_ensureCapacityInternal_d00df_38 : decode cJ5_ensureCapacityInternal_d00df 38 = .ok (.return_, 1) := by decide +kernel
theorem dJ5_isLatin1_aae02_0 : decode cJ5_isLatin1_aae02 0 = .ok (.getstatic 18, 3) := by decide +kernel
theorem dJ5_isLatin1_aae02_3 : decode cJ5_isLatin1_aae02 3 = .ok (.ifCond .eq 14, 3) := by decide +kernel
theorem dJ5_isLatin1_aae02_6 : decode cJ5_isLatin1_aae02 6 = .ok (.aload_n 0, 1) := by decide +kernel
theorem dJ5_isLatin1_aae02_7 : decode cJ5_isLatin1_aae02 7 = .ok (.getfield 22, 3) := by decide +kernel
theorem dJ5_isLatin1_aae02_10 : decode cJ5_isLatin1_aae02 10 = .ok (.ifCond .ne 7, 3) := by decide +kernel
theorem dJ5_isLatin1_aae02_13 : decode cJ5_isLatin1_aae02 13 = .ok (.iconst 1, 1) := by decide +kernel
theorem dJ5_isLatin1_aae02_14 : decode cJ5_isLatin1_aae02 14 = .ok (.goto 4, 3) := by decide +kernel
theorem dJ5_isLatin1_aae02_17 : decode cJ5_isLatin1_aae02 17 = .ok (.iconst 0, 1) := by decide +kernel
theorem dJ5_isLatin1_aae02_18 : decode cJ5_isLatin1_aae02 18 = .ok (.ireturn, 1) := by decide +kernel
theorem dJ1_canEncode_fc78d_0 : decode cJ1_canEncode_fc78d 0 = .ok (.iload_n 0, 1) := by decide +kernel
theorem dJ1_canEncode_fc78d_1 : decode cJ1_canEncode_fc78d 1 = .ok (.sipush 255, 3) := by decide +kernel
theorem dJ1_canEncode_fc78d_4 : decode cJ1_canEncode_fc78d 4 = .ok (.if_icmp .gt 7, 3) := by decide +kernel
theorem dJ1_canEncode_fc78d_7 : decode cJ1_canEncode_fc78d 7 = .ok (.iconst 1, 1) := by decide +kernel
theorem dJ1_canEncode_fc78d_8 : decode cJ1_canEncode_fc78d 8 = .ok (.goto 4, 3) := by decide +kernel
theorem dJ1_canEncode_fc78d_11 : decode cJ1_canEncode_fc78d 11 = .ok (.iconst 0, 1) := by decide +kernel
theorem dJ1_canEncode_fc78d_12 : decode cJ1_canEncode_fc78d 12 = .ok (.ireturn, 1) := by decide +kernel
theorem dJ5_append_3fe6f_0 : decode cJ5_append_3fe6f 0 = .ok (.aload_n 0, 1) := by decide +kernel
theorem dJ5_append_3fe6f_1 : decode cJ5_append_3fe6f 1 = .ok (.aload_n 0, 1) := by decide +kernel
theorem dJ5_append_3fe6f_2 : decode cJ5_append_3fe6f 2 = .ok (.getfield 79, 3) := by decide +kernel
theorem dJ5_append_3fe6f_5 : decode cJ5_append_3fe6f 5 = .ok (.iconst 1, 1) := by decide +kernel
theorem dJ5_append_3fe6f_6 : decode cJ5_append_3fe6f 6 = .ok (.iadd, 1) := by decide +kernel
theorem dJ5_append_3fe6f_7 : decode cJ5_append_3fe6f 7 = .ok (.invokevirtual 100, 3) := by decide +kernel
theorem dJ5_append_3fe6f_10 : decode cJ5_append_3fe6f 10 = .ok (.aload_n 0, 1) := by decide +kernel
theorem dJ5_append_3fe6f_11 : decode cJ5_append_3fe6f 11 = .ok (.invokevirtual 83, 3) := by decide +kernel
theorem dJ5_append_3fe6f_14 : decode cJ5_append_3fe6f 14 = .ok (.ifCond .eq 31, 3) := by decide +kernel
theorem dJ5_append_3fe6f_17 : decode cJ5_append_3fe6f 17 = .ok (.iload_n 1, 1) := by decide +kernel
theorem dJ5_append_3fe6f_18 : decode cJ5_append_3fe6f 18 = .ok (.invokestatic 191, 3) := by decide +kernel
theorem dJ5_append_3fe6f_21 : decode cJ5_append_3fe6f 21 = .ok (.ifCond .eq 24, 3) := by decide +kernel
theorem dJ5_append_3fe6f_24 : decode cJ5_append_3fe6f 24 = .ok (.aload_n 0, 1) := by decide +kernel
theorem dJ5_append_3fe6f_25 : decode cJ5_append_3fe6f 25 = .ok (.getfield 15, 3) := by decide +kernel
theorem dJ5_append_3fe6f_28 : decode cJ5_append_3fe6f 28 = .ok (.aload_n 0, 1) := by decide +kernel
theorem dJ5_append_3fe6f_29 : decode cJ5_append_3fe6f 29 = .ok (.dup, 1) := by decide +kernel
theorem dJ5_append_3fe6f_30 : decode cJ5_append_3fe6f 30 = .ok (.getfield 79, 3) := by decide +kernel
theorem dJ5_append_3fe6f_33 : decode cJ5_append_3fe6f 33 = .ok (.dup_x1, 1) := by decide +kernel
theorem dJ5_append_3fe6f_34 : decode cJ5_append_3fe6f 34 = .ok (.iconst 1, 1) := by decide +kernel
theorem dJ5_append_3fe6f_35 : decode cJ5_append_3fe6f 35 = .ok (.iadd, 1) := by decide +kernel
theorem dJ5_append_3fe6f_36 : decode cJ5_append_3fe6f 36 = .ok (.putfield 79, 3) := by decide +kernel
theorem dJ5_append_3fe6f_39 : decode cJ5_append_3fe6f 39 = .ok (.iload_n 1, 1) := by decide +kernel
theorem dJ5_append_3fe6f_40 : decode cJ5_append_3fe6f 40 = .ok (.i2b, 1) := by decide +kernel
theorem dJ5_append_3fe6f_41 : decode cJ5_append_3fe6f 41 = .ok (.bastore, 1) := by decide +kernel
theorem dJ5_append_3fe6f_42 : decode cJ5_append_3fe6f 42 = .ok (.goto 33, 3) := by decide +kernel
theorem dJ5_append_3fe6f_45 : decode cJ5_append_3fe6f 45 = .ok (.aload_n 0, 1) := by decide +kernel
theorem dJ5_append_3fe6f_46 : decode cJ5_append_3fe6f 46 = .ok (.invokevirtual 83, 3) := by decide +kernel
theorem dJ5_append_3fe6f_49 : decode cJ5_append_3fe6f 49 = .ok (.ifCond .eq 7, 3) := by decide +kernel
theorem dJ5_append_3fe6f_52 : decode cJ5_append_3fe6f 52 = .ok (.aload_n 0, 1) := by decide +kernel
theorem dJ5_append_3fe6f_56 : decode cJ5_append_3fe6f 56 = .ok (.aload_n 0, 1) := by decide +kernel
theorem dJ5_append_3fe6f_57 : decode cJ5_append_3fe6f 57 = .ok (.getfield 15, 3) := by decide +kernel
theorem dJ5_append_3fe6f_60 : decode cJ5_append_3fe6f 60 = .ok (.aload_n 0, 1) := by decide +kernel
theorem dJ5_append_3fe6f_61 : decode cJ5_append_3fe6f 61 = .ok (.dup, 1) := by decide +kernel
theorem dJ5_append_3fe6f_62 : decode cJ5_append_3fe6f 62 = .ok (.getfield 79, 3) := by decide +kernel
theorem dJ5_append_3fe6f_65 : decode cJ5_append_3fe6f 65 = .ok (.dup_x1, 1) := by decide +kernel
theorem dJ5_append_3fe6f_66 : decode cJ5_append_3fe6f 66 = .ok (.iconst 1, 1) := by decide +kernel
theorem dJ5_append_3fe6f_67 : decode cJ5_append_3fe6f 67 = .ok (.iadd, 1) := by decide +kernel
theorem dJ5_append_3fe6f_68 : decode cJ5_append_3fe6f 68 = .ok (.putfield 79, 3) := by decide +kernel
theorem dJ5_append_3fe6f_71 : decode cJ5_append_3fe6f 71 = .ok (.iload_n 1, 1) := by decide +kernel
theorem dJ5_append_3fe6f_75 : decode cJ5_append_3fe6f 75 = .ok (.aload_n 0, 1) := by decide +kernel
theorem dJ5_append_3fe6f_76 : decode cJ5_append_3fe6f 76 = .ok (.areturn, 1) := by decide +kernel
theorem dJ4_append_cf468_0 : decode cJ4_append_cf468 0 = .ok (.aload_n 0, 1) := by decide +kernel
theorem dJ4_append_cf468_1 : decode cJ4_append_cf468 1 = .ok (.iload_n 1, 1) := by decide +kernel
theorem dJ4_append_cf468_2 : decode cJ4_append_cf468 2 = .ok (.invokespecial 50, 3) := by decide +kernel
theorem dJ4_append_cf468_5 : decode cJ4_append_cf468 5 = .ok (.pop, 1) := by decide +kernel
theorem dJ4_append_cf468_6 : decode cJ4_append_cf468 6 = .ok (.aload_n 0, 1) := by decide +kernel
theorem dJ4_append_cf468_7 : decode cJ4_append_cf468 7 = .ok (.areturn, 1) := by decide +kernel
theorem dJ3_checkFromToIndex_8c36e_0 : decode cJ3_checkFromToIndex_8c36e 0 = .ok (.iload_n 0, 1) := by decide +kernel
theorem dJ3_checkFromToIndex_8c36e_1 : decode cJ3_checkFromToIndex_8c36e 1 = .ok (.ifCond .lt 13, 3) := by decide +kernel
theorem dJ3_checkFromToIndex_8c36e_4 : decode cJ3_checkFromToIndex_8c36e 4 = .ok (.iload_n 0, 1) := by decide +kernel
theorem dJ3_checkFromToIndex_8c36e_5 : decode cJ3_checkFromToIndex_8c36e 5 = .ok (.iload_n 1, 1) := by decide +kernel
theorem dJ3_checkFromToIndex_8c36e_6 : decode cJ3_checkFromToIndex_8c36e 6 = .ok (.if_icmp .gt 8, 3) := by decide +kernel
theorem dJ3_checkFromToIndex_8c36e_9 : decode cJ3_checkFromToIndex_8c36e 9 = .ok (.iload_n 1, 1) := by decide +kernel
theorem dJ3_checkFromToIndex_8c36e_10 : decode cJ3_checkFromToIndex_8c36e 10 = .ok (.iload_n 2, 1) := by decide +kernel
theorem dJ3_checkFromToIndex_8c36e_11 : decode cJ3_checkFromToIndex_8c36e 11 = .ok (.if_icmp .le 11, 3) := by decide +kernel
theorem dJ3_checkFromToIndex_8c36e_14 : decode cJ3_checkFromToIndex_8c36e 14 = .ok (.aload_n 3, 1) := by decide +kernel
theorem dJ3_checkFromToIndex_8c36e_15 : decode cJ3_checkFromToIndex_8c36e 15 = .ok (.iload_n 0, 1) := by decide +kernel
theorem dJ3_checkFromToIndex_8c36e_16 : decode cJ3_checkFromToIndex_8c36e 16 = .ok (.iload_n 1, 1) := by decide +kernel
theorem dJ3_checkFromToIndex_8c36e_17 : decode cJ3_checkFromToIndex_8c36e 17 = .ok (.iload_n 2, 1) := by decide +kernel
theorem dJ3_checkFromToIndex_8c36e_22 : decode cJ3_checkFromToIndex_8c36e 22 = .ok (.iload_n 0, 1) := by decide +kernel
theorem dJ3_checkFromToIndex_8c36e_23 : decode cJ3_checkFromToIndex_8c36e 23 = .ok (.ireturn, 1) := by decide +kernel
theorem dJ0_checkBoundsBeginEnd_23922_0 : decode cJ0_checkBoundsBeginEnd_23922 0 = .ok (.iload_n 0, 1) := by decide +kernel
theorem dJ0_checkBoundsBeginEnd_23922_1 : decode cJ0_checkBoundsBeginEnd_23922 1 = .ok (.iload_n 1, 1) := by decide +kernel
theorem dJ0_checkBoundsBeginEnd_23922_2 : decode cJ0_checkBoundsBeginEnd_23922 2 = .ok (.iload_n 2, 1) := by decide +kernel
theorem dJ0_checkBoundsBeginEnd_23922_3 : decode cJ0_checkBoundsBeginEnd_23922 3 = .ok (.getstatic 1053, 3) := by decide +kernel
theorem dJ0_checkBoundsBeginEnd_23922_6 : decode cJ0_checkBoundsBeginEnd_23922 6 = .ok (.invokestatic 1062, 3) := by decide +kernel
theorem dJ0_checkBoundsBeginEnd_23922_9 : decode cJ0_checkBoundsBeginEnd_23922 9 = .ok (.pop, 1) := by decide +kernel
theorem dJ0_checkBoundsBeginEnd_23922_10 : decode cJ0_checkBoundsBeginEnd_23922 10 = .ok (.return_, 1) := by decide +kernel
theorem dJ7_checkLength_df160_0 : decode cJ7_checkLength_df160 0 = .ok (.iload_n 1, 1) := by decide +kernel
theorem dJ7_checkLength_df160_1 : decode cJ7_checkLength_df160 1 = .ok (.iload_n 0, 1) := by decide +kernel
theorem dJ7_checkLength_df160_2 : decode cJ7_checkLength_df160 2 = .ok (.if_icmp .ge 35, 3) := by decide +kernel
theorem dJ7_checkLength_df160_37 : decode cJ7_checkLength_df160 37 = .ok (.return_, 1) := by decide +kernel
theorem dJ7_copyOfRangeByte_39247_0 : decode cJ7_copyOfRangeByte_39247 0 = .ok (.iload_n 1, 1) := by decide +kernel
theorem dJ7_copyOfRangeByte_39247_1 : decode cJ7_copyOfRangeByte_39247 1 = .ok (.iload_n 2, 1) := by decide +kernel
theorem dJ7_copyOfRangeByte_39247_2 : decode cJ7_copyOfRangeByte_39247 2 = .ok (.invokestatic 343, 3) := by decide +kernel
theorem dJ7_copyOfRangeByte_39247_5 : decode cJ7_copyOfRangeByte_39247 5 = .ok (.iload_n 2, 1) := by decide +kernel
theorem dJ7_copyOfRangeByte_39247_6 : decode cJ7_copyOfRangeByte_39247 6 = .ok (.iload_n 1, 1) := by decide +kernel
theorem dJ7_copyOfRangeByte_39247_7 : decode cJ7_copyOfRangeByte_39247 7 = .ok (.isub, 1) := by decide +kernel
theorem dJ7_copyOfRangeByte_39247_8 : decode cJ7_copyOfRangeByte_39247 8 = .ok (.istore_n 3, 1) := by decide +kernel
theorem dJ7_copyOfRangeByte_39247_9 : decode cJ7_copyOfRangeByte_39247 9 = .ok (.iload_n 3, 1) := by decide +kernel
theorem dJ7_copyOfRangeByte_39247_10 : decode cJ7_copyOfRangeByte_39247 10 = .ok (.newarray .byte, 2) := by decide +kernel
theorem dJ7_copyOfRangeByte_39247_12 : decode cJ7_copyOfRangeByte_39247 12 = .ok (.astore 4, 2) := by decide +kernel
theorem dJ7_copyOfRangeByte_39247_14 : decode cJ7_copyOfRangeByte_39247 14 = .ok (.aload_n 0, 1) := by decide +kernel
theorem dJ7_copyOfRangeByte_39247_15 : decode cJ7_copyOfRangeByte_39247 15 = .ok (.iload_n 1, 1) := by decide +kernel
theorem dJ7_copyOfRangeByte_39247_16 : decode cJ7_copyOfRangeByte_39247 16 = .ok (.aload 4, 2) := by decide +kernel
theorem dJ7_copyOfRangeByte_39247_18 : decode cJ7_copyOfRangeByte_39247 18 = .ok (.iconst 0, 1) := by decide +kernel
theorem dJ7_copyOfRangeByte_39247_19 : decode cJ7_copyOfRangeByte_39247 19 = .ok (.aload_n 0, 1) := by decide +kernel
theorem dJ7_copyOfRangeByte_39247_20 : decode cJ7_copyOfRangeByte_39247 20 = .ok (.arraylength, 1) := by decide +kernel
theorem dJ7_copyOfRangeByte_39247_21 : decode cJ7_copyOfRangeByte_39247 21 = .ok (.iload_n 1, 1) := by decide +kernel
theorem dJ7_copyOfRangeByte_39247_22 : decode cJ7_copyOfRangeByte_39247 22 = .ok (.isub, 1) := by decide +kernel
theorem dJ7_copyOfRangeByte_39247_23 : decode cJ7_copyOfRangeByte_39247 23 = .ok (.iload_n 3, 1) := by decide +kernel
theorem dJ7_copyOfRangeByte_39247_24 : decode cJ7_copyOfRangeByte_39247 24 = .ok (.invokestatic 304, 3) := by decide +kernel
theorem dJ7_copyOfRangeByte_39247_27 : decode cJ7_copyOfRangeByte_39247 27 = .ok (.invokestatic 150, 3) := by decide +kernel
theorem dJ7_copyOfRangeByte_39247_30 : decode cJ7_copyOfRangeByte_39247 30 = .ok (.aload 4, 2) := by decide +kernel
theorem dJ7_copyOfRangeByte_39247_32 : decode cJ7_copyOfRangeByte_39247 32 = .ok (.areturn, 1) := by decide +kernel
theorem dJ7_copyOfRange_39247_0 : decode cJ7_copyOfRange_39247 0 = .ok (.iload_n 1, 1) := by decide +kernel
theorem dJ7_copyOfRange_39247_1 : decode cJ7_copyOfRange_39247 1 = .ok (.ifCond .ne 9, 3) := by decide +kernel
theorem dJ7_copyOfRange_39247_4 : decode cJ7_copyOfRange_39247 4 = .ok (.iload_n 2, 1) := by decide +kernel
theorem dJ7_copyOfRange_39247_5 : decode cJ7_copyOfRange_39247 5 = .ok (.aload_n 0, 1) := by decide +kernel
theorem dJ7_copyOfRange_39247_6 : decode cJ7_copyOfRange_39247 6 = .ok (.arraylength, 1) := by decide +kernel
theorem dJ7_copyOfRange_39247_7 : decode cJ7_copyOfRange_39247 7 = .ok (.if_icmp .eq 10, 3) := by decide +kernel
theorem dJ7_copyOfRange_39247_10 : decode cJ7_copyOfRange_39247 10 = .ok (.aload_n 0, 1) := by decide +kernel
theorem dJ7_copyOfRange_39247_11 : decode cJ7_copyOfRange_39247 11 = .ok (.iload_n 1, 1) := by decide +kernel
theorem dJ7_copyOfRange_39247_12 : decode cJ7_copyOfRange_39247 12 = .ok (.iload_n 2, 1) := by decide +kernel
theorem dJ7_copyOfRange_39247_13 : decode cJ7_copyOfRange_39247 13 = .ok (.invokestatic 339, 3) := by decide +kernel
theorem dJ7_copyOfRange_39247_16 : decode cJ7_copyOfRange_39247 16 = .ok (.areturn, 1) := by decide +kernel
theorem dJ7_copyOfRange_39247_17 : decode cJ7_copyOfRange_39247 17 = .ok (.aload_n 0, 1) := by decide +kernel
theorem dJ7_copyOfRange_39247_18 : decode cJ7_copyOfRange_39247 18 = .ok (.invokevirtual 310, 3) := by decide +kernel
theorem dJ7_copyOfRange_39247_21 : decode cJ7_copyOfRange_39247 21 = .ok (.checkcast 311, 3) := by decide +kernel
theorem dJ7_copyOfRange_39247_24 : decode cJ7_copyOfRange_39247 24 = .ok (.areturn, 1) := by decide +kernel
theorem dJ0_init_031fb_0 : decode cJ0_init_031fb 0 = .ok (.aload_n 0, 1) := by decide +kernel
theorem dJ0_init_031fb_1 : decode cJ0_init_031fb 1 = .ok (.invokespecial 1, 3) := by decide +kernel
theorem dJ0_init_031fb_4 : decode cJ0_init_031fb 4 = .ok (.aload_n 0, 1) := by decide +kernel
theorem dJ0_init_031fb_5 : decode cJ0_init_031fb 5 = .ok (.aload_n 1, 1) := by decide +kernel
theorem dJ0_init_031fb_6 : decode cJ0_init_031fb 6 = .ok (.putfield 9, 3) := by decide +kernel
theorem dJ0_init_031fb_9 : decode cJ0_init_031fb 9 = .ok (.aload_n 0, 1) := by decide +kernel
theorem dJ0_init_031fb_10 : decode cJ0_init_031fb 10 = .ok (.iload_n 2, 1) := by decide +kernel
theorem dJ0_init_031fb_11 : decode cJ0_init_031fb 11 = .ok (.putfield 15, 3) := by decide +kernel
theorem dJ0_init_031fb_14 : decode cJ0_init_031fb 14 = .ok (.return_, 1) := by decide +kernel
theorem dJ1_newString_b4f7a_0 : decode cJ1_newString_b4f7a 0 = .ok (.iload_n 2, 1) := by decide +kernel
theorem dJ1_newString_b4f7a_1 : decode cJ1_newString_b4f7a 1 = .ok (.ifCond .ne 6, 3) := by decide +kernel
theorem dJ1_newString_b4f7a_4 : decode cJ1_newString_b4f7a 4 = .ok (.ldc 151, 2) := by decide +kernel
theorem dJ1_newString_b4f7a_6 : decode cJ1_newString_b4f7a 6 = .ok (.areturn, 1) := by decide +kernel
theorem dJ1_newString_b4f7a_7 : decode cJ1_newString_b4f7a 7 = .ok (.new 1, 3) := by decide +kernel
theorem dJ1_newString_b4f7a_10 : decode cJ1_newString_b4f7a 10 = .ok (.dup, 1) := by decide +kernel
theorem dJ1_newString_b4f7a_11 : decode cJ1_newString_b4f7a 11 = .ok (.aload_n 0, 1) := by decide +kernel
theorem dJ1_newString_b4f7a_12 : decode cJ1_newString_b4f7a 12 = .ok (.iload_n 1, 1) := by decide +kernel
theorem dJ1_newString_b4f7a_13 : decode cJ1_newString_b4f7a 13 = .ok (.iload_n 1, 1) := by decide +kernel
theorem dJ1_newString_b4f7a_14 : decode cJ1_newString_b4f7a 14 = .ok (.iload_n 2, 1) := by decide +kernel
theorem dJ1_newString_b4f7a_15 : decode cJ1_newString_b4f7a 15 = .ok (.iadd, 1) := by decide +kernel
theorem dJ1_newString_b4f7a_16 : decode cJ1_newString_b4f7a 16 = .ok (.invokestatic 232, 3) := by decide +kernel
theorem dJ1_newString_b4f7a_19 : decode cJ1_newString_b4f7a 19 = .ok (.iconst 0, 1) := by decide +kernel
theorem dJ1_newString_b4f7a_20 : decode cJ1_newString_b4f7a 20 = .ok (.invokespecial 112, 3) := by decide +kernel
theorem dJ1_newString_b4f7a_23 : decode cJ1_newString_b4f7a 23 = .ok (.areturn, 1) := by decide +kernel
theorem dJ0_substring_37a41_0 : decode cJ0_substring_37a41 0 = .ok (.aload_n 0, 1) := by decide +kernel
theorem dJ0_substring_37a41_1 : decode cJ0_substring_37a41 1 = .ok (.invokevirtual 505, 3) := by decide +kernel
theorem dJ0_substring_37a41_4 : decode cJ0_substring_37a41 4 = .ok (.istore_n 3, 1) := by decide +kernel
theorem dJ0_substring_37a41_5 : decode cJ0_substring_37a41 5 = .ok (.iload_n 1, 1) := by decide +kernel
theorem dJ0_substring_37a41_6 : decode cJ0_substring_37a41 6 = .ok (.iload_n 2, 1) := by decide +kernel
theorem dJ0_substring_37a41_7 : decode cJ0_substring_37a41 7 = .ok (.iload_n 3, 1) := by decide +kernel
theorem dJ0_substring_37a41_8 : decode cJ0_substring_37a41 8 = .ok (.invokestatic 521, 3) := by decide +kernel
theorem dJ0_substring_37a41_11 : decode cJ0_substring_37a41 11 = .ok (.iload_n 1, 1) := by decide +kernel
theorem dJ0_substring_37a41_12 : decode cJ0_substring_37a41 12 = .ok (.ifCond .ne 10, 3) := by decide +kernel
theorem dJ0_substring_37a41_15 : decode cJ0_substring_37a41 15 = .ok (.iload_n 2, 1) := by decide +kernel
theorem dJ0_substring_37a41_16 : decode cJ0_substring_37a41 16 = .ok (.iload_n 3, 1) := by decide +kernel
theorem dJ0_substring_37a41_17 : decode cJ0_substring_37a41 17 = .ok (.if_icmp .ne 5, 3) := by decide +kernel
theorem dJ0_substring_37a41_20 : decode cJ0_substring_37a41 20 = .ok (.aload_n 0, 1) := by decide +kernel
theorem dJ0_substring_37a41_21 : decode cJ0_substring_37a41 21 = .ok (.areturn, 1) := by decide +kernel
theorem dJ0_substring_37a41_22 : decode cJ0_substring_37a41 22 = .ok (.iload_n 2, 1) := by decide +kernel
theorem dJ0_substring_37a41_23 : decode cJ0_substring_37a41 23 = .ok (.iload_n 1, 1) := by decide +kernel
theorem dJ0_substring_37a41_24 : decode cJ0_substring_37a41 24 = .ok (.isub, 1) := by decide +kernel
theorem dJ0_substring_37a41_25 : decode cJ0_substring_37a41 25 = .ok (.istore 4, 2) := by decide +kernel
theorem dJ0_substring_37a41_27 : decode cJ0_substring_37a41 27 = .ok (.aload_n 0, 1) := by decide +kernel
theorem dJ0_substring_37a41_28 : decode cJ0_substring_37a41 28 = .ok (.invokevirtual 492, 3) := by decide +kernel
theorem dJ0_substring_37a41_31 : decode cJ0_substring_37a41 31 = .ok (.ifCond .eq 16, 3) := by decide +kernel
theorem dJ0_substring_37a41_34 : decode cJ0_substring_37a41 34 = .ok (.aload_n 0, 1) := by decide +kernel
theorem dJ0_substring_37a41_35 : decode cJ0_substring_37a41 35 = .ok (.getfield 9, 3) := by decide +kernel
theorem dJ0_substring_37a41_38 : decode cJ0_substring_37a41 38 = .ok (.iload_n 1, 1) := by decide +kernel
theorem dJ0_substring_37a41_39 : decode cJ0_substring_37a41 39 = .ok (.iload 4, 2) := by decide +kernel
theorem dJ0_substring_37a41_41 : decode cJ0_substring_37a41 41 = .ok (.invokestatic 685, 3) := by decide +kernel
theorem dJ0_substring_37a41_44 : decode cJ0_substring_37a41 44 = .ok (.goto 13, 3) := by decide +kernel
theorem dJ0_substring_37a41_47 : decode cJ0_substring_37a41 47 = .ok (.aload_n 0, 1) := by decide +kernel
theorem dJ0_substring_37a41_48 : decode cJ0_substring_37a41 48 = .ok (.getfield 9, 3) := by decide +kernel
theorem dJ0_substring_37a41_51 : decode cJ0_substring_37a41 51 = .ok (.iload_n 1, 1) := by decide +kernel
theorem dJ0_substring_37a41_52 : decode cJ0_substring_37a41 52 = .ok (.iload 4, 2) := by decide +kernel
theorem dJ0_substring_37a41_57 : decode cJ0_substring_37a41 57 = .ok (.areturn, 1) := by decide +kernel
theorem dJ5_inflateIfNeededFor_a7421_0 : decode cJ5_inflateIfNeededFor_a7421 0 = .ok (.getstatic 18, 3) := by decide +kernel
theorem dJ5_inflateIfNeededFor_a7421_3 : decode cJ5_inflateIfNeededFor_a7421 3 = .ok (.ifCond .eq 18, 3) := by decide +kernel
theorem dJ5_inflateIfNeededFor_a7421_6 : decode cJ5_inflateIfNeededFor_a7421 6 = .ok (.aload_n 0, 1) := by decide +kernel
theorem dJ5_inflateIfNeededFor_a7421_7 : decode cJ5_inflateIfNeededFor_a7421 7 = .ok (.getfield 22, 3) := by decide +kernel
theorem dJ5_inflateIfNeededFor_a7421_10 : decode cJ5_inflateIfNeededFor_a7421 10 = .ok (.aload_n 1, 1) := by decide +kernel
theorem dJ5_inflateIfNeededFor_a7421_11 : decode cJ5_inflateIfNeededFor_a7421 11 = .ok (.invokevirtual 40, 3) := by decide +kernel
theorem dJ5_inflateIfNeededFor_a7421_14 : decode cJ5_inflateIfNeededFor_a7421 14 = .ok (.if_icmp .eq 7, 3) := by decide +kernel
theorem dJ5_inflateIfNeededFor_a7421_17 : decode cJ5_inflateIfNeededFor_a7421 17 = .ok (.aload_n 0, 1) := by decide +kernel
theorem dJ5_inflateIfNeededFor_a7421_21 : decode cJ5_inflateIfNeededFor_a7421 21 = .ok (.return_, 1) := by decide +kernel
theorem dJ0_getBytes_840e7_0 : decode cJ0_getBytes_840e7 0 = .ok (.aload_n 0, 1) := by decide +kernel
theorem dJ0_getBytes_840e7_1 : decode cJ0_getBytes_840e7 1 = .ok (.invokevirtual 335, 3) := by decide +kernel
theorem dJ0_getBytes_840e7_4 : decode cJ0_getBytes_840e7 4 = .ok (.iload_n 3, 1) := by decide +kernel
theorem dJ0_getBytes_840e7_5 : decode cJ0_getBytes_840e7 5 = .ok (.if_icmp .ne 23, 3) := by decide +kernel
theorem dJ0_getBytes_840e7_8 : decode cJ0_getBytes_840e7 8 = .ok (.aload_n 0, 1) := by decide +kernel
theorem dJ0_getBytes_840e7_9 : decode cJ0_getBytes_840e7 9 = .ok (.getfield 9, 3) := by decide +kernel
theorem dJ0_getBytes_840e7_12 : decode cJ0_getBytes_840e7 12 = .ok (.iconst 0, 1) := by decide +kernel
theorem dJ0_getBytes_840e7_13 : decode cJ0_getBytes_840e7 13 = .ok (.aload_n 1, 1) := by decide +kernel
theorem dJ0_getBytes_840e7_14 : decode cJ0_getBytes_840e7 14 = .ok (.iload_n 2, 1) := by decide +kernel
theorem dJ0_getBytes_840e7_15 : decode cJ0_getBytes_840e7 15 = .ok (.iload_n 3, 1) := by decide +kernel
theorem dJ0_getBytes_840e7_16 : decode cJ0_getBytes_840e7 16 = .ok (.ishl, 1) := by decide +kernel
theorem dJ0_getBytes_840e7_17 : decode cJ0_getBytes_840e7 17 = .ok (.aload_n 0, 1) := by decide +kernel
theorem dJ0_getBytes_840e7_18 : decode cJ0_getBytes_840e7 18 = .ok (.getfield 9, 3) := by decide +kernel
theorem dJ0_getBytes_840e7_21 : decode cJ0_getBytes_840e7 21 = .ok (.arraylength, 1) := by decide +kernel
theorem dJ0_getBytes_840e7_22 : decode cJ0_getBytes_840e7 22 = .ok (.invokestatic 212, 3) := by decide +kernel
theorem dJ0_getBytes_840e7_25 : decode cJ0_getBytes_840e7 25 = .ok (.goto 18, 3) := by decide +kernel
theorem dJ0_getBytes_840e7_28 : decode cJ0_getBytes_840e7 28 = .ok (.aload_n 0, 1) := by decide +kernel
theorem dJ0_getBytes_840e7_29 : decode cJ0_getBytes_840e7 29 = .ok (.getfield 9, 3) := by decide +kernel
theorem dJ0_getBytes_840e7_32 : decode cJ0_getBytes_840e7 32 = .ok (.iconst 0, 1) := by decide +kernel
theorem dJ0_getBytes_840e7_33 : decode cJ0_getBytes_840e7 33 = .ok (.aload_n 1, 1) := by decide +kernel
theorem dJ0_getBytes_840e7_34 : decode cJ0_getBytes_840e7 34 = .ok (.iload_n 2, 1) := by decide +kernel
theorem dJ0_getBytes_840e7_35 : decode cJ0_getBytes_840e7 35 = .ok (.aload_n 0, 1) := by decide +kernel
theorem dJ0_getBytes_840e7_36 : decode cJ0_getBytes_840e7 36 = .ok (.getfield 9, 3) := by decide +kernel
theorem dJ0_getBytes_840e7_39 : decode cJ0_getBytes_840e7 39 = .ok (.arraylength, 1) := by decide +kernel
theorem dJ0_getBytes_840e7_43 : decode cJ0_getBytes_840e7 43 = .ok (.return_, 1) := by decide +kernel
theorem dJ5_putStringAt_47b60_0 : decode cJ5_putStringAt_47b60 0 = .ok (.aload_n 0, 1) := by decide +kernel
theorem dJ5_putStringAt_47b60_1 : decode cJ5_putStringAt_47b60 1 = .ok (.aload_n 2, 1) := by decide +kernel
theorem dJ5_putStringAt_47b60_2 : decode cJ5_putStringAt_47b60 2 = .ok (.invokevirtual 397, 3) := by decide +kernel
theorem dJ5_putStringAt_47b60_5 : decode cJ5_putStringAt_47b60 5 = .ok (.aload_n 2, 1) := by decide +kernel
theorem dJ5_putStringAt_47b60_6 : decode cJ5_putStringAt_47b60 6 = .ok (.aload_n 0, 1) := by decide +kernel
theorem dJ5_putStringAt_47b60_7 : decode cJ5_putStringAt_47b60 7 = .ok (.getfield 15, 3) := by decide +kernel
theorem dJ5_putStringAt_47b60_10 : decode cJ5_putStringAt_47b60 10 = .ok (.iload_n 1, 1) := by decide +kernel
theorem dJ5_putStringAt_47b60_11 : decode cJ5_putStringAt_47b60 11 = .ok (.aload_n 0, 1) := by decide +kernel
theorem dJ5_putStringAt_47b60_12 : decode cJ5_putStringAt_47b60 12 = .ok (.getfield 22, 3) := by decide +kernel
theorem dJ5_putStringAt_47b60_15 : decode cJ5_putStringAt_47b60 15 = .ok (.invokevirtual 399, 3) := by decide +kernel
theorem dJ5_putStringAt_47b60_18 : decode cJ5_putStringAt_47b60 18 = .ok (.return_, 1) := by decide +kernel
theorem dJ5_append_cf1ce_0 : decode cJ5_append_cf1ce 0 = .ok (.aload_n 1, 1) := by decide +kernel
theorem dJ5_append_cf1ce_1 : decode cJ5_append_cf1ce 1 = .ok (.ifnonnull 8, 3) := by decide +kernel
theorem dJ5_append_cf1ce_4 : decode cJ5_append_cf1ce 4 = .ok (.aload_n 0, 1) := by decide +kernel
theorem dJ5_append_cf1ce_9 : decode cJ5_append_cf1ce 9 = .ok (.aload_n 1, 1) := by decide +kernel
theorem dJ5_append_cf1ce_10 : decode cJ5_append_cf1ce 10 = .ok (.invokevirtual 32, 3) := by decide +kernel
theorem dJ5_append_cf1ce_13 : decode cJ5_append_cf1ce 13 = .ok (.istore_n 2, 1) := by decide +kernel
theorem dJ5_append_cf1ce_14 : decode cJ5_append_cf1ce 14 = .ok (.aload_n 0, 1) := by decide +kernel
theorem dJ5_append_cf1ce_15 : decode cJ5_append_cf1ce 15 = .ok (.aload_n 0, 1) := by decide +kernel
theorem dJ5_append_cf1ce_16 : decode cJ5_append_cf1ce 16 = .ok (.getfield 79, 3) := by decide +kernel
theorem dJ5_append_cf1ce_19 : decode cJ5_append_cf1ce 19 = .ok (.iload_n 2, 1) := by decide +kernel
theorem dJ5_append_cf1ce_20 : decode cJ5_append_cf1ce 20 = .ok (.iadd, 1) := by decide +kernel
theorem dJ5_append_cf1ce_21 : decode cJ5_append_cf1ce 21 = .ok (.invokevirtual 100, 3) := by decide +kernel
theorem dJ5_append_cf1ce_24 : decode cJ5_append_cf1ce 24 = .ok (.aload_n 0, 1) := by decide +kernel
theorem dJ5_append_cf1ce_25 : decode cJ5_append_cf1ce 25 = .ok (.aload_n 0, 1) := by decide +kernel
theorem dJ5_append_cf1ce_26 : decode cJ5_append_cf1ce 26 = .ok (.getfield 79, 3) := by decide +kernel
theorem dJ5_append_cf1ce_29 : decode cJ5_append_cf1ce 29 = .ok (.aload_n 1, 1) := by decide +kernel
theorem dJ5_append_cf1ce_30 : decode cJ5_append_cf1ce 30 = .ok (.invokevirtual 208, 3) := by decide +kernel
theorem dJ5_append_cf1ce_33 : decode cJ5_append_cf1ce 33 = .ok (.aload_n 0, 1) := by decide +kernel
theorem dJ5_append_cf1ce_34 : decode cJ5_append_cf1ce 34 = .ok (.dup, 1) := by decide +kernel
theorem dJ5_append_cf1ce_35 : decode cJ5_append_cf1ce 35 = .ok (.getfield 79, 3) := by decide +kernel
theorem dJ5_append_cf1ce_38 : decode cJ5_append_cf1ce 38 = .ok (.iload_n 2, 1) := by decide +kernel
theorem dJ5_append_cf1ce_39 : decode cJ5_append_cf1ce 39 = .ok (.iadd, 1) := by decide +kernel
theorem dJ5_append_cf1ce_40 : decode cJ5_append_cf1ce 40 = .ok (.putfield 79, 3) := by decide +kernel
theorem dJ5_append_cf1ce_43 : decode cJ5_append_cf1ce 43 = .ok (.aload_n 0, 1) := by decide +kernel
theorem dJ5_append_cf1ce_44 : decode cJ5_append_cf1ce 44 = .ok (.areturn, 1) := by decide +kernel
theorem dJ4_append_15ec4_0 : decode cJ4_append_15ec4 0 = .ok (.aload_n 0, 1) := by decide +kernel
theorem dJ4_append_15ec4_1 : decode cJ4_append_15ec4 1 = .ok (.aload_n 1, 1) := by decide +kernel
theorem dJ4_append_15ec4_2 : decode cJ4_append_15ec4 2 = .ok (.invokespecial 29, 3) := by decide +kernel
theorem dJ4_append_15ec4_5 : decode cJ4_append_15ec4 5 = .ok (.pop, 1) := by decide +kernel
theorem dJ4_append_15ec4_6 : decode cJ4_append_15ec4 6 = .ok (.aload_n 0, 1) := by decide +kernel
theorem dJ4_append_15ec4_7 : decode cJ4_append_15ec4 7 = .ok (.areturn, 1) := by decide +kernel
theorem dJ5_getValue_6d5f1_0 : decode cJ5_getValue_6d5f1 0 = .ok (.aload_n 0, 1) := by decide +kernel
theorem dJ5_getValue_6d5f1_1 : decode cJ5_getValue_6d5f1 1 = .ok (.getfield 15, 3) := by decide +kernel
theorem dJ5_getValue_6d5f1_4 : decode cJ5_getValue_6d5f1 4 = .ok (.areturn, 1) := by decide +kernel
theorem dJ5_length_8abf5_0 : decode cJ5_length_8abf5 0 = .ok (.aload_n 0, 1) := by decide +kernel
theorem dJ5_length_8abf5_1 : decode cJ5_length_8abf5 1 = .ok (.getfield 79, 3) := by decide +kernel
theorem dJ5_length_8abf5_4 : decode cJ5_length_8abf5 4 = .ok (.ireturn, 1) := by decide +kernel
theorem dJ4_length_8abf5_0 : decode cJ4_length_8abf5 0 = .ok (.aload_n 0, 1) := by decide +kernel
theorem dJ4_length_8abf5_1 : decode cJ4_length_8abf5 1 = .ok (.invokespecial 343, 3) := by decide +kernel
theorem dJ4_length_8abf5_4 : decode cJ4_length_8abf5 4 = .ok (.ireturn, 1) := by decide +kernel
theorem dJ0_init_db425_0 : decode cJ0_init_db425 0 = .ok (.aload_n 0, 1) := by decide +kernel
theorem dJ0_init_db425_1 : decode cJ0_init_db425 1 = .ok (.invokespecial 1, 3) := by decide +kernel
theorem dJ0_init_db425_4 : decode cJ0_init_db425 4 = .ok (.aload_n 1, 1) := by decide +kernel
theorem dJ0_init_db425_5 : decode cJ0_init_db425 5 = .ok (.invokevirtual 552, 3) := by decide +kernel
theorem dJ0_init_db425_8 : decode cJ0_init_db425 8 = .ok (.astore_n 3, 1) := by decide +kernel
theorem dJ0_init_db425_9 : decode cJ0_init_db425 9 = .ok (.aload_n 1, 1) := by decide +kernel
theorem dJ0_init_db425_10 : decode cJ0_init_db425 10 = .ok (.invokevirtual 549, 3) := by decide +kernel
theorem dJ0_init_db425_13 : decode cJ0_init_db425 13 = .ok (.istore 4, 2) := by decide +kernel
theorem dJ0_init_db425_15 : decode cJ0_init_db425 15 = .ok (.aload_n 1, 1) := by decide +kernel
theorem dJ0_init_db425_16 : decode cJ0_init_db425 16 = .ok (.invokevirtual 1047, 3) := by decide +kernel
theorem dJ0_init_db425_19 : decode cJ0_init_db425 19 = .ok (.ifCond .eq 22, 3) := by decide +kernel
theorem dJ0_init_db425_22 : decode cJ0_init_db425 22 = .ok (.aload_n 0, 1) := by decide +kernel
theorem dJ0_init_db425_23 : decode cJ0_init_db425 23 = .ok (.iconst 0, 1) := by decide +kernel
theorem dJ0_init_db425_24 : decode cJ0_init_db425 24 = .ok (.putfield 15, 3) := by decide +kernel
theorem dJ0_init_db425_27 : decode cJ0_init_db425 27 = .ok (.aload_n 0, 1) := by decide +kernel
theorem dJ0_init_db425_28 : decode cJ0_init_db425 28 = .ok (.aload_n 3, 1) := by decide +kernel
theorem dJ0_init_db425_29 : decode cJ0_init_db425 29 = .ok (.iconst 0, 1) := by decide +kernel
theorem dJ0_init_db425_30 : decode cJ0_init_db425 30 = .ok (.iload 4, 2) := by decide +kernel
theorem dJ0_init_db425_32 : decode cJ0_init_db425 32 = .ok (.invokestatic 54, 3) := by decide +kernel
theorem dJ0_init_db425_35 : decode cJ0_init_db425 35 = .ok (.putfield 9, 3) := by decide +kernel
theorem dJ0_init_db425_38 : decode cJ0_init_db425 38 = .ok (.goto 59, 3) := by decide +kernel
theorem dJ0_init_db425_41 : decode cJ0_init_db425 41 = .ok (.getstatic 38, 3) := by decide +kernel
theorem dJ0_init_db425_44 : decode cJ0_init_db425 44 = .ok (.ifCond .eq 35, 3) := by decide +kernel
theorem dJ0_init_db425_47 : decode cJ0_init_db425 47 = .ok (.aload_n 1, 1) := by decide +kernel
theorem dJ0_init_db425_48 : decode cJ0_init_db425 48 = .ok (.getfield 1048, 3) := by decide +kernel
theorem dJ0_init_db425_51 : decode cJ0_init_db425 51 = .ok (.ifCond .eq 28, 3) := by decide +kernel
theorem dJ0_init_db425_54 : decode cJ0_init_db425 54 = .ok (.aload_n 0, 1) := by decide +kernel
theorem dJ0_init_db425_55 : decode cJ0_init_db425 55 = .ok (.aload_n 3, 1) := by decide +kernel
theorem dJ0_init_db425_56 : decode cJ0_init_db425 56 = .ok (.iconst 0, 1) := by decide +kernel
theorem dJ0_init_db425_57 : decode cJ0_init_db425 57 = .ok (.iload 4, 2) := by decide +kernel
theorem dJ0_init_db425_79 : decode cJ0_init_db425 79 = .ok (.aload_n 0, 1) := by decide +kernel
theorem dJ0_init_db425_80 : decode cJ0_init_db425 80 = .ok (.iconst 1, 1) := by decide +kernel
theorem dJ0_init_db425_81 : decode cJ0_init_db425 81 = .ok (.putfield 15, 3) := by decide +kernel
theorem dJ0_init_db425_84 : decode cJ0_init_db425 84 = .ok (.aload_n 0, 1) := by decide +kernel
theorem dJ0_init_db425_85 : decode cJ0_init_db425 85 = .ok (.aload_n 3, 1) := by decide +kernel
theorem dJ0_init_db425_86 : decode cJ0_init_db425 86 = .ok (.iconst 0, 1) := by decide +kernel
theorem dJ0_init_db425_87 : decode cJ0_init_db425 87 = .ok (.iload 4, 2) := by decide +kernel
theorem dJ0_init_db425_89 : decode cJ0_init_db425 89 = .ok (.iconst 1, 1) := by decide +kernel
theorem dJ0_init_db425_90 : decode cJ0_init_db425 90 = .ok (.ishl, 1) := by decide +kernel
theorem dJ0_init_db425_91 : decode cJ0_init_db425 91 = .ok (.invokestatic 54, 3) := by decide +kernel
theorem dJ0_init_db425_94 : decode cJ0_init_db425 94 = .ok (.putfield 9, 3) := by decide +kernel
theorem dJ0_init_db425_97 : decode cJ0_init_db425 97 = .ok (.return_, 1) := by decide +kernel
theorem dJ0_init_81219_0 : decode cJ0_init_81219 0 = .ok (.aload_n 0, 1) := by decide +kernel
theorem dJ0_init_81219_1 : decode cJ0_init_81219 1 = .ok (.aload_n 1, 1) := by decide +kernel
theorem dJ0_init_81219_2 : decode cJ0_init_81219 2 = .ok (.aconst_null, 1) := by decide +kernel
theorem dJ0_init_81219_3 : decode cJ0_init_81219 3 = .ok (.invokespecial 489, 3) := by decide +kernel
theorem dJ0_init_81219_6 : decode cJ0_init_81219 6 = .ok (.return_, 1) := by decide +kernel
theorem dJ4_toString_0e30d_0 : decode cJ4_toString_0e30d 0 = .ok (.new 18, 3) := by decide +kernel
theorem dJ4_toString_0e30d_3 : decode cJ4_toString_0e30d 3 = .ok (.dup, 1) := by decide +kernel
theorem dJ4_toString_0e30d_4 : decode cJ4_toString_0e30d 4 = .ok (.aload_n 0, 1) := by decide +kernel
theorem dJ4_toString_0e30d_5 : decode cJ4_toString_0e30d 5 = .ok (.invokespecial 137, 3) := by decide +kernel
theorem dJ4_toString_0e30d_8 : decode cJ4_toString_0e30d 8 = .ok (.areturn, 1) := by decide +kernel
theorem dJ4_append_cf1ce_0 : decode cJ4_append_cf1ce 0 = .ok (.aload_n 0, 1) := by decide +kernel
theorem dJ4_append_cf1ce_1 : decode cJ4_append_cf1ce 1 = .ok (.aload_n 1, 1) := by decide +kernel
theorem dJ4_append_cf1ce_2 : decode cJ4_append_cf1ce 2 = .ok (.invokevirtual 23, 3) := by decide +kernel
theorem dJ4_append_cf1ce_5 : decode cJ4_append_cf1ce 5 = .ok (.areturn, 1) := by decide +kernel
theorem dJ5_init_a7421_0 : decode cJ5_init_a7421 0 = .ok (.aload_n 0, 1) := by decide +kernel
theorem dJ5_init_a7421_1 : decode cJ5_init_a7421 1 = .ok (.invokespecial 3, 3) := by decide +kernel
theorem dJ5_init_a7421_4 : decode cJ5_init_a7421 4 = .ok (.aload_n 1, 1) := by decide +kernel
theorem dJ5_init_a7421_5 : decode cJ5_init_a7421 5 = .ok (.invokevirtual 32, 3) := by decide +kernel
theorem dJ5_init_a7421_8 : decode cJ5_init_a7421 8 = .ok (.istore_n 2, 1) := by decide +kernel
theorem dJ5_init_a7421_9 : decode cJ5_init_a7421 9 = .ok (.iload_n 2, 1) := by decide +kernel
theorem dJ5_init_a7421_10 : decode cJ5_init_a7421 10 = .ok (.ldc 38, 2) := by decide +kernel
theorem dJ5_init_a7421_12 : decode cJ5_init_a7421 12 = .ok (.if_icmp .ge 10, 3) := by decide +kernel
theorem dJ5_init_a7421_15 : decode cJ5_init_a7421 15 = .ok (.iload_n 2, 1) := by decide +kernel
theorem dJ5_init_a7421_16 : decode cJ5_init_a7421 16 = .ok (.bipush 16, 2) := by decide +kernel
theorem dJ5_init_a7421_18 : decode cJ5_init_a7421 18 = .ok (.iadd, 1) := by decide +kernel
theorem dJ5_init_a7421_19 : decode cJ5_init_a7421 19 = .ok (.goto 5, 3) := by decide +kernel
theorem dJ5_init_a7421_22 : decode cJ5_init_a7421 22 = .ok (.ldc 39, 2) := by decide +kernel
theorem dJ5_init_a7421_24 : decode cJ5_init_a7421 24 = .ok (.istore_n 3, 1) := by decide +kernel
theorem dJ5_init_a7421_25 : decode cJ5_init_a7421 25 = .ok (.aload_n 1, 1) := by decide +kernel
theorem dJ5_init_a7421_26 : decode cJ5_init_a7421 26 = .ok (.invokevirtual 40, 3) := by decide +kernel
theorem dJ5_init_a7421_29 : decode cJ5_init_a7421 29 = .ok (.istore 4, 2) := by decide +kernel
theorem dJ5_init_a7421_31 : decode cJ5_init_a7421 31 = .ok (.aload_n 0, 1) := by decide +kernel
theorem dJ5_init_a7421_32 : decode cJ5_init_a7421 32 = .ok (.iload 4, 2) := by decide +kernel
theorem dJ5_init_a7421_34 : decode cJ5_init_a7421 34 = .ok (.putfield 22, 3) := by decide +kernel
theorem dJ5_init_a7421_37 : decode cJ5_init_a7421 37 = .ok (.aload_n 0, 1) := by decide +kernel
theorem dJ5_init_a7421_38 : decode cJ5_init_a7421 38 = .ok (.iload 4, 2) := by decide +kernel
theorem dJ5_init_a7421_40 : decode cJ5_init_a7421 40 = .ok (.ifCond .ne 9, 3) := by decide +kernel
theorem dJ5_init_a7421_43 : decode cJ5_init_a7421 43 = .ok (.iload_n 3, 1) := by decide +kernel
theorem dJ5_init_a7421_44 : decode cJ5_init_a7421 44 = .ok (.newarray .byte, 2) := by decide +kernel
theorem dJ5_init_a7421_46 : decode cJ5_init_a7421 46 = .ok (.goto 7, 3) := by decide +kernel
theorem dJ5_init_a7421_49 : decode cJ5_init_a7421 49 = .ok (.iload_n 3, 1) := by decide +kernel
theorem dJ5_init_a7421_53 : decode cJ5_init_a7421 53 = .ok (.putfield 15, 3) := by decide +kernel
theorem dJ5_init_a7421_56 : decode cJ5_init_a7421 56 = .ok (.aload_n 0, 1) := by decide +kernel
theorem dJ5_init_a7421_57 : decode cJ5_init_a7421 57 = .ok (.aload_n 1, 1) := by decide +kernel
theorem dJ5_init_a7421_58 : decode cJ5_init_a7421 58 = .ok (.invokevirtual 43, 3) := by decide +kernel
theorem dJ5_init_a7421_61 : decode cJ5_init_a7421 61 = .ok (.pop, 1) := by decide +kernel
theorem dJ5_init_a7421_62 : decode cJ5_init_a7421 62 = .ok (.return_, 1) := by decide +kernel
theorem dJ4_init_a7421_0 : decode cJ4_init_a7421 0 = .ok (.aload_n 0, 1) := by decide +kernel
theorem dJ4_init_a7421_1 : decode cJ4_init_a7421 1 = .ok (.aload_n 1, 1) := by decide +kernel
theorem dJ4_init_a7421_2 : decode cJ4_init_a7421 2 = .ok (.invokespecial 7, 3) := by decide +kernel
theorem dJ4_init_a7421_5 : decode cJ4_init_a7421 5 = .ok (.return_, 1) := by decide +kernel
theorem dJ6_stringSize_0f7a4_0 : decode cJ6_stringSize_0f7a4 0 = .ok (.iconst 1, 1) := by decide +kernel
theorem dJ6_stringSize_0f7a4_1 : decode cJ6_stringSize_0f7a4 1 = .ok (.istore_n 1, 1) := by decide +kernel
theorem dJ6_stringSize_0f7a4_2 : decode cJ6_stringSize_0f7a4 2 = .ok (.iload_n 0, 1) := by decide +kernel
theorem dJ6_stringSize_0f7a4_3 : decode cJ6_stringSize_0f7a4 3 = .ok (.ifCond .lt 8, 3) := by decide +kernel
theorem dJ6_stringSize_0f7a4_6 : decode cJ6_stringSize_0f7a4 6 = .ok (.iconst 0, 1) := by decide +kernel
theorem dJ6_stringSize_0f7a4_7 : decode cJ6_stringSize_0f7a4 7 = .ok (.istore_n 1, 1) := by decide +kernel
theorem dJ6_stringSize_0f7a4_8 : decode cJ6_stringSize_0f7a4 8 = .ok (.iload_n 0, 1) := by decide +kernel
theorem dJ6_stringSize_0f7a4_9 : decode cJ6_stringSize_0f7a4 9 = .ok (.ineg, 1) := by decide +kernel
theorem dJ6_stringSize_0f7a4_10 : decode cJ6_stringSize_0f7a4 10 = .ok (.istore_n 0, 1) := by decide +kernel
theorem dJ6_stringSize_0f7a4_11 : decode cJ6_stringSize_0f7a4 11 = .ok (.bipush (-10), 2) := by decide +kernel
theorem dJ6_stringSize_0f7a4_13 : decode cJ6_stringSize_0f7a4 13 = .ok (.istore_n 2, 1) := by decide +kernel
theorem dJ6_stringSize_0f7a4_14 : decode cJ6_stringSize_0f7a4 14 = .ok (.iconst 1, 1) := by decide +kernel
theorem dJ6_stringSize_0f7a4_15 : decode cJ6_stringSize_0f7a4 15 = .ok (.istore_n 3, 1) := by decide +kernel
theorem dJ6_stringSize_0f7a4_16 : decode cJ6_stringSize_0f7a4 16 = .ok (.iload_n 3, 1) := by decide +kernel
theorem dJ6_stringSize_0f7a4_17 : decode cJ6_stringSize_0f7a4 17 = .ok (.bipush 10, 2) := by decide +kernel
theorem dJ6_stringSize_0f7a4_19 : decode cJ6_stringSize_0f7a4 19 = .ok (.if_icmp .ge 23, 3) := by decide +kernel
theorem dJ6_stringSize_0f7a4_22 : decode cJ6_stringSize_0f7a4 22 = .ok (.iload_n 0, 1) := by decide +kernel
theorem dJ6_stringSize_0f7a4_23 : decode cJ6_stringSize_0f7a4 23 = .ok (.iload_n 2, 1) := by decide +kernel
theorem dJ6_stringSize_0f7a4_24 : decode cJ6_stringSize_0f7a4 24 = .ok (.if_icmp .le 7, 3) := by decide +kernel
theorem dJ6_stringSize_0f7a4_27 : decode cJ6_stringSize_0f7a4 27 = .ok (.iload_n 3, 1) := by decide +kernel
theorem dJ6_stringSize_0f7a4_28 : decode cJ6_stringSize_0f7a4 28 = .ok (.iload_n 1, 1) := by decide +kernel
theorem dJ6_stringSize_0f7a4_29 : decode cJ6_stringSize_0f7a4 29 = .ok (.iadd, 1) := by decide +kernel
theorem dJ6_stringSize_0f7a4_30 : decode cJ6_stringSize_0f7a4 30 = .ok (.ireturn, 1) := by decide +kernel
theorem dJ6_stringSize_0f7a4_31 : decode cJ6_stringSize_0f7a4 31 = .ok (.bipush 10, 2) := by decide +kernel
theorem dJ6_stringSize_0f7a4_33 : decode cJ6_stringSize_0f7a4 33 = .ok (.iload_n 2, 1) := by decide +kernel
theorem dJ6_stringSize_0f7a4_34 : decode cJ6_stringSize_0f7a4 34 = .ok (.imul, 1) := by decide +kernel
theorem dJ6_stringSize_0f7a4_35 : decode cJ6_stringSize_0f7a4 35 = .ok (.istore_n 2, 1) := by decide +kernel
theorem dJ6_stringSize_0f7a4_36 : decode cJ6_stringSize_0f7a4 36 = .ok (.iinc 3 1, 3) := by decide +kernel
theorem dJ6_stringSize_0f7a4_39 : decode cJ6_stringSize_0f7a4 39 = .ok (.goto (-23), 3) := by decide +kernel
theorem dJ6_stringSize_0f7a4_42 : decode cJ6_stringSize_0f7a4 42 = .ok (.bipush 10, 2) := by decide +kernel
theorem dJ6_stringSize_0f7a4_44 : decode cJ6_stringSize_0f7a4 44 = .ok (.iload_n 1, 1) := by decide +kernel
theorem dJ6_stringSize_0f7a4_45 : decode cJ6_stringSize_0f7a4 45 = .ok (.iadd, 1) := by decide +kernel
theorem dJ6_stringSize_0f7a4_46 : decode cJ6_stringSize_0f7a4 46 = .ok (.ireturn, 1) := by decide +kernel
theorem dJ6_getChars_ba4f3_0 : decode cJ6_getChars_ba4f3 0 = .ok (.iload_n 1, 1) := by decide +kernel
theorem dJ6_getChars_ba4f3_1 : decode cJ6_getChars_ba4f3 1 = .ok (.istore 5, 2) := by decide +kernel
theorem dJ6_getChars_ba4f3_3 : decode cJ6_getChars_ba4f3 3 = .ok (.iload_n 0, 1) := by decide +kernel
theorem dJ6_getChars_ba4f3_4 : decode cJ6_getChars_ba4f3 4 = .ok (.ifCond .ge 7, 3) := by decide +kernel
theorem dJ6_getChars_ba4f3_7 : decode cJ6_getChars_ba4f3 7 = .ok (.iconst 1, 1) := by decide +kernel
theorem dJ6_getChars_ba4f3_8 : decode cJ6_getChars_ba4f3 8 = .ok (.goto 4, 3) := by decide +kernel
theorem dJ6_getChars_ba4f3_11 : decode cJ6_getChars_ba4f3 11 = .ok (.iconst 0, 1) := by decide +kernel
theorem dJ6_getChars_ba4f3_12 : decode cJ6_getChars_ba4f3 12 = .ok (.istore 6, 2) := by decide +kernel
theorem dJ6_getChars_ba4f3_14 : decode cJ6_getChars_ba4f3 14 = .ok (.iload 6, 2) := by decide +kernel
theorem dJ6_getChars_ba4f3_16 : decode cJ6_getChars_ba4f3 16 = .ok (.ifCond .ne 6, 3) := by decide +kernel
theorem dJ6_getChars_ba4f3_19 : decode cJ6_getChars_ba4f3 19 = .ok (.iload_n 0, 1) := by decide +kernel
theorem dJ6_getChars_ba4f3_20 : decode cJ6_getChars_ba4f3 20 = .ok (.ineg, 1) := by decide +kernel
theorem dJ6_getChars_ba4f3_21 : decode cJ6_getChars_ba4f3 21 = .ok (.istore_n 0, 1) := by decide +kernel
theorem dJ6_getChars_ba4f3_22 : decode cJ6_getChars_ba4f3 22 = .ok (.iload_n 0, 1) := by decide +kernel
theorem dJ6_getChars_ba4f3_23 : decode cJ6_getChars_ba4f3 23 = .ok (.bipush (-100), 2) := by decide +kernel
theorem dJ6_getChars_ba4f3_25 : decode cJ6_getChars_ba4f3 25 = .ok (.if_icmp .gt 47, 3) := by decide +kernel
theorem dJ6_getChars_ba4f3_28 : decode cJ6_getChars_ba4f3 28 = .ok (.iload_n 0, 1) := by decide +kernel
theorem dJ6_getChars_ba4f3_29 : decode cJ6_getChars_ba4f3 29 = .ok (.bipush 100, 2) := by decide +kernel
theorem dJ6_getChars_ba4f3_31 : decode cJ6_getChars_ba4f3 31 = .ok (.idiv, 1) := by decide +kernel
theorem dJ6_getChars_ba4f3_32 : decode cJ6_getChars_ba4f3 32 = .ok (.istore_n 3, 1) := by decide +kernel
theorem dJ6_getChars_ba4f3_33 : decode cJ6_getChars_ba4f3 33 = .ok (.iload_n 3, 1) := by decide +kernel
theorem dJ6_getChars_ba4f3_34 : decode cJ6_getChars_ba4f3 34 = .ok (.bipush 100, 2) := by decide +kernel
theorem dJ6_getChars_ba4f3_36 : decode cJ6_getChars_ba4f3 36 = .ok (.imul, 1) := by decide +kernel
theorem dJ6_getChars_ba4f3_37 : decode cJ6_getChars_ba4f3 37 = .ok (.iload_n 0, 1) := by decide +kernel
theorem dJ6_getChars_ba4f3_38 : decode cJ6_getChars_ba4f3 38 = .ok (.isub, 1) := by decide +kernel
theorem dJ6_getChars_ba4f3_39 : decode cJ6_getChars_ba4f3 39 = .ok (.istore 4, 2) := by decide +kernel
theorem dJ6_getChars_ba4f3_41 : decode cJ6_getChars_ba4f3 41 = .ok (.iload_n 3, 1) := by decide +kernel
theorem dJ6_getChars_ba4f3_42 : decode cJ6_getChars_ba4f3 42 = .ok (.istore_n 0, 1) := by decide +kernel
theorem dJ6_getChars_ba4f3_43 : decode cJ6_getChars_ba4f3 43 = .ok (.aload_n 2, 1) := by decide +kernel
theorem dJ6_getChars_ba4f3_44 : decode cJ6_getChars_ba4f3 44 = .ok (.iinc 5 (-1), 3) := by decide +kernel
theorem dJ6_getChars_ba4f3_47 : decode cJ6_getChars_ba4f3 47 = .ok (.iload 5, 2) := by decide +kernel
theorem dJ6_getChars_ba4f3_49 : decode cJ6_getChars_ba4f3 49 = .ok (.getstatic 83, 3) := by decide +kernel
theorem dJ6_getChars_ba4f3_52 : decode cJ6_getChars_ba4f3 52 = .ok (.iload 4, 2) := by decide +kernel
theorem dJ6_getChars_ba4f3_54 : decode cJ6_getChars_ba4f3 54 = .ok (.baload, 1) := by decide +kernel
theorem dJ6_getChars_ba4f3_55 : decode cJ6_getChars_ba4f3 55 = .ok (.bastore, 1) := by decide +kernel
theorem dJ6_getChars_ba4f3_56 : decode cJ6_getChars_ba4f3 56 = .ok (.aload_n 2, 1) := by decide +kernel
theorem dJ6_getChars_ba4f3_57 : decode cJ6_getChars_ba4f3 57 = .ok (.iinc 5 (-1), 3) := by decide +kernel
theorem dJ6_getChars_ba4f3_60 : decode cJ6_getChars_ba4f3 60 = .ok (.iload 5, 2) := by decide +kernel
theorem dJ6_getChars_ba4f3_62 : decode cJ6_getChars_ba4f3 62 = .ok (.getstatic 87, 3) := by decide +kernel
theorem dJ6_getChars_ba4f3_65 : decode cJ6_getChars_ba4f3 65 = .ok (.iload 4, 2) := by decide +kernel
theorem dJ6_getChars_ba4f3_67 : decode cJ6_getChars_ba4f3 67 = .ok (.baload, 1) := by decide +kernel
theorem dJ6_getChars_ba4f3_68 : decode cJ6_getChars_ba4f3 68 = .ok (.bastore, 1) := by decide +kernel
theorem dJ6_getChars_ba4f3_69 : decode cJ6_getChars_ba4f3 69 = .ok (.goto (-47), 3) := by decide +kernel
theorem dJ6_getChars_ba4f3_72 : decode cJ6_getChars_ba4f3 72 = .ok (.aload_n 2, 1) := by decide +kernel
theorem dJ6_getChars_ba4f3_73 : decode cJ6_getChars_ba4f3 73 = .ok (.iinc 5 (-1), 3) := by decide +kernel
theorem dJ6_getChars_ba4f3_76 : decode cJ6_getChars_ba4f3 76 = .ok (.iload 5, 2) := by decide +kernel
theorem dJ6_getChars_ba4f3_78 : decode cJ6_getChars_ba4f3 78 = .ok (.getstatic 83, 3) := by decide +kernel
theorem dJ6_getChars_ba4f3_81 : decode cJ6_getChars_ba4f3 81 = .ok (.iload_n 0, 1) := by decide +kernel
theorem dJ6_getChars_ba4f3_82 : decode cJ6_getChars_ba4f3 82 = .ok (.ineg, 1) := by decide +kernel
theorem dJ6_getChars_ba4f3_83 : decode cJ6_getChars_ba4f3 83 = .ok (.baload, 1) := by decide +kernel
theorem dJ6_getChars_ba4f3_84 : decode cJ6_getChars_ba4f3 84 = .ok (.bastore, 1) := by decide +kernel
theorem dJ6_getChars_ba4f3_85 : decode cJ6_getChars_ba4f3 85 = .ok (.iload_n 0, 1) := by decide +kernel
theorem dJ6_getChars_ba4f3_86 : decode cJ6_getChars_ba4f3 86 = .ok (.bipush (-9), 2) := by decide +kernel
theorem dJ6_getChars_ba4f3_88 : decode cJ6_getChars_ba4f3 88 = .ok (.if_icmp .ge 16, 3) := by decide +kernel
theorem dJ6_getChars_ba4f3_91 : decode cJ6_getChars_ba4f3 91 = .ok (.aload_n 2, 1) := by decide +kernel
theorem dJ6_getChars_ba4f3_92 : decode cJ6_getChars_ba4f3 92 = .ok (.iinc 5 (-1), 3) := by decide +kernel
theorem dJ6_getChars_ba4f3_95 : decode cJ6_getChars_ba4f3 95 = .ok (.iload 5, 2) := by decide +kernel
theorem dJ6_getChars_ba4f3_97 : decode cJ6_getChars_ba4f3 97 = .ok (.getstatic 87, 3) := by decide +kernel
theorem dJ6_getChars_ba4f3_100 : decode cJ6_getChars_ba4f3 100 = .ok (.iload_n 0, 1) := by decide +kernel
theorem dJ6_getChars_ba4f3_101 : decode cJ6_getChars_ba4f3 101 = .ok (.ineg, 1) := by decide +kernel
theorem dJ6_getChars_ba4f3_102 : decode cJ6_getChars_ba4f3 102 = .ok (.baload, 1) := by decide +kernel
theorem dJ6_getChars_ba4f3_103 : decode cJ6_getChars_ba4f3 103 = .ok (.bastore, 1) := by decide +kernel
theorem dJ6_getChars_ba4f3_104 : decode cJ6_getChars_ba4f3 104 = .ok (.iload 6, 2) := by decide +kernel
theorem dJ6_getChars_ba4f3_106 : decode cJ6_getChars_ba4f3 106 = .ok (.ifCond .eq 12, 3) := by decide +kernel
theorem dJ6_getChars_ba4f3_109 : decode cJ6_getChars_ba4f3 109 = .ok (.aload_n 2, 1) := by decide +kernel
theorem dJ6_getChars_ba4f3_110 : decode cJ6_getChars_ba4f3 110 = .ok (.iinc 5 (-1), 3) := by decide +kernel
theorem dJ6_getChars_ba4f3_113 : decode cJ6_getChars_ba4f3 113 = .ok (.iload 5, 2) := by decide +kernel
theorem dJ6_getChars_ba4f3_115 : decode cJ6_getChars_ba4f3 115 = .ok (.bipush 45, 2) := by decide +kernel
theorem dJ6_getChars_ba4f3_117 : decode cJ6_getChars_ba4f3 117 = .ok (.bastore, 1) := by decide +kernel
theorem dJ6_getChars_ba4f3_118 : decode cJ6_getChars_ba4f3 118 = .ok (.iload 5, 2) := by decide +kernel
theorem dJ6_getChars_ba4f3_120 : decode cJ6_getChars_ba4f3 120 = .ok (.ireturn, 1) := by decide +kernel
theorem dJ5_append_c97b9_0 : decode cJ5_append_c97b9 0 = .ok (.aload_n 0, 1) := by decide +kernel
theorem dJ5_append_c97b9_1 : decode cJ5_append_c97b9 1 = .ok (.getfield 79, 3) := by decide +kernel
theorem dJ5_append_c97b9_4 : decode cJ5_append_c97b9 4 = .ok (.istore_n 2, 1) := by decide +kernel
theorem dJ5_append_c97b9_5 : decode cJ5_append_c97b9 5 = .ok (.iload_n 2, 1) := by decide +kernel
theorem dJ5_append_c97b9_6 : decode cJ5_append_c97b9 6 = .ok (.iload_n 1, 1) := by decide +kernel
theorem dJ5_append_c97b9_7 : decode cJ5_append_c97b9 7 = .ok (.invokestatic 245, 3) := by decide +kernel
theorem dJ5_append_c97b9_10 : decode cJ5_append_c97b9 10 = .ok (.iadd, 1) := by decide +kernel
theorem dJ5_append_c97b9_11 : decode cJ5_append_c97b9 11 = .ok (.istore_n 3, 1) := by decide +kernel
theorem dJ5_append_c97b9_12 : decode cJ5_append_c97b9 12 = .ok (.aload_n 0, 1) := by decide +kernel
theorem dJ5_append_c97b9_13 : decode cJ5_append_c97b9 13 = .ok (.iload_n 3, 1) := by decide +kernel
theorem dJ5_append_c97b9_14 : decode cJ5_append_c97b9 14 = .ok (.invokevirtual 100, 3) := by decide +kernel
theorem dJ5_append_c97b9_17 : decode cJ5_append_c97b9 17 = .ok (.aload_n 0, 1) := by decide +kernel
theorem dJ5_append_c97b9_18 : decode cJ5_append_c97b9 18 = .ok (.invokevirtual 83, 3) := by decide +kernel
theorem dJ5_append_c97b9_21 : decode cJ5_append_c97b9 21 = .ok (.ifCond .eq 16, 3) := by decide +kernel
theorem dJ5_append_c97b9_24 : decode cJ5_append_c97b9 24 = .ok (.iload_n 1, 1) := by decide +kernel
theorem dJ5_append_c97b9_25 : decode cJ5_append_c97b9 25 = .ok (.iload_n 3, 1) := by decide +kernel
theorem dJ5_append_c97b9_26 : decode cJ5_append_c97b9 26 = .ok (.aload_n 0, 1) := by decide +kernel
theorem dJ5_append_c97b9_27 : decode cJ5_append_c97b9 27 = .ok (.getfield 15, 3) := by decide +kernel
theorem dJ5_append_c97b9_30 : decode cJ5_append_c97b9 30 = .ok (.invokestatic 248, 3) := by decide +kernel
theorem dJ5_append_c97b9_33 : decode cJ5_append_c97b9 33 = .ok (.pop, 1) := by decide +kernel
theorem dJ5_append_c97b9_34 : decode cJ5_append_c97b9 34 = .ok (.goto 14, 3) := by decide +kernel
theorem dJ5_append_c97b9_37 : decode cJ5_append_c97b9 37 = .ok (.iload_n 1, 1) := by decide +kernel
theorem dJ5_append_c97b9_38 : decode cJ5_append_c97b9 38 = .ok (.iload_n 2, 1) := by decide +kernel
theorem dJ5_append_c97b9_39 : decode cJ5_append_c97b9 39 = .ok (.iload_n 3, 1) := by decide +kernel
theorem dJ5_append_c97b9_40 : decode cJ5_append_c97b9 40 = .ok (.aload_n 0, 1) := by decide +kernel
theorem dJ5_append_c97b9_41 : decode cJ5_append_c97b9 41 = .ok (.getfield 15, 3) := by decide +kernel
theorem dJ5_append_c97b9_48 : decode cJ5_append_c97b9 48 = .ok (.aload_n 0, 1) := by decide +kernel
theorem dJ5_append_c97b9_49 : decode cJ5_append_c97b9 49 = .ok (.iload_n 3, 1) := by decide +kernel
theorem dJ5_append_c97b9_50 : decode cJ5_append_c97b9 50 = .ok (.putfield 79, 3) := by decide +kernel
theorem dJ5_append_c97b9_53 : decode cJ5_append_c97b9 53 = .ok (.aload_n 0, 1) := by decide +kernel
theorem dJ5_append_c97b9_54 : decode cJ5_append_c97b9 54 = .ok (.areturn, 1) := by decide +kernel
theorem dJ4_append_bf812_0 : decode cJ4_append_bf812 0 = .ok (.aload_n 0, 1) := by decide +kernel
theorem dJ4_append_bf812_1 : decode cJ4_append_bf812 1 = .ok (.iload_n 1, 1) := by decide +kernel
theorem dJ4_append_bf812_2 : decode cJ4_append_bf812 2 = .ok (.invokespecial 53, 3) := by decide +kernel
theorem dJ4_append_bf812_5 : decode cJ4_append_bf812 5 = .ok (.pop, 1) := by decide +kernel
theorem dJ4_append_bf812_6 : decode cJ4_append_bf812 6 = .ok (.aload_n 0, 1) := by decide +kernel
theorem dJ4_append_bf812_7 : decode cJ4_append_bf812 7 = .ok (.areturn, 1) := by decide +kernel
theorem dJ7_fill_d0a16_0 : decode cJ7_fill_d0a16 0 = .ok (.iconst 0, 1) := by decide +kernel
theorem dJ7_fill_d0a16_1 : decode cJ7_fill_d0a16 1 = .ok (.istore_n 3, 1) := by decide +kernel
theorem dJ7_fill_d0a16_2 : decode cJ7_fill_d0a16 2 = .ok (.aload_n 0, 1) := by decide +kernel
theorem dJ7_fill_d0a16_3 : decode cJ7_fill_d0a16 3 = .ok (.arraylength, 1) := by decide +kernel
theorem dJ7_fill_d0a16_4 : decode cJ7_fill_d0a16 4 = .ok (.istore 4, 2) := by decide +kernel
theorem dJ7_fill_d0a16_6 : decode cJ7_fill_d0a16 6 = .ok (.iload_n 3, 1) := by decide +kernel
theorem dJ7_fill_d0a16_7 : decode cJ7_fill_d0a16 7 = .ok (.iload 4, 2) := by decide +kernel
theorem dJ7_fill_d0a16_9 : decode cJ7_fill_d0a16 9 = .ok (.if_icmp .ge 13, 3) := by decide +kernel
theorem dJ7_fill_d0a16_12 : decode cJ7_fill_d0a16 12 = .ok (.aload_n 0, 1) := by decide +kernel
theorem dJ7_fill_d0a16_13 : decode cJ7_fill_d0a16 13 = .ok (.iload_n 3, 1) := by decide +kernel
theorem dJ7_fill_d0a16_14 : decode cJ7_fill_d0a16 14 = .ok (.lload_n 1, 1) := by decide +kernel
theorem dJ7_fill_d0a16_15 : decode cJ7_fill_d0a16 15 = .ok (.lastore, 1) := by decide +kernel
theorem dJ7_fill_d0a16_16 : decode cJ7_fill_d0a16 16 = .ok (.iinc 3 1, 3) := by decide +kernel
theorem dJ7_fill_d0a16_19 : decode cJ7_fill_d0a16 19 = .ok (.goto (-13), 3) := by decide +kernel
theorem dJ7_fill_d0a16_22 : decode cJ7_fill_d0a16 22 = .ok (.return_, 1) := by decide +kernel
set_option maxRecDepth 100000 in
set_option maxHeartbeats 4000000 in
theorem cJ0_coder_7d493c {l : Launch} {v0 : Option Nat} {σ : HpT} {r : Int32} (h : fJ0_coder_7d493 v0 σ = some r) : IsK σ v0 15 ∧ Ct l yJ0_coder_7d493 cJ0_coder_7d493 1 (some .byte) 0 0 [va_rf v0] σ (.ok (some (.int r))) σ 0 0 := by
  unfold fJ0_coder_7d493 at h
  replace h := bnP_s h
  obtain ⟨u, hk, h⟩ := h
  replace hk := isK_s hk
  refine ⟨hk, ?_⟩
  refine ct_start mi_J0_coder_7d493.1 rfl (al_le (al_1 (rf_cat _) al_n) (Nat.le_of_ble_eq_true rfl)) (ag_1 (rf_cat _) ag_n) (fun Δ Γ B hE hnm => ?_)
  refine g_gstC B sv_RJ0_38 dJ0_coder_7d493_0 ?_
  refine g_if_eq B 13 dJ0_coder_7d493_3 (by decide) (fun hc => ?_) (fun hc => ?_)
  · exact absurd hc (by decide)
  · skip
    refine g_aload_n B 0 dJ0_coder_7d493_6 rfl rfl ?_
    replace h := bnP_s h
    obtain ⟨x1, h2, h⟩ := h
    refine g_getSC B fs_RJ0_15 sv_RJ0_15 dJ0_coder_7d493_7 h2 ?_
    refine g_goto B 14 dJ0_coder_7d493_10 (by decide) ?_
    replace h := bnP_s h
    obtain ⟨u4, h3, h⟩ := h
    replace h := Option.some.inj h
    subst h
    exact g_zret B hE (nrB_s h3) (Nat.zero_le _) (Nat.zero_le _) dJ0_coder_7d493_14
set_option maxRecDepth 100000 in
set_option maxHeartbeats 4000000 in
theorem cJ0_length_8abf5c {l : Launch} {v0 : Option Nat} {σ : HpT} {r : Int32} (h : fJ0_length_8abf5 v0 σ = some r) : IsK σ v0 15 ∧ Ct l yJ0_length_8abf5 cJ0_length_8abf5 1 (some .int) 1 20 [va_rf v0] σ (.ok (some (.int r))) σ 0 0 := by
  unfold fJ0_length_8abf5 at h
  replace h := bnP_s h
  obtain ⟨u, hk, h⟩ := h
  replace hk := isK_s hk
  refine ⟨hk, ?_⟩
  refine ct_start mi_J0_length_8abf5.1 rfl (al_le (al_1 (rf_cat _) al_n) (Nat.le_of_ble_eq_true rfl)) (ag_1 (rf_cat _) ag_n) (fun Δ Γ B hE hnm => ?_)
  refine g_aload_n B 0 dJ0_length_8abf5_0 rfl rfl ?_
  replace h := bnP_s h
  obtain ⟨x1, h2, h⟩ := h
  refine g_getSV B fs_RJ0_9 sv_RJ0_9 dJ0_length_8abf5_1 h2 ?_
  replace h := bnP_s h
  obtain ⟨x3, h4, h⟩ := h
  refine g_alen B (κ := 22) (by decide) dJ0_length_8abf5_4 h4 ?_
  refine g_aload_n B 0 dJ0_length_8abf5_5 rfl rfl ?_
  replace h := bnP_s h
  obtain ⟨x5, h6, h⟩ := h
  refine g_callQs0 (st := [.int x3]) B (cJ0_coder_7d493c h6) rfl mi_J0_coder_7d493 lk_RJ0_335 ⟨Nat.le_of_ble_eq_true rfl, Nat.le_of_ble_eq_true rfl⟩ rfl rfl (Nat.le_of_ble_eq_true rfl) dJ0_length_8abf5_6 (Nat.zero_le _) (Nat.zero_le _) ?_
  refine g_ishr B dJ0_length_8abf5_9 ?_
  replace h := Option.some.inj h
  subst h
  exact g_iret B hE (Nat.zero_le _) (Nat.zero_le _) dJ0_length_8abf5_10
set_option maxRecDepth 100000 in
set_option maxHeartbeats 4000000 in
theorem cJ0_isLatin1_aae02c {l : Launch} {v0 : Option Nat} {σ : HpT} {r : Bool} (h : fJ0_isLatin1_aae02 v0 σ = some r) : IsK σ v0 15 ∧ Ct l yJ0_isLatin1_aae02 cJ0_isLatin1_aae02 1 (some .boolean) 0 0 [va_rf v0] σ (.ok (some (.int (bI r)))) σ 0 0 := by
  unfold fJ0_isLatin1_aae02 at h
  replace h := bnP_s h
  obtain ⟨u, hk, h⟩ := h
  replace hk := isK_s hk
  refine ⟨hk, ?_⟩
  refine ct_start mi_J0_isLatin1_aae02.1 rfl (al_le (al_1 (rf_cat _) al_n) (Nat.le_of_ble_eq_true rfl)) (ag_1 (rf_cat _) ag_n) (fun Δ Γ B hE hnm => ?_)
  refine g_gstC B sv_RJ0_38 dJ0_isLatin1_aae02_0 ?_
  refine g_if_eq B 17 dJ0_isLatin1_aae02_3 (by decide) (fun hc => ?_) (fun hc => ?_)
  · exact absurd hc (by decide)
  · skip
    refine g_aload_n B 0 dJ0_isLatin1_aae02_6 rfl rfl ?_
    replace h := bnP_s h
    obtain ⟨x1, h2, h⟩ := h
    refine g_getSC B fs_RJ0_15 sv_RJ0_15 dJ0_isLatin1_aae02_7 h2 ?_
    refine g_if_ne B 17 dJ0_isLatin1_aae02_10 (by decide) (fun hc => ?_) (fun hc => ?_)
    · replace h := ifn hc h
      refine g_iconst (v := 0) B dJ0_isLatin1_aae02_17 (by decide) ?_
      replace h := Option.some.inj h
      subst h
      exact g_zret B hE rfl (Nat.zero_le _) (Nat.zero_le _) dJ0_isLatin1_aae02_18
    · replace h := ifp hc h
      refine g_iconst (v := 1) B dJ0_isLatin1_aae02_13 (by decide) ?_
      refine g_goto B 18 dJ0_isLatin1_aae02_14 (by decide) ?_
      replace h := Option.some.inj h
      subst h
      exact g_zret B hE rfl (Nat.zero_le _) (Nat.zero_le _) dJ0_isLatin1_aae02_18
set_option maxRecDepth 100000 in
set_option maxHeartbeats 4000000 in
theorem cJ3_checkIndex_8e157c {l : Launch} {v0 : Int32} {v1 : Int32} {v2 : Option Nat} {σ : HpT} {o : Except Nat (Int32)} (h : fJ3_checkIndex_8e157 v0 v1 v2 σ = some o) : Ct l yJ3_checkIndex_8e157 cJ3_checkIndex_8e157 3 (some .int) 0 0 [.int v0, .int v1, va_rf v2] σ (oI o) σ (xc o) (xs o) := by
  unfold fJ3_checkIndex_8e157 at h
  refine ct_start mi_J3_checkIndex_8e157.1 rfl (al_le (al_1 rfl (al_1 rfl (al_1 (rf_cat _) al_n))) (Nat.le_of_ble_eq_true rfl)) (ag_1 rfl (ag_1 rfl (ag_1 (rf_cat _) ag_n))) (fun Δ Γ B hE hnm => ?_)
  refine g_iload_n B 0 dJ3_checkIndex_8e157_0 rfl rfl ?_
  refine g_if_lt B 9 dJ3_checkIndex_8e157_1 (by decide) (fun hc => ?_) (fun hc => ?_)
  · replace h := ifp hc h
    refine g_aload_n B 2 dJ3_checkIndex_8e157_9 rfl rfl ?_
    refine g_iload_n B 0 dJ3_checkIndex_8e157_10 rfl rfl ?_
    refine g_iload_n B 1 dJ3_checkIndex_8e157_11 rfl rfl ?_
    cases h
  · replace h := ifn hc h
    refine g_iload_n B 0 dJ3_checkIndex_8e157_4 rfl rfl ?_
    refine g_iload_n B 1 dJ3_checkIndex_8e157_5 rfl rfl ?_
    refine g_icmp_lt B 16 dJ3_checkIndex_8e157_6 (by decide) (fun hc => ?_) (fun hc => ?_)
    · replace h := ifp hc h
      refine g_iload_n B 0 dJ3_checkIndex_8e157_16 rfl rfl ?_
      replace h := Option.some.inj h
      subst h
      exact g_iret B hE (Nat.zero_le _) (Nat.zero_le _) dJ3_checkIndex_8e157_17
    · replace h := ifn hc h
      refine g_aload_n B 2 dJ3_checkIndex_8e157_9 rfl rfl ?_
      refine g_iload_n B 0 dJ3_checkIndex_8e157_10 rfl rfl ?_
      refine g_iload_n B 1 dJ3_checkIndex_8e157_11 rfl rfl ?_
      cases h
theorem fJ3_any {v0 v1 : Int32} {σ : HpT} (r : Option Nat) : fJ3_checkIndex_8e157 v0 v1 none σ = fJ3_checkIndex_8e157 v0 v1 r σ := by
  unfold fJ3_checkIndex_8e157
  rfl
set_option maxRecDepth 100000 in
set_option maxHeartbeats 4000000 in
theorem cJ0_checkIndex_df160c {l : Launch} {v0 v1 : Int32} {σ : HpT} {r : Unit} (h : fJ0_checkIndex_df160 v0 v1 σ = some r) : Ct l yJ0_checkIndex_df160 cJ0_checkIndex_df160 2 none 1 22 [.int v0, .int v1] σ (.ok none) σ 0 0 := by
  unfold fJ0_checkIndex_df160 at h
  obtain ⟨x1, h1, h⟩ := bnP_s h
  refine ct_start mi_J0_checkIndex_df160.1 rfl (al_le (al_1 rfl (al_1 rfl al_n)) (Nat.le_of_ble_eq_true rfl)) (ag_1 rfl (ag_1 rfl ag_n)) (fun Δ Γ B hE hnm => ?_)
  refine g_iload_n B 0 dJ0_checkIndex_df160_0 rfl rfl ?_
  refine g_iload_n B 1 dJ0_checkIndex_df160_1 rfl rfl ?_
  refine g_gstF B sv_RJ0_1053 dJ0_checkIndex_df160_2 (fun r9 => ?_)
  rw [fJ3_any r9] at h1
  obtain ⟨v9, rfl⟩ : ∃ v, x1 = .ok v := by
    unfold fJ3_checkIndex_8e157 at h1
    split at h1
    · cases h1
    · split at h1
      · exact ⟨_, (Option.some.inj h1).symm⟩
      · cases h1
  refine g_callSs0 (st := []) B (cJ3_checkIndex_8e157c (o := .ok v9) h1) mi_J3_checkIndex_8e157 lk_RJ0_1059 ⟨Nat.le_of_ble_eq_true rfl, Nat.le_of_ble_eq_true rfl⟩ rfl rfl (Nat.le_of_ble_eq_true rfl) dJ0_checkIndex_df160_5 (Nat.zero_le _) (Nat.zero_le _) ?_
  refine g_pop B dJ0_checkIndex_df160_8 rfl ?_
  exact g_vret B hE (Nat.zero_le _) (Nat.zero_le _) dJ0_checkIndex_df160_9
set_option maxRecDepth 100000 in
set_option maxHeartbeats 4000000 in
theorem cJ1_charAt_3b067c {l : Launch} {v0 : Option Nat} {v1 : Int32} {σ : HpT} {r : Int32} (h : fJ1_charAt_3b067 v0 v1 σ = some r) : Ct l yJ1_charAt_3b067 cJ1_charAt_3b067 2 (some .char) 2 43 [va_rf v0, .int v1] σ (.ok (some (.int r))) σ 0 0 := by
  unfold fJ1_charAt_3b067 at h
  refine ct_start mi_J1_charAt_3b067.1 rfl (al_le (al_1 (rf_cat _) (al_1 rfl al_n)) (Nat.le_of_ble_eq_true rfl)) (ag_1 (rf_cat _) (ag_1 rfl ag_n)) (fun Δ Γ B hE hnm => ?_)
  refine g_iload_n B 1 dJ1_charAt_3b067_0 rfl rfl ?_
  refine g_aload_n B 0 dJ1_charAt_3b067_1 rfl rfl ?_
  replace h := bnP_s h
  obtain ⟨x1, h2, h⟩ := h
  refine g_alen B (κ := 22) (by decide) dJ1_charAt_3b067_2 h2 ?_
  replace h := bnP_s h
  obtain ⟨x3, h4, h⟩ := h
  refine g_callSv0 (st := []) B (cJ0_checkIndex_df160c h4) mi_J0_checkIndex_df160 lk_RJ1_9 ⟨Nat.le_of_ble_eq_true rfl, Nat.le_of_ble_eq_true rfl⟩ rfl rfl (Nat.le_of_ble_eq_true rfl) dJ1_charAt_3b067_3 (Nat.zero_le _) (Nat.zero_le _) ?_
  refine g_aload_n B 0 dJ1_charAt_3b067_6 rfl rfl ?_
  refine g_iload_n B 1 dJ1_charAt_3b067_7 rfl rfl ?_
  replace h := bnP_s h
  obtain ⟨x5, h6, h⟩ := h
  refine g_bald B dJ1_charAt_3b067_8 h6 ?_
  refine g_sipush (v := 255) B dJ1_charAt_3b067_9 (by decide) ?_
  refine g_iand B dJ1_charAt_3b067_12 ?_
  refine g_i2c B dJ1_charAt_3b067_13 ?_
  replace h := bnP_s h
  obtain ⟨u8, h7, h⟩ := h
  replace h := Option.some.inj h
  subst h
  exact g_zret B hE (nrC_s h7) (Nat.zero_le _) (Nat.zero_le _) dJ1_charAt_3b067_14
set_option maxRecDepth 100000 in
set_option maxHeartbeats 4000000 in
theorem cJ0_charAt_5068ec {l : Launch} {v0 : Option Nat} {v1 : Int32} {σ : HpT} {r : Int32} (h : fJ0_charAt_5068e v0 v1 σ = some r) : IsK σ v0 15 ∧ Ct l yJ0_charAt_5068e cJ0_charAt_5068e 2 (some .char) 3 64 [va_rf v0, .int v1] σ (.ok (some (.int r))) σ 0 0 := by
  unfold fJ0_charAt_5068e at h
  replace h := bnP_s h
  obtain ⟨u, hk, h⟩ := h
  replace hk := isK_s hk
  refine ⟨hk, ?_⟩
  refine ct_start mi_J0_charAt_5068e.1 rfl (al_le (al_1 (rf_cat _) (al_1 rfl al_n)) (Nat.le_of_ble_eq_true rfl)) (ag_1 (rf_cat _) (ag_1 rfl ag_n)) (fun Δ Γ B hE hnm => ?_)
  refine g_aload_n B 0 dJ0_charAt_5068e_0 rfl rfl ?_
  replace h := bnP_s h
  obtain ⟨x1, h2, h⟩ := h
  refine g_callQs0 (st := []) B (cJ0_isLatin1_aae02c h2) rfl mi_J0_isLatin1_aae02 lk_RJ0_492 ⟨Nat.le_of_ble_eq_true rfl, Nat.le_of_ble_eq_true rfl⟩ rfl rfl (Nat.le_of_ble_eq_true rfl) dJ0_charAt_5068e_1 (Nat.zero_le _) (Nat.zero_le _) ?_
  refine g_if_eq B 16 dJ0_charAt_5068e_4 (by decide) (fun hc => ?_) (fun hc => ?_)
  · replace h := ifn (bI0 hc) h
    refine g_aload_n B 0 dJ0_charAt_5068e_16 rfl rfl ?_
    replace h := bnP_s h
    obtain ⟨x3, h4, h⟩ := h
    refine g_getSV B fs_RJ0_9 sv_RJ0_9 dJ0_charAt_5068e_17 h4 ?_
    refine g_iload_n B 1 dJ0_charAt_5068e_20 rfl rfl ?_
    cases h
  · replace h := ifp (bI1 hc) h
    refine g_aload_n B 0 dJ0_charAt_5068e_7 rfl rfl ?_
    replace h := bnP_s h
    obtain ⟨x5, h6, h⟩ := h
    refine g_getSV B fs_RJ0_9 sv_RJ0_9 dJ0_charAt_5068e_8 h6 ?_
    refine g_iload_n B 1 dJ0_charAt_5068e_11 rfl rfl ?_
    replace h := bnP_s h
    obtain ⟨x7, h8, h⟩ := h
    refine g_callSs0 (st := []) B (cJ1_charAt_3b067c h8) mi_J1_charAt_3b067 lk_RJ0_495 ⟨Nat.le_of_ble_eq_true rfl, Nat.le_of_ble_eq_true rfl⟩ rfl rfl (Nat.le_of_ble_eq_true rfl) dJ0_charAt_5068e_12 (Nat.zero_le _) (Nat.zero_le _) ?_
    replace h := bnP_s h
    obtain ⟨u10, h9, h⟩ := h
    replace h := Option.some.inj h
    subst h
    exact g_zret B hE (nrC_s h9) (Nat.zero_le _) (Nat.zero_le _) dJ0_charAt_5068e_15
set_option maxRecDepth 100000 in
set_option maxHeartbeats 4000000 in
theorem cJ5_init_d00dfc {l : Launch} {v0 : Option Nat} {v1 : Int32} {σ : HpT} {o : Except Nat (Unit)} {σ' : HpT} {a b : Nat} (h : fJ5_init_d00df v0 v1 σ = some (o, σ', a, b)) : IsK σ v0 11 ∧ Ct l yJ5_init_d00df cJ5_init_d00df 2 none 1 21 [va_rf v0, .int v1] σ (oU o) σ' a b := by
  unfold fJ5_init_d00df at h
  replace h := bnP_s h
  obtain ⟨u, hk, h⟩ := h
  replace hk := isK_s hk
  refine ⟨hk, ?_⟩
  refine ct_start mi_J5_init_d00df.1 rfl (al_le (al_1 (rf_cat _) (al_1 rfl al_n)) (Nat.le_of_ble_eq_true rfl)) (ag_1 (rf_cat _) (ag_1 rfl ag_n)) (fun Δ Γ B hE hnm => ?_)
  have hka : 0 + a = a := Nat.zero_add a
  have hkb : 0 + b = b := Nat.zero_add b
  have hla : a ≤ a := Nat.le_refl a
  have hlb : b ≤ b := Nat.le_refl b
  refine g_aload_n B 0 dJ5_init_d00df_0 rfl rfl ?_
  refine g_objInit9 B hk obj_RJ5_3 (by decide) (Nat.le_of_ble_eq_true rfl) dJ5_init_d00df_1 ?_
  refine g_gstC B sv_RJ5_18 dJ5_init_d00df_4 ?_
  refine g_if_eq B 25 dJ5_init_d00df_7 (by decide) (fun hc => ?_) (fun hc => ?_)
  · exact absurd hc (by decide)
  · skip
    refine g_aload_n B 0 dJ5_init_d00df_10 rfl rfl ?_
    refine g_iload_n B 1 dJ5_init_d00df_11 rfl rfl ?_
    replace h := bnA_s h
    rcases h with ⟨e9, h2, e8⟩ | ⟨x1, s3, a4, b5, a6, b7, h2, h, ea, eb⟩
    · exact absurd h2 (by simp [nwA, nwR]; try (split <;> simp))
    · subst ea; subst eb
      have hka := bk hka
      have hkb := bk hkb
      refine g_newarr B (Or.inr (Or.inr (Or.inl ⟨rfl, rfl⟩))) na_byte dJ5_init_d00df_12 h2 (Nat.le_trans (bm hka) hla) (Nat.le_trans (bm hkb) hlb) ?_
      replace h := bnP_s h
      obtain ⟨s10, h9, h⟩ := h
      refine g_putR B fl_RJ5_15 (by decide) (Or.inr ⟨_, rfl⟩) dJ5_init_d00df_14 h9 ?_
      refine g_aload_n B 0 dJ5_init_d00df_17 rfl rfl ?_
      refine g_iconst (v := 0) B dJ5_init_d00df_18 (by decide) ?_
      replace h := bnP_s h
      obtain ⟨s13, h12, h⟩ := h
      refine g_putB B fl_RJ5_22 (by decide) dJ5_init_d00df_19 h12 ?_
      refine g_goto B 38 dJ5_init_d00df_22 (by decide) ?_
      obtain ⟨w1, w2, w3, w4⟩ := inA h
      clear h
      subst w1
      subst w2
      subst w3
      subst w4
      exact g_vret B hE (Nat.le_trans (Nat.le_of_eq hka) hla) (Nat.le_trans (Nat.le_of_eq hkb) hlb) dJ5_init_d00df_38
set_option maxRecDepth 100000 in
set_option maxHeartbeats 4000000 in
theorem cJ4_init_da8c8c {l : Launch} {v0 : Option Nat} {σ : HpT} {o : Except Nat (Unit)} {σ' : HpT} {a b : Nat} (h : fJ4_init_da8c8 v0 σ = some (o, σ', a, b)) : IsK σ v0 11 ∧ Ct l yJ4_init_da8c8 cJ4_init_da8c8 1 none 2 42 [va_rf v0] σ (oU o) σ' a b := by
  unfold fJ4_init_da8c8 at h
  replace h := bnP_s h
  obtain ⟨u, hk, h⟩ := h
  replace hk := isK_s hk
  refine ⟨hk, ?_⟩
  refine ct_start mi_J4_init_da8c8.1 rfl (al_le (al_1 (rf_cat _) al_n) (Nat.le_of_ble_eq_true rfl)) (ag_1 (rf_cat _) ag_n) (fun Δ Γ B hE hnm => ?_)
  have hka : 0 + a = a := Nat.zero_add a
  have hkb : 0 + b = b := Nat.zero_add b
  have hla : a ≤ a := Nat.le_refl a
  have hlb : b ≤ b := Nat.le_refl b
  refine g_aload_n B 0 dJ4_init_da8c8_0 rfl rfl ?_
  refine g_bipush (v := 16) B dJ4_init_da8c8_1 (by decide) ?_
  replace h := bnA_s h
  rcases h with ⟨e9, h2, e8⟩ | ⟨x1, s3, a4, b5, a6, b7, h2, h, ea, eb⟩
  · subst e8
    exact g_callIx (st := []) B (cJ5_init_d00dfc (o := .error e9) h2) mi_J5_init_d00df lk_RJ4_1 ⟨Nat.le_of_ble_eq_true rfl, Nat.le_of_ble_eq_true rfl⟩ rfl rfl (Nat.le_of_ble_eq_true rfl) dJ4_init_da8c8_3 (Nat.le_trans (Nat.le_of_eq hka) hla) (Nat.le_trans (Nat.le_of_eq hkb) hlb) hE
  · subst ea; subst eb
    have hka := bk hka
    have hkb := bk hkb
    refine g_callIvA (st := []) B (cJ5_init_d00dfc (o := .ok x1) h2) mi_J5_init_d00df lk_RJ4_1 ⟨Nat.le_of_ble_eq_true rfl, Nat.le_of_ble_eq_true rfl⟩ rfl rfl (Nat.le_of_ble_eq_true rfl) dJ4_init_da8c8_3 (Nat.le_trans (bm hka) hla) (Nat.le_trans (bm hkb) hlb) ?_
    obtain ⟨w1, w2, w3, w4⟩ := inA h
    clear h
    subst w1
    subst w2
    subst w3
    subst w4
    exact g_vret B hE (Nat.le_trans (Nat.le_of_eq hka) hla) (Nat.le_trans (Nat.le_of_eq hkb) hlb) dJ4_init_da8c8_6
set_option maxRecDepth 100000 in
set_option maxHeartbeats 4000000 in
theorem cJxa1e45_init_da8c8c {l : Launch} {v0 : Option Nat} {σ : HpT} {r : Unit} (h : fJxa1e45_init_da8c8 v0 σ = some r) : IsK σ v0 12 ∧ Ct l yJxa1e45_init_da8c8 cJxa1e45_init_da8c8 1 none 1 21 [va_rf v0] σ (.ok none) σ 0 0 := by
  unfold fJxa1e45_init_da8c8 at h
  replace h := bnP_s h
  obtain ⟨u, hk, h⟩ := h
  replace hk := isK_s hk
  refine ⟨hk, ?_⟩
  refine ct_start mi_Jxa1e45_init_da8c8.1 rfl (al_le (al_1 (rf_cat _) al_n) (Nat.le_of_ble_eq_true rfl)) (ag_1 (rf_cat _) ag_n) (fun Δ Γ B hE hnm => ?_)
  refine g_aload_n B 0 dJxa1e45_init_da8c8_0 rfl rfl ?_
  refine g_objInit9 B hk obj_RJxa1e45_1 (by decide) (Nat.le_of_ble_eq_true rfl) dJxa1e45_init_da8c8_1 ?_
  replace h := Option.some.inj h
  subst h
  exact g_vret B hE (Nat.zero_le _) (Nat.zero_le _) dJxa1e45_init_da8c8_4
set_option maxRecDepth 100000 in
set_option maxHeartbeats 4000000 in
theorem cJxc12de_init_da8c8c {l : Launch} {v0 : Option Nat} {σ : HpT} {σ' : HpT} (h : fJxc12de_init_da8c8 v0 σ = some σ') : IsK σ v0 12 ∧ Ct l yJxc12de_init_da8c8 cJxc12de_init_da8c8 1 none 2 41 [va_rf v0] σ (.ok none) σ' 0 0 := by
  unfold fJxc12de_init_da8c8 at h
  replace h := bnP_s h
  obtain ⟨u, hk, h⟩ := h
  replace hk := isK_s hk
  refine ⟨hk, ?_⟩
  refine ct_start mi_Jxc12de_init_da8c8.1 rfl (al_le (al_1 (rf_cat _) al_n) (Nat.le_of_ble_eq_true rfl)) (ag_1 (rf_cat _) ag_n) (fun Δ Γ B hE hnm => ?_)
  refine g_aload_n B 0 dJxc12de_init_da8c8_0 rfl rfl ?_
  replace h := bnP_s h
  obtain ⟨x1, h2, h⟩ := h
  refine g_callIv0 (st := []) B (cJxa1e45_init_da8c8c h2) mi_Jxa1e45_init_da8c8 lk_RJxc12de_1 ⟨Nat.le_of_ble_eq_true rfl, Nat.le_of_ble_eq_true rfl⟩ rfl rfl (Nat.le_of_ble_eq_true rfl) dJxc12de_init_da8c8_1 (Nat.zero_le _) (Nat.zero_le _) ?_
  refine g_aload_n B 0 dJxc12de_init_da8c8_4 rfl rfl ?_
  refine g_iconst (v := 0) B dJxc12de_init_da8c8_5 (by decide) ?_
  replace h := bnP_s h
  obtain ⟨s5, h4, h⟩ := h
  refine g_putI B fl_RJxc12de_7 (by decide) dJxc12de_init_da8c8_6 h4 ?_
  replace h := Option.some.inj h
  subst h
  exact g_vret B hE (Nat.zero_le _) (Nat.zero_le _) dJxc12de_init_da8c8_9
set_option maxRecDepth 100000 in
set_option maxHeartbeats 4000000 in
theorem cJx4a65c_init_da8c8c {l : Launch} {v0 : Option Nat} {σ : HpT} {σ' : HpT} (h : fJx4a65c_init_da8c8 v0 σ = some σ') : IsK σ v0 12 ∧ Ct l yJx4a65c_init_da8c8 cJx4a65c_init_da8c8 1 none 3 61 [va_rf v0] σ (.ok none) σ' 0 0 := by
  unfold fJx4a65c_init_da8c8 at h
  replace h := bnP_s h
  obtain ⟨u, hk, h⟩ := h
  replace hk := isK_s hk
  refine ⟨hk, ?_⟩
  refine ct_start mi_Jx4a65c_init_da8c8.1 rfl (al_le (al_1 (rf_cat _) al_n) (Nat.le_of_ble_eq_true rfl)) (ag_1 (rf_cat _) ag_n) (fun Δ Γ B hE hnm => ?_)
  refine g_aload_n B 0 dJx4a65c_init_da8c8_0 rfl rfl ?_
  replace h := bnP_s h
  obtain ⟨s3, h2, h⟩ := h
  refine g_callIv0 (st := []) B (cJxc12de_init_da8c8c h2) mi_Jxc12de_init_da8c8 lk_RJx4a65c_1 ⟨Nat.le_of_ble_eq_true rfl, Nat.le_of_ble_eq_true rfl⟩ rfl rfl (Nat.le_of_ble_eq_true rfl) dJx4a65c_init_da8c8_1 (Nat.zero_le _) (Nat.zero_le _) ?_
  refine g_aload_n B 0 dJx4a65c_init_da8c8_4 rfl rfl ?_
  refine g_gstE B sv_RJx4a65c_39 dJx4a65c_init_da8c8_5 ?_
  replace h := bnP_s h
  obtain ⟨s6, h5, h⟩ := h
  refine g_putR B fl_RJx4a65c_9 (by decide) (Or.inr ⟨_, rfl⟩) dJx4a65c_init_da8c8_8 h5 ?_
  replace h := Option.some.inj h
  subst h
  exact g_vret B hE (Nat.zero_le _) (Nat.zero_le _) dJx4a65c_init_da8c8_11
set_option maxRecDepth 100000 in
set_option maxHeartbeats 4000000 in
theorem cJx4a65c_size_8abf5c {l : Launch} {v0 : Option Nat} {σ : HpT} {r : Int32} (h : fJx4a65c_size_8abf5 v0 σ = some r) : IsK σ v0 12 ∧ Ct l yJx4a65c_size_8abf5 cJx4a65c_size_8abf5 1 (some .int) 0 0 [va_rf v0] σ (.ok (some (.int r))) σ 0 0 := by
  unfold fJx4a65c_size_8abf5 at h
  replace h := bnP_s h
  obtain ⟨u, hk, h⟩ := h
  replace hk := isK_s hk
  refine ⟨hk, ?_⟩
  refine ct_start mi_Jx4a65c_size_8abf5.1 rfl (al_le (al_1 (rf_cat _) al_n) (Nat.le_of_ble_eq_true rfl)) (ag_1 (rf_cat _) ag_n) (fun Δ Γ B hE hnm => ?_)
  refine g_aload_n B 0 dJx4a65c_size_8abf5_0 rfl rfl ?_
  replace h := bnP_s h
  obtain ⟨x1, h2, h⟩ := h
  refine g_getI B fl_RJx4a65c_48 (by decide) dJx4a65c_size_8abf5_1 h2 ?_
  replace h := Option.some.inj h
  subst h
  exact g_iret B hE (Nat.zero_le _) (Nat.zero_le _) dJx4a65c_size_8abf5_4
set_option maxRecDepth 100000 in
set_option maxHeartbeats 4000000 in
theorem cJ15_checkIndex_7cf53c {l : Launch} {v0 : Int32} {v1 : Int32} {σ : HpT} {r : Int32} (h : fJ15_checkIndex_7cf53 v0 v1 σ = some r) : Ct l yJ15_checkIndex_7cf53 cJ15_checkIndex_7cf53 2 (some .int) 1 22 [.int v0, .int v1] σ (.ok (some (.int r))) σ 0 0 := by
  unfold fJ15_checkIndex_7cf53 at h
  refine ct_start mi_J15_checkIndex_7cf53.1 rfl (al_le (al_1 rfl (al_1 rfl al_n)) (Nat.le_of_ble_eq_true rfl)) (ag_1 rfl (ag_1 rfl ag_n)) (fun Δ Γ B hE hnm => ?_)
  refine g_iload_n B 0 dJ15_checkIndex_7cf53_0 rfl rfl ?_
  refine g_iload_n B 1 dJ15_checkIndex_7cf53_1 rfl rfl ?_
  refine g_null B dJ15_checkIndex_7cf53_2 ?_
  replace h := bnP_s h
  obtain ⟨x1, h2x, h⟩ := h
  have h2 := exO_s h2x
  refine g_callSs0 (st := []) B (cJ3_checkIndex_8e157c (o := .ok x1) h2) mi_J3_checkIndex_8e157 lk_RJ15_105 ⟨Nat.le_of_ble_eq_true rfl, Nat.le_of_ble_eq_true rfl⟩ rfl rfl (Nat.le_of_ble_eq_true rfl) dJ15_checkIndex_7cf53_3 (Nat.zero_le _) (Nat.zero_le _) ?_
  replace h := Option.some.inj h
  subst h
  exact g_iret B hE (Nat.zero_le _) (Nat.zero_le _) dJ15_checkIndex_7cf53_6
set_option maxRecDepth 100000 in
set_option maxHeartbeats 4000000 in
theorem cJx4a65c_elementData_915e3c {l : Launch} {v0 : Option Nat} {v1 : Int32} {σ : HpT} {r : Option Nat} (h : fJx4a65c_elementData_915e3 v0 v1 σ = some r) : IsK σ v0 12 ∧ Ct l yJx4a65c_elementData_915e3 cJx4a65c_elementData_915e3 2 (some (.object "java/lang/Object")) 0 0 [va_rf v0, .int v1] σ (.ok (some (va_rf r))) σ 0 0 := by
  unfold fJx4a65c_elementData_915e3 at h
  replace h := bnP_s h
  obtain ⟨u, hk, h⟩ := h
  replace hk := isK_s hk
  refine ⟨hk, ?_⟩
  refine ct_start mi_Jx4a65c_elementData_915e3.1 rfl (al_le (al_1 (rf_cat _) (al_1 rfl al_n)) (Nat.le_of_ble_eq_true rfl)) (ag_1 (rf_cat _) (ag_1 rfl ag_n)) (fun Δ Γ B hE hnm => ?_)
  refine g_aload_n B 0 dJx4a65c_elementData_915e3_0 rfl rfl ?_
  replace h := bnP_s h
  obtain ⟨x1, h2, h⟩ := h
  refine g_getR B fl_RJx4a65c_9 (by decide) dJx4a65c_elementData_915e3_1 h2 ?_
  refine g_iload_n B 1 dJx4a65c_elementData_915e3_4 rfl rfl ?_
  replace h := bnP_s h
  obtain ⟨x3, h4, h⟩ := h
  refine g_ralds B (κ := 24) (by decide) rfl dJx4a65c_elementData_915e3_5 h4 ?_
  replace h := Option.some.inj h
  subst h
  exact g_aret B hE (Or.inl ⟨_, rfl⟩) (Nat.zero_le _) (Nat.zero_le _) dJx4a65c_elementData_915e3_6
set_option maxRecDepth 100000 in
set_option maxHeartbeats 4000000 in
theorem cJx4a65c_get_915e3c {l : Launch} {v0 : Option Nat} {v1 : Int32} {σ : HpT} {r : Option Nat} (h : fJx4a65c_get_915e3 v0 v1 σ = some r) : IsK σ v0 12 ∧ Ct l yJx4a65c_get_915e3 cJx4a65c_get_915e3 2 (some (.object "java/lang/Object")) 2 43 [va_rf v0, .int v1] σ (.ok (some (va_rf r))) σ 0 0 := by
  unfold fJx4a65c_get_915e3 at h
  replace h := bnP_s h
  obtain ⟨u, hk, h⟩ := h
  replace hk := isK_s hk
  refine ⟨hk, ?_⟩
  refine ct_start mi_Jx4a65c_get_915e3.1 rfl (al_le (al_1 (rf_cat _) (al_1 rfl al_n)) (Nat.le_of_ble_eq_true rfl)) (ag_1 (rf_cat _) (ag_1 rfl ag_n)) (fun Δ Γ B hE hnm => ?_)
  refine g_iload_n B 1 dJx4a65c_get_915e3_0 rfl rfl ?_
  refine g_aload_n B 0 dJx4a65c_get_915e3_1 rfl rfl ?_
  replace h := bnP_s h
  obtain ⟨x1, h2, h⟩ := h
  refine g_getI B fl_RJx4a65c_48 (by decide) dJx4a65c_get_915e3_2 h2 ?_
  replace h := bnP_s h
  obtain ⟨x3, h4, h⟩ := h
  refine g_callSs0 (st := []) B (cJ15_checkIndex_7cf53c h4) mi_J15_checkIndex_7cf53 lk_RJx4a65c_118 ⟨Nat.le_of_ble_eq_true rfl, Nat.le_of_ble_eq_true rfl⟩ rfl rfl (Nat.le_of_ble_eq_true rfl) dJx4a65c_get_915e3_5 (Nat.zero_le _) (Nat.zero_le _) ?_
  refine g_pop B dJx4a65c_get_915e3_8 rfl ?_
  refine g_aload_n B 0 dJx4a65c_get_915e3_9 rfl rfl ?_
  refine g_iload_n B 1 dJx4a65c_get_915e3_10 rfl rfl ?_
  replace h := bnP_s h
  obtain ⟨x5, h6, h⟩ := h
  refine g_callVs0 (st := []) B (cJx4a65c_elementData_915e3c h6) (Nat.le_of_ble_eq_true rfl) rfl rfl mi_Jx4a65c_elementData_915e3 lk_RJx4a65c_123 ⟨Nat.le_of_ble_eq_true rfl, Nat.le_of_ble_eq_true rfl⟩ rfl rfl (Nat.le_of_ble_eq_true rfl) dJx4a65c_get_915e3_11 (Nat.zero_le _) (Nat.zero_le _) ?_
  replace h := Option.some.inj h
  subst h
  exact g_aret B hE (Or.inl ⟨_, rfl⟩) (Nat.zero_le _) (Nat.zero_le _) dJx4a65c_get_915e3_14
set_option maxRecDepth 100000 in
set_option maxHeartbeats 4000000 in
theorem cJ8_newLength_cabccc {l : Launch} {v0 : Int32} {v1 : Int32} {v2 : Int32} {σ : HpT} {r : Int32} (h : fJ8_newLength_cabcc v0 v1 v2 σ = some r) : Ct l yJ8_newLength_cabcc cJ8_newLength_cabcc 4 (some .int) 1 21 [.int v0, .int v1, .int v2] σ (.ok (some (.int r))) σ 0 0 := by
  unfold fJ8_newLength_cabcc at h
  refine ct_start mi_J8_newLength_cabcc.1 rfl (al_le (al_1 rfl (al_1 rfl (al_1 rfl al_n))) (Nat.le_of_ble_eq_true rfl)) (ag_1 rfl (ag_1 rfl (ag_1 rfl ag_n))) (fun Δ Γ B hE hnm => ?_)
  refine g_iload_n B 0 dJ8_newLength_cabcc_0 rfl rfl ?_
  refine g_iload_n B 1 dJ8_newLength_cabcc_1 rfl rfl ?_
  refine g_iload_n B 2 dJ8_newLength_cabcc_2 rfl rfl ?_
  refine g_mmax B mt_RJ8_194 (by decide) (Nat.le_of_ble_eq_true rfl) dJ8_newLength_cabcc_3 (Nat.zero_le _) (Nat.zero_le _) ?_
  refine g_iadd B dJ8_newLength_cabcc_6 ?_
  refine g_istore_n B dJ8_newLength_cabcc_7 rfl (Nat.le_of_ble_eq_true rfl) (s1_c (f1_k rfl (f1_k rfl (f1_1 rfl rfl f1_n)))) ?_
  refine g_iconst (v := 0) B dJ8_newLength_cabcc_8 (by decide) ?_
  refine g_iload_n B 0 dJ8_newLength_cabcc_9 rfl rfl ?_
  refine g_icmp_ge B 21 dJ8_newLength_cabcc_10 (by decide) (fun hc => ?_) (fun hc => ?_)
  · replace h := ifp hc h
    refine g_iload_n B 1 dJ8_newLength_cabcc_21 rfl rfl ?_
    refine g_iload_n B 2 dJ8_newLength_cabcc_22 rfl rfl ?_
    cases h
  · replace h := ifn hc h
    refine g_iload_n B 0 dJ8_newLength_cabcc_13 rfl rfl ?_
    refine g_ldc B cs_RJ8_200 dJ8_newLength_cabcc_14 ?_
    refine g_icmp_gt B 21 dJ8_newLength_cabcc_16 (by decide) (fun hc => ?_) (fun hc => ?_)
    · replace h := ifp hc h
      refine g_iload_n B 1 dJ8_newLength_cabcc_21 rfl rfl ?_
      refine g_iload_n B 2 dJ8_newLength_cabcc_22 rfl rfl ?_
      cases h
    · replace h := ifn hc h
      refine g_iload_n B 0 dJ8_newLength_cabcc_19 rfl rfl ?_
      replace h := Option.some.inj h
      subst h
      exact g_iret B hE (Nat.zero_le _) (Nat.zero_le _) dJ8_newLength_cabcc_20
set_option maxRecDepth 100000 in
set_option maxHeartbeats 4000000 in
theorem cJx4a65c_grow_92f84c {l : Launch} {v0 : Option Nat} {v1 : Int32} {σ : HpT} {o : Except Nat (Option Nat)} {σ' : HpT} {a b : Nat} (h : fJx4a65c_grow_92f84 v0 v1 σ = some (o, σ', a, b)) : IsK σ v0 12 ∧ Ct l yJx4a65c_grow_92f84 cJx4a65c_grow_92f84 4 (some (.array (.object "java/lang/Object"))) 2 44 [va_rf v0, .int v1] σ (oA o) σ' a b := by
  unfold fJx4a65c_grow_92f84 at h
  replace h := bnP_s h
  obtain ⟨u, hk, h⟩ := h
  replace hk := isK_s hk
  refine ⟨hk, ?_⟩
  refine ct_start mi_Jx4a65c_grow_92f84.1 rfl (al_le (al_1 (rf_cat _) (al_1 rfl al_n)) (Nat.le_of_ble_eq_true rfl)) (ag_1 (rf_cat _) (ag_1 rfl ag_n)) (fun Δ Γ B hE hnm => ?_)
  have hka : 0 + a = a := Nat.zero_add a
  have hkb : 0 + b = b := Nat.zero_add b
  have hla : a ≤ a := Nat.le_refl a
  have hlb : b ≤ b := Nat.le_refl b
  refine g_aload_n B 0 dJx4a65c_grow_92f84_0 rfl rfl ?_
  replace h := bnP_s h
  obtain ⟨x1, h2, h⟩ := h
  refine g_getR B fl_RJx4a65c_9 (by decide) dJx4a65c_grow_92f84_1 h2 ?_
  replace h := bnP_s h
  obtain ⟨x3, h4, h⟩ := h
  refine g_alen B (κ := 24) (by decide) dJx4a65c_grow_92f84_4 h4 ?_
  refine g_istore_n B dJx4a65c_grow_92f84_5 rfl (Nat.le_of_ble_eq_true rfl) (s1_c (f1_k rfl (f1_1 rfl rfl f1_n))) ?_
  refine g_iload_n B 0 dJx4a65c_grow_92f84_6 rfl rfl ?_
  refine g_if_gt B 20 dJx4a65c_grow_92f84_7 (by decide) (fun hc => ?_) (fun hc => ?_)
  · replace h := ifp hc h
    refine g_iload_n B 0 dJx4a65c_grow_92f84_20 rfl rfl ?_
    refine g_iload_n B 2 dJx4a65c_grow_92f84_21 rfl rfl ?_
    refine g_iload_n B 0 dJx4a65c_grow_92f84_22 rfl rfl ?_
    refine g_isub B dJx4a65c_grow_92f84_23 ?_
    refine g_iload_n B 0 dJx4a65c_grow_92f84_24 rfl rfl ?_
    refine g_iconst (v := 1) B dJx4a65c_grow_92f84_25 (by decide) ?_
    refine g_ishr B dJx4a65c_grow_92f84_26 ?_
    replace h := bnP_s h
    obtain ⟨x5, h6, h⟩ := h
    refine g_callSs0 (st := []) B (cJ8_newLength_cabccc h6) mi_J8_newLength_cabcc lk_RJx4a65c_73 ⟨Nat.le_of_ble_eq_true rfl, Nat.le_of_ble_eq_true rfl⟩ rfl rfl (Nat.le_of_ble_eq_true rfl) dJx4a65c_grow_92f84_27 (Nat.le_trans (bm hka) hla) (Nat.le_trans (bm hkb) hlb) ?_
    refine g_istore_n B dJx4a65c_grow_92f84_30 rfl (Nat.le_of_ble_eq_true rfl) (s1_c (f1_1 rfl rfl (f1_k rfl (f1_k rfl f1_n)))) ?_
    refine g_aload_n B 2 dJx4a65c_grow_92f84_31 rfl rfl ?_
    refine g_aload_n B 2 dJx4a65c_grow_92f84_32 rfl rfl ?_
    replace h := bnP_s h
    obtain ⟨x7, h8, h⟩ := h
    refine g_getR B fl_RJx4a65c_9 (by decide) dJx4a65c_grow_92f84_33 h8 ?_
    refine g_iload_n B 0 dJx4a65c_grow_92f84_36 rfl rfl ?_
    cases h
  · replace h := ifn hc h
    refine g_aload_n B 1 dJx4a65c_grow_92f84_10 rfl rfl ?_
    replace h := bnP_s h
    obtain ⟨x9, h10, h⟩ := h
    refine g_getR B fl_RJx4a65c_9 (by decide) dJx4a65c_grow_92f84_11 h10 ?_
    refine g_gstE B sv_RJx4a65c_39 dJx4a65c_grow_92f84_14 ?_
    replace h := bnP_s h
    obtain ⟨u11, h12, h⟩ := h
    refine g_acmpE B 45 dJx4a65c_grow_92f84_17 (by decide) h12 ?_
    refine g_aload_n B 1 dJx4a65c_grow_92f84_45 rfl rfl ?_
    refine g_bipush (v := 10) B dJx4a65c_grow_92f84_46 (by decide) ?_
    refine g_iload_n B 2 dJx4a65c_grow_92f84_48 rfl rfl ?_
    refine g_mmax B mt_RJx4a65c_79 (by decide) (Nat.le_of_ble_eq_true rfl) dJx4a65c_grow_92f84_49 (Nat.le_trans (bm hka) hla) (Nat.le_trans (bm hkb) hlb) ?_
    replace h := bnA_s h
    rcases h with ⟨e9, h14, e8⟩ | ⟨x13, s15, a16, b17, a18, b19, h14, h, ea, eb⟩
    · exact absurd h14 (by simp [nwA, nwR]; try (split <;> simp))
    · subst ea; subst eb
      have hka := bk hka
      have hkb := bk hkb
      refine g_anew B (κ := 24) (by decide) an_RJx4a65c_7.1 an_RJx4a65c_7.2 (fun _ => rfl) (by decide +kernel : _ = "[Ljava/lang/Object;") dJx4a65c_grow_92f84_52 h14 (Nat.le_trans (bm hka) hla) (Nat.le_trans (bm hkb) hlb) ?_
      refine g_dup_x1 B dJx4a65c_grow_92f84_55 (rf_cat _) (rf_cat _) ?_
      replace h := bnP_s h
      obtain ⟨s22, h21, h⟩ := h
      refine g_putR B fl_RJx4a65c_9 (by decide) (Or.inr ⟨_, rfl⟩) dJx4a65c_grow_92f84_56 h21 ?_
      obtain ⟨w1, w2, w3, w4⟩ := inA h
      clear h
      subst w1
      subst w2
      subst w3
      subst w4
      exact g_aret B hE (Or.inr ⟨_, rfl⟩) (Nat.le_trans (Nat.le_of_eq hka) hla) (Nat.le_trans (Nat.le_of_eq hkb) hlb) dJx4a65c_grow_92f84_59
set_option maxRecDepth 100000 in
set_option maxHeartbeats 4000000 in
theorem cJx4a65c_grow_d5877c {l : Launch} {v0 : Option Nat} {σ : HpT} {o : Except Nat (Option Nat)} {σ' : HpT} {a b : Nat} (h : fJx4a65c_grow_d5877 v0 σ = some (o, σ', a, b)) : IsK σ v0 12 ∧ Ct l yJx4a65c_grow_d5877 cJx4a65c_grow_d5877 1 (some (.array (.object "java/lang/Object"))) 3 67 [va_rf v0] σ (oA o) σ' a b := by
  unfold fJx4a65c_grow_d5877 at h
  replace h := bnP_s h
  obtain ⟨u, hk, h⟩ := h
  replace hk := isK_s hk
  refine ⟨hk, ?_⟩
  refine ct_start mi_Jx4a65c_grow_d5877.1 rfl (al_le (al_1 (rf_cat _) al_n) (Nat.le_of_ble_eq_true rfl)) (ag_1 (rf_cat _) ag_n) (fun Δ Γ B hE hnm => ?_)
  have hka : 0 + a = a := Nat.zero_add a
  have hkb : 0 + b = b := Nat.zero_add b
  have hla : a ≤ a := Nat.le_refl a
  have hlb : b ≤ b := Nat.le_refl b
  refine g_aload_n B 0 dJx4a65c_grow_d5877_0 rfl rfl ?_
  refine g_aload_n B 0 dJx4a65c_grow_d5877_1 rfl rfl ?_
  replace h := bnP_s h
  obtain ⟨x1, h2, h⟩ := h
  refine g_getI B fl_RJx4a65c_48 (by decide) dJx4a65c_grow_d5877_2 h2 ?_
  refine g_iconst (v := 1) B dJx4a65c_grow_d5877_5 (by decide) ?_
  refine g_iadd B dJx4a65c_grow_d5877_6 ?_
  replace h := bnO_s h
  obtain ⟨x3, s5, a6, b7, a8, b9, h4, h, ea, eb⟩ := h
  subst ea; subst eb
  have hka := bk hka
  have hkb := bk hkb
  refine g_callVsA (st := []) B (cJx4a65c_grow_92f84c (o := .ok x3) h4) (Nat.le_of_ble_eq_true rfl) rfl rfl mi_Jx4a65c_grow_92f84 lk_RJx4a65c_69 ⟨Nat.le_of_ble_eq_true rfl, Nat.le_of_ble_eq_true rfl⟩ rfl rfl (Nat.le_of_ble_eq_true rfl) dJx4a65c_grow_d5877_7 (Nat.le_trans (bm hka) hla) (Nat.le_trans (bm hkb) hlb) ?_
  obtain ⟨w1, w2, w3, w4⟩ := inA h
  clear h
  subst w1
  subst w2
  subst w3
  subst w4
  exact g_aret B hE (Or.inr ⟨_, rfl⟩) (Nat.le_trans (Nat.le_of_eq hka) hla) (Nat.le_trans (Nat.le_of_eq hkb) hlb) dJx4a65c_grow_d5877_10
set_option maxRecDepth 100000 in
set_option maxHeartbeats 4000000 in
theorem cJx4a65c_add_72be8c {l : Launch} {v0 : Option Nat} {v1 : Option Nat} {v2 : Option Nat} {v3 : Int32} {σ : HpT} {o : Except Nat (Unit)} {σ' : HpT} {a b : Nat} (h : fJx4a65c_add_72be8 v0 v1 v2 v3 σ = some (o, σ', a, b)) : IsK σ v0 12 ∧ Ct l yJx4a65c_add_72be8 cJx4a65c_add_72be8 4 none 4 87 [va_rf v0, va_rf v1, va_rf v2, .int v3] σ (oU o) σ' a b := by
  unfold fJx4a65c_add_72be8 at h
  replace h := bnP_s h
  obtain ⟨u, hk, h⟩ := h
  replace hk := isK_s hk
  refine ⟨hk, ?_⟩
  refine ct_start mi_Jx4a65c_add_72be8.1 rfl (al_le (al_1 (rf_cat _) (al_1 (rf_cat _) (al_1 (rf_cat _) (al_1 rfl al_n)))) (Nat.le_of_ble_eq_true rfl)) (ag_1 (rf_cat _) (ag_1 (rf_cat _) (ag_1 (rf_cat _) (ag_1 rfl ag_n)))) (fun Δ Γ B hE hnm => ?_)
  have hka : 0 + a = a := Nat.zero_add a
  have hkb : 0 + b = b := Nat.zero_add b
  have hla : a ≤ a := Nat.le_refl a
  have hlb : b ≤ b := Nat.le_refl b
  refine g_iload_n B 3 dJx4a65c_add_72be8_0 rfl rfl ?_
  refine g_aload_n B 2 dJx4a65c_add_72be8_1 rfl rfl ?_
  replace h := bnP_s h
  obtain ⟨x1, h2, h⟩ := h
  refine g_alen B (κ := 24) (by decide) dJx4a65c_add_72be8_2 h2 ?_
  replace h := bnA_o h
  obtain ⟨z26, s15, a16, b17, h4, er7, h, la, lb⟩ := h
  have k6 : ∀ j3, z26 = .ok j3 → GW Δ Γ (0 + a16) (0 + b17) 11 [(0, va_rf v0), (1, va_rf v1), (2, va_rf j3), (3, .int v3)] [] s15 := by
    intro j3 ej
    replace h := h _ ej
    obtain ⟨a18, b19, h, ea, eb⟩ := h
    subst ea; subst eb
    have hka := bk hka
    have hkb := bk hkb
    refine g_aload_n B 2 dJx4a65c_add_72be8_11 rfl rfl ?_
    refine g_iload_n B 3 dJx4a65c_add_72be8_12 rfl rfl ?_
    refine g_aload_n B 1 dJx4a65c_add_72be8_13 rfl rfl ?_
    replace h := bnP_s h
    obtain ⟨s22, h21, h⟩ := h
    refine g_oast B oa_A oa_W dJx4a65c_add_72be8_14 h21 ?_
    refine g_aload_n B 0 dJx4a65c_add_72be8_15 rfl rfl ?_
    refine g_iload_n B 3 dJx4a65c_add_72be8_16 rfl rfl ?_
    refine g_iconst (v := 1) B dJx4a65c_add_72be8_17 (by decide) ?_
    refine g_iadd B dJx4a65c_add_72be8_18 ?_
    replace h := bnP_s h
    obtain ⟨s25, h24, h⟩ := h
    refine g_putI B fl_RJx4a65c_48 (by decide) dJx4a65c_add_72be8_19 h24 ?_
    obtain ⟨w1, w2, w3, w4⟩ := inA h
    clear h
    subst w1
    subst w2
    subst w3
    subst w4
    exact g_vret B hE (Nat.le_trans (Nat.le_of_eq hka) hla) (Nat.le_trans (Nat.le_of_eq hkb) hlb) dJx4a65c_add_72be8_22
  clear h
  have h := h4
  clear h4
  replace hla := Nat.le_trans (bj hka la) hla
  replace hlb := Nat.le_trans (bj hkb lb) hlb
  replace hka : 0 + a16 = _ := rfl
  replace hkb : 0 + b17 = _ := rfl
  refine g_icmp_ne B 11 dJx4a65c_add_72be8_3 (by decide) (fun hc => ?_) (fun hc => ?_)
  · replace h := ifn hc h
    obtain ⟨w1, w2, w3, w4⟩ := inA h
    clear h
    subst w1
    subst w2
    subst w3
    subst w4
    refine g_cost hka hkb ?_
    exact g_sub [0, 1, 2, 3] rfl (k6 _ rfl)
  · replace h := ifp hc h
    refine g_aload_n B 0 dJx4a65c_add_72be8_6 rfl rfl ?_
    replace h := bnO_s h
    obtain ⟨x8, s10, a11, b12, a13, b14, h9, h, ea, eb⟩ := h
    subst ea; subst eb
    have hka := bk hka
    have hkb := bk hkb
    refine g_callVsA (st := []) B (cJx4a65c_grow_d5877c (o := .ok x8) h9) (Nat.le_of_ble_eq_true rfl) rfl rfl mi_Jx4a65c_grow_d5877 lk_RJx4a65c_129 ⟨Nat.le_of_ble_eq_true rfl, Nat.le_of_ble_eq_true rfl⟩ rfl rfl (Nat.le_of_ble_eq_true rfl) dJx4a65c_add_72be8_7 (Nat.le_trans (bm hka) hla) (Nat.le_trans (bm hkb) hlb) ?_
    refine g_astore_n B dJx4a65c_add_72be8_10 rfl (Nat.le_of_ble_eq_true rfl) (s1_c (f1_k rfl (f1_1 rfl (rf_cat _) (f1_x (f1_k rfl f1_n))))) ?_
    obtain ⟨w1, w2, w3, w4⟩ := inA h
    clear h
    subst w1
    subst w2
    subst w3
    subst w4
    refine g_cost hka hkb ?_
    exact g_sub [1, 2, 0, 3] rfl (k6 _ rfl)
set_option maxRecDepth 100000 in
set_option maxHeartbeats 4000000 in
theorem cJx4a65c_add_9ea2dc {l : Launch} {v0 : Option Nat} {v1 : Option Nat} {σ : HpT} {o : Except Nat (Bool)} {σ' : HpT} {a b : Nat} (h : fJx4a65c_add_9ea2d v0 v1 σ = some (o, σ', a, b)) : IsK σ v0 12 ∧ Ct l yJx4a65c_add_9ea2d cJx4a65c_add_9ea2d 2 (some .boolean) 5 110 [va_rf v0, va_rf v1] σ (oB o) σ' a b := by
  unfold fJx4a65c_add_9ea2d at h
  replace h := bnP_s h
  obtain ⟨u, hk, h⟩ := h
  replace hk := isK_s hk
  refine ⟨hk, ?_⟩
  refine ct_start mi_Jx4a65c_add_9ea2d.1 rfl (al_le (al_1 (rf_cat _) (al_1 (rf_cat _) al_n)) (Nat.le_of_ble_eq_true rfl)) (ag_1 (rf_cat _) (ag_1 (rf_cat _) ag_n)) (fun Δ Γ B hE hnm => ?_)
  have hka : 0 + a = a := Nat.zero_add a
  have hkb : 0 + b = b := Nat.zero_add b
  have hla : a ≤ a := Nat.le_refl a
  have hlb : b ≤ b := Nat.le_refl b
  refine g_aload_n B 0 dJx4a65c_add_9ea2d_0 rfl rfl ?_
  refine g_dup B dJx4a65c_add_9ea2d_1 (rf_cat _) ?_
  replace h := bnP_s h
  obtain ⟨x1, h2, h⟩ := h
  refine g_getIS B fS_RJx4a65c_63 (by decide) dJx4a65c_add_9ea2d_2 h2 ?_
  refine g_iconst (v := 1) B dJx4a65c_add_9ea2d_5 (by decide) ?_
  refine g_iadd B dJx4a65c_add_9ea2d_6 ?_
  replace h := bnP_s h
  obtain ⟨s5, h4, h⟩ := h
  refine g_putIS B fS_RJx4a65c_63 (by decide) dJx4a65c_add_9ea2d_7 h4 ?_
  refine g_aload_n B 0 dJx4a65c_add_9ea2d_10 rfl rfl ?_
  refine g_aload_n B 1 dJx4a65c_add_9ea2d_11 rfl rfl ?_
  refine g_aload_n B 0 dJx4a65c_add_9ea2d_12 rfl rfl ?_
  replace h := bnP_s h
  obtain ⟨x6, h7, h⟩ := h
  refine g_getR B fl_RJx4a65c_9 (by decide) dJx4a65c_add_9ea2d_13 h7 ?_
  refine g_aload_n B 0 dJx4a65c_add_9ea2d_16 rfl rfl ?_
  replace h := bnP_s h
  obtain ⟨x8, h9, h⟩ := h
  refine g_getI B fl_RJx4a65c_48 (by decide) dJx4a65c_add_9ea2d_17 h9 ?_
  replace h := bnO_s h
  obtain ⟨x10, s12, a13, b14, a15, b16, h11, h, ea, eb⟩ := h
  subst ea; subst eb
  have hka := bk hka
  have hkb := bk hkb
  refine g_callVvA (st := []) B (cJx4a65c_add_72be8c (o := .ok x10) h11) (Nat.le_of_ble_eq_true rfl) rfl rfl mi_Jx4a65c_add_72be8 lk_RJx4a65c_131 ⟨Nat.le_of_ble_eq_true rfl, Nat.le_of_ble_eq_true rfl⟩ rfl rfl (Nat.le_of_ble_eq_true rfl) dJx4a65c_add_9ea2d_20 (Nat.le_trans (bm hka) hla) (Nat.le_trans (bm hkb) hlb) ?_
  refine g_iconst (v := 1) B dJx4a65c_add_9ea2d_23 (by decide) ?_
  obtain ⟨w1, w2, w3, w4⟩ := inA h
  clear h
  subst w1
  subst w2
  subst w3
  subst w4
  exact g_zret B hE rfl (Nat.le_trans (Nat.le_of_eq hka) hla) (Nat.le_trans (Nat.le_of_eq hkb) hlb) dJx4a65c_add_9ea2d_24
set_option maxRecDepth 100000 in
set_option maxHeartbeats 4000000 in
theorem cJ7_copyOf_59c91c {l : Launch} {v0 : Option Nat} {v1 : Int32} {σ : HpT} {o : Except Nat (Option Nat)} {σ' : HpT} {a b : Nat} (h : fJ7_copyOf_59c91 v0 v1 σ = some (o, σ', a, b)) : Ct l yJ7_copyOf_59c91 cJ7_copyOf_59c91 3 (some (.array .int)) 1 60 [va_rf v0, .int v1] σ (oA o) σ' a b := by
  unfold fJ7_copyOf_59c91 at h
  refine ct_start mi_J7_copyOf_59c91.1 rfl (al_le (al_1 (rf_cat _) (al_1 rfl al_n)) (Nat.le_of_ble_eq_true rfl)) (ag_1 (rf_cat _) (ag_1 rfl ag_n)) (fun Δ Γ B hE hnm => ?_)
  have hka : 0 + a = a := Nat.zero_add a
  have hkb : 0 + b = b := Nat.zero_add b
  have hla : a ≤ a := Nat.le_refl a
  have hlb : b ≤ b := Nat.le_refl b
  refine g_iload_n B 1 dJ7_copyOf_59c91_0 rfl rfl ?_
  refine g_aload_n B 0 dJ7_copyOf_59c91_1 rfl rfl ?_
  replace h := bnP_s h
  obtain ⟨x1, h2, h⟩ := h
  refine g_alen B (κ := 20) (by decide) dJ7_copyOf_59c91_2 h2 ?_
  refine g_icmp_ne B 14 dJ7_copyOf_59c91_3 (by decide) (fun hc => ?_) (fun hc => ?_)
  · replace h := ifn hc h
    refine g_iload_n B 1 dJ7_copyOf_59c91_14 rfl rfl ?_
    replace h := bnA_s h
    rcases h with ⟨e9, h4, e8⟩ | ⟨x3, s5, a6, b7, a8, b9, h4, h, ea, eb⟩
    · exact absurd h4 (by simp [nwA, nwR]; try (split <;> simp))
    · subst ea; subst eb
      have hka := bk hka
      have hkb := bk hkb
      refine g_newarr B (Or.inl ⟨rfl, rfl⟩) na_int dJ7_copyOf_59c91_15 h4 (Nat.le_trans (bm hka) hla) (Nat.le_trans (bm hkb) hlb) ?_
      refine g_astore_n B dJ7_copyOf_59c91_17 rfl (Nat.le_of_ble_eq_true rfl) (s1_c (f1_k rfl (f1_1 rfl rfl f1_n))) ?_
      refine g_aload_n B 1 dJ7_copyOf_59c91_18 rfl rfl ?_
      refine g_iconst (v := 0) B dJ7_copyOf_59c91_19 (by decide) ?_
      refine g_aload_n B 0 dJ7_copyOf_59c91_20 rfl rfl ?_
      refine g_iconst (v := 0) B dJ7_copyOf_59c91_21 (by decide) ?_
      refine g_aload_n B 1 dJ7_copyOf_59c91_22 rfl rfl ?_
      replace h := bnP_s h
      obtain ⟨x10, h11, h⟩ := h
      refine g_alen B (κ := 20) (by decide) dJ7_copyOf_59c91_23 h11 ?_
      refine g_iload_n B 2 dJ7_copyOf_59c91_24 rfl rfl ?_
      refine g_mmin B mt_RJ7_304 (by decide) (Nat.le_of_ble_eq_true rfl) dJ7_copyOf_59c91_25 (Nat.le_trans (bm hka) hla) (Nat.le_trans (bm hkb) hlb) ?_
      replace h := bnP_s h
      obtain ⟨s14, h13, h⟩ := h
      refine g_cpI B (κ := 20) (by decide) cp_RJ7_150 (by decide) (Nat.le_of_ble_eq_true rfl) dJ7_copyOf_59c91_28 h13 ?_
      refine g_aload_n B 0 dJ7_copyOf_59c91_31 rfl rfl ?_
      obtain ⟨w1, w2, w3, w4⟩ := inA h
      clear h
      subst w1
      subst w2
      subst w3
      subst w4
      exact g_aret B hE (Or.inr ⟨_, rfl⟩) (Nat.le_trans (Nat.le_of_eq hka) hla) (Nat.le_trans (Nat.le_of_eq hkb) hlb) dJ7_copyOf_59c91_32
  · replace h := ifp hc h
    refine g_aload_n B 0 dJ7_copyOf_59c91_6 rfl rfl ?_
    cases h
set_option maxRecDepth 100000 in
set_option maxHeartbeats 4000000 in
theorem cJ5_newCapacity_0f7a4c {l : Launch} {v0 : Option Nat} {v1 : Int32} {σ : HpT} {o : Except Nat (Int32)} {σ' : HpT} {a b : Nat} (h : fJ5_newCapacity_0f7a4 v0 v1 σ = some (o, σ', a, b)) : IsK σ v0 11 ∧ Ct l yJ5_newCapacity_0f7a4 cJ5_newCapacity_0f7a4 6 (some .int) 2 44 [va_rf v0, .int v1] σ (oI o) σ' a b := by
  unfold fJ5_newCapacity_0f7a4 at h
  replace h := bnP_s h
  obtain ⟨u, hk, h⟩ := h
  replace hk := isK_s hk
  refine ⟨hk, ?_⟩
  refine ct_start mi_J5_newCapacity_0f7a4.1 rfl (al_le (al_1 (rf_cat _) (al_1 rfl al_n)) (Nat.le_of_ble_eq_true rfl)) (ag_1 (rf_cat _) (ag_1 rfl ag_n)) (fun Δ Γ B hE hnm => ?_)
  have hka : 0 + a = a := Nat.zero_add a
  have hkb : 0 + b = b := Nat.zero_add b
  have hla : a ≤ a := Nat.le_refl a
  have hlb : b ≤ b := Nat.le_refl b
  refine g_aload_n B 0 dJ5_newCapacity_0f7a4_0 rfl rfl ?_
  replace h := bnP_s h
  obtain ⟨x1, h2, h⟩ := h
  refine g_getR B fl_RJ5_15 (by decide) dJ5_newCapacity_0f7a4_1 h2 ?_
  replace h := bnP_s h
  obtain ⟨x3, h4, h⟩ := h
  refine g_alen B (κ := 22) (by decide) dJ5_newCapacity_0f7a4_4 h4 ?_
  refine g_istore_n B dJ5_newCapacity_0f7a4_5 rfl (Nat.le_of_ble_eq_true rfl) (s1_c (f1_k rfl (f1_1 rfl rfl f1_n))) ?_
  refine g_iload_n B 2 dJ5_newCapacity_0f7a4_6 rfl rfl ?_
  refine g_aload_n B 1 dJ5_newCapacity_0f7a4_7 rfl rfl ?_
  replace h := bnP_s h
  obtain ⟨x5, h6, h⟩ := h
  refine g_getI B fl_RJ5_22 (by decide) dJ5_newCapacity_0f7a4_8 h6 ?_
  refine g_ishl B dJ5_newCapacity_0f7a4_11 ?_
  refine g_istore_n B dJ5_newCapacity_0f7a4_12 rfl (Nat.le_of_ble_eq_true rfl) (s1_c (f1_1 rfl rfl (f1_k rfl (f1_k rfl f1_n)))) ?_
  refine g_iload_n B 0 dJ5_newCapacity_0f7a4_13 rfl rfl ?_
  refine g_iload_n B 1 dJ5_newCapacity_0f7a4_14 rfl rfl ?_
  refine g_isub B dJ5_newCapacity_0f7a4_15 ?_
  refine g_istore B dJ5_newCapacity_0f7a4_16 (Nat.le_of_ble_eq_true rfl) (s1_c (f1_1 rfl rfl (f1_k rfl (f1_k rfl (f1_k rfl f1_n))))) ?_
  refine g_iload_n B 2 dJ5_newCapacity_0f7a4_18 rfl rfl ?_
  refine g_iload B 0 dJ5_newCapacity_0f7a4_19 rfl ?_
  refine g_iload_n B 2 dJ5_newCapacity_0f7a4_21 rfl rfl ?_
  refine g_iconst (v := 2) B dJ5_newCapacity_0f7a4_22 (by decide) ?_
  refine g_aload_n B 3 dJ5_newCapacity_0f7a4_23 rfl rfl ?_
  replace h := bnP_s h
  obtain ⟨x7, h8, h⟩ := h
  refine g_getI B fl_RJ5_22 (by decide) dJ5_newCapacity_0f7a4_24 h8 ?_
  refine g_ishl B dJ5_newCapacity_0f7a4_27 ?_
  refine g_iadd B dJ5_newCapacity_0f7a4_28 ?_
  replace h := bnP_s h
  obtain ⟨x9, h10, h⟩ := h
  refine g_callSs0 (st := []) B (cJ8_newLength_cabccc h10) mi_J8_newLength_cabcc lk_RJ5_114 ⟨Nat.le_of_ble_eq_true rfl, Nat.le_of_ble_eq_true rfl⟩ rfl rfl (Nat.le_of_ble_eq_true rfl) dJ5_newCapacity_0f7a4_29 (Nat.le_trans (bm hka) hla) (Nat.le_trans (bm hkb) hlb) ?_
  refine g_istore B dJ5_newCapacity_0f7a4_32 (Nat.le_of_ble_eq_true rfl) (s1_c (f1_1 rfl rfl (f1_k rfl (f1_k rfl (f1_k rfl (f1_k rfl f1_n)))))) ?_
  refine g_iload B 0 dJ5_newCapacity_0f7a4_34 rfl ?_
  refine g_ldc B cs_RJ5_39 dJ5_newCapacity_0f7a4_36 ?_
  refine g_icmp_ne B 51 dJ5_newCapacity_0f7a4_38 (by decide) (fun hc => ?_) (fun hc => ?_)
  · replace h := ifn hc h
    refine g_iload B 0 dJ5_newCapacity_0f7a4_51 rfl ?_
    refine g_aload_n B 4 dJ5_newCapacity_0f7a4_53 rfl rfl ?_
    replace h := bnP_s h
    obtain ⟨x11, h12, h⟩ := h
    refine g_getI B fl_RJ5_22 (by decide) dJ5_newCapacity_0f7a4_54 h12 ?_
    refine g_ishr B dJ5_newCapacity_0f7a4_57 ?_
    obtain ⟨w1, w2, w3, w4⟩ := inA h
    clear h
    subst w1
    subst w2
    subst w3
    subst w4
    exact g_iret B hE (Nat.le_trans (Nat.le_of_eq hka) hla) (Nat.le_trans (Nat.le_of_eq hkb) hlb) dJ5_newCapacity_0f7a4_58
  · replace h := ifp hc h
    cases h
set_option maxRecDepth 100000 in
set_option maxHeartbeats 4000000 in
theorem cJ7_copyOf_9075bc {l : Launch} {v0 : Option Nat} {v1 : Int32} {σ : HpT} {o : Except Nat (Option Nat)} {σ' : HpT} {a b : Nat} (h : fJ7_copyOf_9075b v0 v1 σ = some (o, σ', a, b)) : Ct l yJ7_copyOf_9075b cJ7_copyOf_9075b 3 (some (.array .byte)) 1 60 [va_rf v0, .int v1] σ (oA o) σ' a b := by
  unfold fJ7_copyOf_9075b at h
  refine ct_start mi_J7_copyOf_9075b.1 rfl (al_le (al_1 (rf_cat _) (al_1 rfl al_n)) (Nat.le_of_ble_eq_true rfl)) (ag_1 (rf_cat _) (ag_1 rfl ag_n)) (fun Δ Γ B hE hnm => ?_)
  have hka : 0 + a = a := Nat.zero_add a
  have hkb : 0 + b = b := Nat.zero_add b
  have hla : a ≤ a := Nat.le_refl a
  have hlb : b ≤ b := Nat.le_refl b
  refine g_iload_n B 1 dJ7_copyOf_9075b_0 rfl rfl ?_
  refine g_aload_n B 0 dJ7_copyOf_9075b_1 rfl rfl ?_
  replace h := bnP_s h
  obtain ⟨x1, h2, h⟩ := h
  refine g_alen B (κ := 22) (by decide) dJ7_copyOf_9075b_2 h2 ?_
  refine g_icmp_ne B 14 dJ7_copyOf_9075b_3 (by decide) (fun hc => ?_) (fun hc => ?_)
  · replace h := ifn hc h
    refine g_iload_n B 1 dJ7_copyOf_9075b_14 rfl rfl ?_
    replace h := bnA_s h
    rcases h with ⟨e9, h4, e8⟩ | ⟨x3, s5, a6, b7, a8, b9, h4, h, ea, eb⟩
    · exact absurd h4 (by simp [nwA, nwR]; try (split <;> simp))
    · subst ea; subst eb
      have hka := bk hka
      have hkb := bk hkb
      refine g_newarr B (Or.inr (Or.inr (Or.inl ⟨rfl, rfl⟩))) na_byte dJ7_copyOf_9075b_15 h4 (Nat.le_trans (bm hka) hla) (Nat.le_trans (bm hkb) hlb) ?_
      refine g_astore_n B dJ7_copyOf_9075b_17 rfl (Nat.le_of_ble_eq_true rfl) (s1_c (f1_k rfl (f1_1 rfl rfl f1_n))) ?_
      refine g_aload_n B 1 dJ7_copyOf_9075b_18 rfl rfl ?_
      refine g_iconst (v := 0) B dJ7_copyOf_9075b_19 (by decide) ?_
      refine g_aload_n B 0 dJ7_copyOf_9075b_20 rfl rfl ?_
      refine g_iconst (v := 0) B dJ7_copyOf_9075b_21 (by decide) ?_
      refine g_aload_n B 1 dJ7_copyOf_9075b_22 rfl rfl ?_
      replace h := bnP_s h
      obtain ⟨x10, h11, h⟩ := h
      refine g_alen B (κ := 22) (by decide) dJ7_copyOf_9075b_23 h11 ?_
      refine g_iload_n B 2 dJ7_copyOf_9075b_24 rfl rfl ?_
      refine g_mmin B mt_RJ7_304 (by decide) (Nat.le_of_ble_eq_true rfl) dJ7_copyOf_9075b_25 (Nat.le_trans (bm hka) hla) (Nat.le_trans (bm hkb) hlb) ?_
      replace h := bnP_s h
      obtain ⟨s14, h13, h⟩ := h
      refine g_cpI B (κ := 22) (by decide) cp_RJ7_150 (by decide) (Nat.le_of_ble_eq_true rfl) dJ7_copyOf_9075b_28 h13 ?_
      refine g_aload_n B 0 dJ7_copyOf_9075b_31 rfl rfl ?_
      obtain ⟨w1, w2, w3, w4⟩ := inA h
      clear h
      subst w1
      subst w2
      subst w3
      subst w4
      exact g_aret B hE (Or.inr ⟨_, rfl⟩) (Nat.le_trans (Nat.le_of_eq hka) hla) (Nat.le_trans (Nat.le_of_eq hkb) hlb) dJ7_copyOf_9075b_32
  · replace h := ifp hc h
    refine g_aload_n B 0 dJ7_copyOf_9075b_6 rfl rfl ?_
    replace h := bnA_s h
    rcases h with ⟨e9, h16, e8⟩ | ⟨x15, s17, a18, b19, a20, b21, h16, h, ea, eb⟩
    · subst e8
      exact (clB_e h16).elim
    · subst ea; subst eb
      have hka := bk hka
      have hkb := bk hkb
      refine g_clone B cl_RJ7_310 (by decide) (Nat.le_of_ble_eq_true rfl) dJ7_copyOf_9075b_7 h16 (Nat.le_trans (bm hka) hla) (Nat.le_trans (bm hkb) hlb) ?_
      replace h := bnP_s h
      obtain ⟨u22, h23, h⟩ := h
      refine g_castB B cc_RJ7_311 dJ7_copyOf_9075b_10 h23 ?_
      obtain ⟨w1, w2, w3, w4⟩ := inA h
      clear h
      subst w1
      subst w2
      subst w3
      subst w4
      exact g_aret B hE (Or.inr ⟨_, rfl⟩) (Nat.le_trans (Nat.le_of_eq hka) hla) (Nat.le_trans (Nat.le_of_eq hkb) hlb) dJ7_copyOf_9075b_13
set_option maxRecDepth 100000 in
set_option maxHeartbeats 4000000 in
theorem cJ5_ensureCapacityInternal_d00dfc {l : Launch} {v0 : Option Nat} {v1 : Int32} {σ : HpT} {o : Except Nat (Unit)} {σ' : HpT} {a b : Nat} (h : fJ5_ensureCapacityInternal_d00df v0 v1 σ = some (o, σ', a, b)) : IsK σ v0 11 ∧ Ct l yJ5_ensureCapacityInternal_d00df cJ5_ensureCapacityInternal_d00df 3 none 3 82 [va_rf v0, .int v1] σ (oU o) σ' a b := by
  unfold fJ5_ensureCapacityInternal_d00df at h
  replace h := bnP_s h
  obtain ⟨u, hk, h⟩ := h
  replace hk := isK_s hk
  refine ⟨hk, ?_⟩
  refine ct_start mi_J5_ensureCapacityInternal_d00df.1 rfl (al_le (al_1 (rf_cat _) (al_1 rfl al_n)) (Nat.le_of_ble_eq_true rfl)) (ag_1 (rf_cat _) (ag_1 rfl ag_n)) (fun Δ Γ B hE hnm => ?_)
  have hka : 0 + a = a := Nat.zero_add a
  have hkb : 0 + b = b := Nat.zero_add b
  have hla : a ≤ a := Nat.le_refl a
  have hlb : b ≤ b := Nat.le_refl b
  refine g_aload_n B 0 dJ5_ensureCapacityInternal_d00df_0 rfl rfl ?_
  replace h := bnP_s h
  obtain ⟨x1, h2, h⟩ := h
  refine g_getR B fl_RJ5_15 (by decide) dJ5_ensureCapacityInternal_d00df_1 h2 ?_
  replace h := bnP_s h
  obtain ⟨x3, h4, h⟩ := h
  refine g_alen B (κ := 22) (by decide) dJ5_ensureCapacityInternal_d00df_4 h4 ?_
  refine g_aload_n B 0 dJ5_ensureCapacityInternal_d00df_5 rfl rfl ?_
  replace h := bnP_s h
  obtain ⟨x5, h6, h⟩ := h
  refine g_getI B fl_RJ5_22 (by decide) dJ5_ensureCapacityInternal_d00df_6 h6 ?_
  refine g_ishr B dJ5_ensureCapacityInternal_d00df_9 ?_
  refine g_istore_n B dJ5_ensureCapacityInternal_d00df_10 rfl (Nat.le_of_ble_eq_true rfl) (s1_c (f1_k rfl (f1_1 rfl rfl f1_n))) ?_
  refine g_iload_n B 2 dJ5_ensureCapacityInternal_d00df_11 rfl rfl ?_
  refine g_iload_n B 0 dJ5_ensureCapacityInternal_d00df_12 rfl rfl ?_
  refine g_isub B dJ5_ensureCapacityInternal_d00df_13 ?_
  refine g_if_le B 38 dJ5_ensureCapacityInternal_d00df_14 (by decide) (fun hc => ?_) (fun hc => ?_)
  · replace h := ifp hc h
    obtain ⟨w1, w2, w3, w4⟩ := inA h
    clear h
    subst w1
    subst w2
    subst w3
    subst w4
    exact g_vret B hE (Nat.le_trans (Nat.le_of_eq hka) hla) (Nat.le_trans (Nat.le_of_eq hkb) hlb) dJ5_ensureCapacityInternal_d00df_38
  · replace h := ifn hc h
    refine g_aload_n B 1 dJ5_ensureCapacityInternal_d00df_17 rfl rfl ?_
    refine g_aload_n B 1 dJ5_ensureCapacityInternal_d00df_18 rfl rfl ?_
    replace h := bnP_s h
    obtain ⟨x7, h8, h⟩ := h
    refine g_getR B fl_RJ5_15 (by decide) dJ5_ensureCapacityInternal_d00df_19 h8 ?_
    refine g_aload_n B 1 dJ5_ensureCapacityInternal_d00df_22 rfl rfl ?_
    refine g_iload_n B 2 dJ5_ensureCapacityInternal_d00df_23 rfl rfl ?_
    replace h := bnA_s h
    rcases h with ⟨e9, h10, e8⟩ | ⟨x9, s11, a12, b13, a14, b15, h10, h, ea, eb⟩
    · subst e8
      exact g_callVcx (st := [va_rf x7, va_rf v0]) B (cJ5_newCapacity_0f7a4c (o := .error e9) h10) (Nat.le_of_ble_eq_true rfl) rfl mi_J5_newCapacity_0f7a4 lk_RJ5_104 ⟨Nat.le_of_ble_eq_true rfl, Nat.le_of_ble_eq_true rfl⟩ rfl rfl (Nat.le_of_ble_eq_true rfl) dJ5_ensureCapacityInternal_d00df_24 (Nat.le_trans (Nat.le_of_eq hka) hla) (Nat.le_trans (Nat.le_of_eq hkb) hlb) hE
    · subst ea; subst eb
      have hka := bk hka
      have hkb := bk hkb
      refine g_callVcsA (st := [va_rf x7, va_rf v0]) B (cJ5_newCapacity_0f7a4c (o := .ok x9) h10) (Nat.le_of_ble_eq_true rfl) rfl mi_J5_newCapacity_0f7a4 lk_RJ5_104 ⟨Nat.le_of_ble_eq_true rfl, Nat.le_of_ble_eq_true rfl⟩ rfl rfl (Nat.le_of_ble_eq_true rfl) dJ5_ensureCapacityInternal_d00df_24 (Nat.le_trans (bm hka) hla) (Nat.le_trans (bm hkb) hlb) ?_
      refine g_aload_n B 1 dJ5_ensureCapacityInternal_d00df_27 rfl rfl ?_
      replace h := bnP_s h
      obtain ⟨x16, h17, h⟩ := h
      refine g_getI B fl_RJ5_22 (by decide) dJ5_ensureCapacityInternal_d00df_28 h17 ?_
      refine g_ishl B dJ5_ensureCapacityInternal_d00df_31 ?_
      replace h := bnA_s h
      rcases h with ⟨e9, h19, e8⟩ | ⟨x18, s20, a21, b22, a23, b24, h19, h, ea, eb⟩
      · subst e8
        exact g_callSx (st := [va_rf v0]) B (cJ7_copyOf_9075bc (o := .error e9) h19) mi_J7_copyOf_9075b lk_RJ5_108 ⟨Nat.le_of_ble_eq_true rfl, Nat.le_of_ble_eq_true rfl⟩ rfl rfl (Nat.le_of_ble_eq_true rfl) dJ5_ensureCapacityInternal_d00df_32 (Nat.le_trans (Nat.le_of_eq hka) hla) (Nat.le_trans (Nat.le_of_eq hkb) hlb) hE
      · subst ea; subst eb
        have hka := bk hka
        have hkb := bk hkb
        refine g_callSsA (st := [va_rf v0]) B (cJ7_copyOf_9075bc (o := .ok x18) h19) mi_J7_copyOf_9075b lk_RJ5_108 ⟨Nat.le_of_ble_eq_true rfl, Nat.le_of_ble_eq_true rfl⟩ rfl rfl (Nat.le_of_ble_eq_true rfl) dJ5_ensureCapacityInternal_d00df_32 (Nat.le_trans (bm hka) hla) (Nat.le_trans (bm hkb) hlb) ?_
        replace h := bnP_s h
        obtain ⟨s27, h26, h⟩ := h
        refine g_putR B fl_RJ5_15 (by decide) (Or.inr ⟨_, rfl⟩) dJ5_ensureCapacityInternal_d00df_35 h26 ?_
        obtain ⟨w1, w2, w3, w4⟩ := inA h
        clear h
        subst w1
        subst w2
        subst w3
        subst w4
        exact g_vret B hE (Nat.le_trans (Nat.le_of_eq hka) hla) (Nat.le_trans (Nat.le_of_eq hkb) hlb) dJ5_ensureCapacityInternal_d00df_38
set_option maxRecDepth 100000 in
set_option maxHeartbeats 4000000 in
theorem cJ5_isLatin1_aae02c {l : Launch} {v0 : Option Nat} {σ : HpT} {r : Bool} (h : fJ5_isLatin1_aae02 v0 σ = some r) : IsK σ v0 11 ∧ Ct l yJ5_isLatin1_aae02 cJ5_isLatin1_aae02 1 (some .boolean) 0 0 [va_rf v0] σ (.ok (some (.int (bI r)))) σ 0 0 := by
  unfold fJ5_isLatin1_aae02 at h
  replace h := bnP_s h
  obtain ⟨u, hk, h⟩ := h
  replace hk := isK_s hk
  refine ⟨hk, ?_⟩
  refine ct_start mi_J5_isLatin1_aae02.1 rfl (al_le (al_1 (rf_cat _) al_n) (Nat.le_of_ble_eq_true rfl)) (ag_1 (rf_cat _) ag_n) (fun Δ Γ B hE hnm => ?_)
  refine g_gstC B sv_RJ5_18 dJ5_isLatin1_aae02_0 ?_
  refine g_if_eq B 17 dJ5_isLatin1_aae02_3 (by decide) (fun hc => ?_) (fun hc => ?_)
  · exact absurd hc (by decide)
  · skip
    refine g_aload_n B 0 dJ5_isLatin1_aae02_6 rfl rfl ?_
    replace h := bnP_s h
    obtain ⟨x1, h2, h⟩ := h
    refine g_getI B fl_RJ5_22 (by decide) dJ5_isLatin1_aae02_7 h2 ?_
    refine g_if_ne B 17 dJ5_isLatin1_aae02_10 (by decide) (fun hc => ?_) (fun hc => ?_)
    · replace h := ifn hc h
      refine g_iconst (v := 0) B dJ5_isLatin1_aae02_17 (by decide) ?_
      replace h := Option.some.inj h
      subst h
      exact g_zret B hE rfl (Nat.zero_le _) (Nat.zero_le _) dJ5_isLatin1_aae02_18
    · replace h := ifp hc h
      refine g_iconst (v := 1) B dJ5_isLatin1_aae02_13 (by decide) ?_
      refine g_goto B 18 dJ5_isLatin1_aae02_14 (by decide) ?_
      replace h := Option.some.inj h
      subst h
      exact g_zret B hE rfl (Nat.zero_le _) (Nat.zero_le _) dJ5_isLatin1_aae02_18
set_option maxRecDepth 100000 in
set_option maxHeartbeats 4000000 in
theorem cJ1_canEncode_fc78dc {l : Launch} {v0 : Int32} {σ : HpT} {r : Bool} (h : fJ1_canEncode_fc78d v0 σ = some r) : Ct l yJ1_canEncode_fc78d cJ1_canEncode_fc78d 1 (some .boolean) 0 0 [.int v0] σ (.ok (some (.int (bI r)))) σ 0 0 := by
  unfold fJ1_canEncode_fc78d at h
  refine ct_start mi_J1_canEncode_fc78d.1 rfl (al_le (al_1 rfl al_n) (Nat.le_of_ble_eq_true rfl)) (ag_1 rfl ag_n) (fun Δ Γ B hE hnm => ?_)
  refine g_iload_n B 0 dJ1_canEncode_fc78d_0 rfl rfl ?_
  refine g_sipush (v := 255) B dJ1_canEncode_fc78d_1 (by decide) ?_
  refine g_icmp_gt B 11 dJ1_canEncode_fc78d_4 (by decide) (fun hc => ?_) (fun hc => ?_)
  · replace h := ifp hc h
    refine g_iconst (v := 0) B dJ1_canEncode_fc78d_11 (by decide) ?_
    replace h := Option.some.inj h
    subst h
    exact g_zret B hE rfl (Nat.zero_le _) (Nat.zero_le _) dJ1_canEncode_fc78d_12
  · replace h := ifn hc h
    refine g_iconst (v := 1) B dJ1_canEncode_fc78d_7 (by decide) ?_
    refine g_goto B 12 dJ1_canEncode_fc78d_8 (by decide) ?_
    replace h := Option.some.inj h
    subst h
    exact g_zret B hE rfl (Nat.zero_le _) (Nat.zero_le _) dJ1_canEncode_fc78d_12
set_option maxRecDepth 100000 in
set_option maxHeartbeats 4000000 in
theorem cJ5_append_3fe6fc {l : Launch} {v0 : Option Nat} {v1 : Int32} {σ : HpT} {o : Except Nat (Option Nat)} {σ' : HpT} {a b : Nat} (h : fJ5_append_3fe6f v0 v1 σ = some (o, σ', a, b)) : IsK σ v0 11 ∧ Ct l yJ5_append_3fe6f cJ5_append_3fe6f 2 (some (.object "java/lang/AbstractStringBuilder")) 4 104 [va_rf v0, .int v1] σ (oA o) σ' a b := by
  unfold fJ5_append_3fe6f at h
  replace h := bnP_s h
  obtain ⟨u, hk, h⟩ := h
  replace hk := isK_s hk
  refine ⟨hk, ?_⟩
  refine ct_start mi_J5_append_3fe6f.1 rfl (al_le (al_1 (rf_cat _) (al_1 rfl al_n)) (Nat.le_of_ble_eq_true rfl)) (ag_1 (rf_cat _) (ag_1 rfl ag_n)) (fun Δ Γ B hE hnm => ?_)
  have hka : 0 + a = a := Nat.zero_add a
  have hkb : 0 + b = b := Nat.zero_add b
  have hla : a ≤ a := Nat.le_refl a
  have hlb : b ≤ b := Nat.le_refl b
  refine g_aload_n B 0 dJ5_append_3fe6f_0 rfl rfl ?_
  refine g_aload_n B 0 dJ5_append_3fe6f_1 rfl rfl ?_
  replace h := bnP_s h
  obtain ⟨x1, h2, h⟩ := h
  refine g_getI B fl_RJ5_79 (by decide) dJ5_append_3fe6f_2 h2 ?_
  refine g_iconst (v := 1) B dJ5_append_3fe6f_5 (by decide) ?_
  refine g_iadd B dJ5_append_3fe6f_6 ?_
  replace h := bnA_s h
  rcases h with ⟨e9, h4, e8⟩ | ⟨x3, s5, a6, b7, a8, b9, h4, h, ea, eb⟩
  · subst e8
    exact g_callVcx (st := []) B (cJ5_ensureCapacityInternal_d00dfc (o := .error e9) h4) (Nat.le_of_ble_eq_true rfl) rfl mi_J5_ensureCapacityInternal_d00df lk_RJ5_100 ⟨Nat.le_of_ble_eq_true rfl, Nat.le_of_ble_eq_true rfl⟩ rfl rfl (Nat.le_of_ble_eq_true rfl) dJ5_append_3fe6f_7 (Nat.le_trans (Nat.le_of_eq hka) hla) (Nat.le_trans (Nat.le_of_eq hkb) hlb) hE
  · subst ea; subst eb
    have hka := bk hka
    have hkb := bk hkb
    refine g_callVcvA (st := []) B (cJ5_ensureCapacityInternal_d00dfc (o := .ok x3) h4) (Nat.le_of_ble_eq_true rfl) rfl mi_J5_ensureCapacityInternal_d00df lk_RJ5_100 ⟨Nat.le_of_ble_eq_true rfl, Nat.le_of_ble_eq_true rfl⟩ rfl rfl (Nat.le_of_ble_eq_true rfl) dJ5_append_3fe6f_7 (Nat.le_trans (bm hka) hla) (Nat.le_trans (bm hkb) hlb) ?_
    refine g_aload_n B 0 dJ5_append_3fe6f_10 rfl rfl ?_
    replace h := bnP_s h
    obtain ⟨x10, h11, h⟩ := h
    refine g_callVcs0 (st := []) B (cJ5_isLatin1_aae02c h11) (Nat.le_of_ble_eq_true rfl) rfl mi_J5_isLatin1_aae02 lk_RJ5_83 ⟨Nat.le_of_ble_eq_true rfl, Nat.le_of_ble_eq_true rfl⟩ rfl rfl (Nat.le_of_ble_eq_true rfl) dJ5_append_3fe6f_11 (Nat.le_trans (bm hka) hla) (Nat.le_trans (bm hkb) hlb) ?_
    refine g_if_eq B 45 dJ5_append_3fe6f_14 (by decide) (fun hc => ?_) (fun hc => ?_)
    · replace h := ifn (bI0 hc) h
      refine g_aload_n B 0 dJ5_append_3fe6f_45 rfl rfl ?_
      replace h := bnP_s h
      obtain ⟨x12, h13, h⟩ := h
      refine g_callVcs0 (st := []) B (cJ5_isLatin1_aae02c h13) (Nat.le_of_ble_eq_true rfl) rfl mi_J5_isLatin1_aae02 lk_RJ5_83 ⟨Nat.le_of_ble_eq_true rfl, Nat.le_of_ble_eq_true rfl⟩ rfl rfl (Nat.le_of_ble_eq_true rfl) dJ5_append_3fe6f_46 (Nat.le_trans (bm hka) hla) (Nat.le_trans (bm hkb) hlb) ?_
      replace h := bnP_s h
      obtain ⟨j14, h15, h⟩ := h
      have k17 : GW Δ Γ (0 + a6) (0 + b7) 56 [(0, va_rf v0), (1, .int v1)] [] s5 := by
        refine g_aload_n B 0 dJ5_append_3fe6f_56 rfl rfl ?_
        replace h := bnP_s h
        obtain ⟨x19, h20, h⟩ := h
        refine g_getR B fl_RJ5_15 (by decide) dJ5_append_3fe6f_57 h20 ?_
        refine g_aload_n B 0 dJ5_append_3fe6f_60 rfl rfl ?_
        refine g_dup B dJ5_append_3fe6f_61 (rf_cat _) ?_
        replace h := bnP_s h
        obtain ⟨x21, h22, h⟩ := h
        refine g_getI B fl_RJ5_79 (by decide) dJ5_append_3fe6f_62 h22 ?_
        refine g_dup_x1 B dJ5_append_3fe6f_65 rfl (rf_cat _) ?_
        refine g_iconst (v := 1) B dJ5_append_3fe6f_66 (by decide) ?_
        refine g_iadd B dJ5_append_3fe6f_67 ?_
        replace h := bnP_s h
        obtain ⟨s25, h24, h⟩ := h
        refine g_putI B fl_RJ5_79 (by decide) dJ5_append_3fe6f_68 h24 ?_
        refine g_iload_n B 1 dJ5_append_3fe6f_71 rfl rfl ?_
        cases h
      clear h
      have h := h15
      clear h15
      refine g_if_eq B 56 dJ5_append_3fe6f_49 (by decide) (fun hc => ?_) (fun hc => ?_)
      · replace h := ifn (bI0 hc) h
        replace h := Option.some.inj h
        subst h
        exact g_sub [0, 1] rfl k17
      · replace h := ifp (bI1 hc) h
        refine g_aload_n B 0 dJ5_append_3fe6f_52 rfl rfl ?_
        cases h
    · replace h := ifp (bI1 hc) h
      refine g_iload_n B 1 dJ5_append_3fe6f_17 rfl rfl ?_
      replace h := bnP_s h
      obtain ⟨x26, h27, h⟩ := h
      refine g_callSs0 (st := []) B (cJ1_canEncode_fc78dc h27) mi_J1_canEncode_fc78d lk_RJ5_191 ⟨Nat.le_of_ble_eq_true rfl, Nat.le_of_ble_eq_true rfl⟩ rfl rfl (Nat.le_of_ble_eq_true rfl) dJ5_append_3fe6f_18 (Nat.le_trans (bm hka) hla) (Nat.le_trans (bm hkb) hlb) ?_
      refine g_if_eq B 45 dJ5_append_3fe6f_21 (by decide) (fun hc => ?_) (fun hc => ?_)
      · replace h := ifn (bI0 hc) h
        refine g_aload_n B 0 dJ5_append_3fe6f_45 rfl rfl ?_
        replace h := bnP_s h
        obtain ⟨x28, h29, h⟩ := h
        refine g_callVcs0 (st := []) B (cJ5_isLatin1_aae02c h29) (Nat.le_of_ble_eq_true rfl) rfl mi_J5_isLatin1_aae02 lk_RJ5_83 ⟨Nat.le_of_ble_eq_true rfl, Nat.le_of_ble_eq_true rfl⟩ rfl rfl (Nat.le_of_ble_eq_true rfl) dJ5_append_3fe6f_46 (Nat.le_trans (bm hka) hla) (Nat.le_trans (bm hkb) hlb) ?_
        replace h := bnP_s h
        obtain ⟨j30, h31, h⟩ := h
        have k33 : GW Δ Γ (0 + a6) (0 + b7) 56 [(0, va_rf v0), (1, .int v1)] [] s5 := by
          refine g_aload_n B 0 dJ5_append_3fe6f_56 rfl rfl ?_
          replace h := bnP_s h
          obtain ⟨x35, h36, h⟩ := h
          refine g_getR B fl_RJ5_15 (by decide) dJ5_append_3fe6f_57 h36 ?_
          refine g_aload_n B 0 dJ5_append_3fe6f_60 rfl rfl ?_
          refine g_dup B dJ5_append_3fe6f_61 (rf_cat _) ?_
          replace h := bnP_s h
          obtain ⟨x37, h38, h⟩ := h
          refine g_getI B fl_RJ5_79 (by decide) dJ5_append_3fe6f_62 h38 ?_
          refine g_dup_x1 B dJ5_append_3fe6f_65 rfl (rf_cat _) ?_
          refine g_iconst (v := 1) B dJ5_append_3fe6f_66 (by decide) ?_
          refine g_iadd B dJ5_append_3fe6f_67 ?_
          replace h := bnP_s h
          obtain ⟨s41, h40, h⟩ := h
          refine g_putI B fl_RJ5_79 (by decide) dJ5_append_3fe6f_68 h40 ?_
          refine g_iload_n B 1 dJ5_append_3fe6f_71 rfl rfl ?_
          cases h
        clear h
        have h := h31
        clear h31
        refine g_if_eq B 56 dJ5_append_3fe6f_49 (by decide) (fun hc => ?_) (fun hc => ?_)
        · replace h := ifn (bI0 hc) h
          replace h := Option.some.inj h
          subst h
          exact g_sub [0, 1] rfl k33
        · replace h := ifp (bI1 hc) h
          refine g_aload_n B 0 dJ5_append_3fe6f_52 rfl rfl ?_
          cases h
      · replace h := ifp (bI1 hc) h
        refine g_aload_n B 0 dJ5_append_3fe6f_24 rfl rfl ?_
        replace h := bnP_s h
        obtain ⟨x42, h43, h⟩ := h
        refine g_getR B fl_RJ5_15 (by decide) dJ5_append_3fe6f_25 h43 ?_
        refine g_aload_n B 0 dJ5_append_3fe6f_28 rfl rfl ?_
        refine g_dup B dJ5_append_3fe6f_29 (rf_cat _) ?_
        replace h := bnP_s h
        obtain ⟨x44, h45, h⟩ := h
        refine g_getI B fl_RJ5_79 (by decide) dJ5_append_3fe6f_30 h45 ?_
        refine g_dup_x1 B dJ5_append_3fe6f_33 rfl (rf_cat _) ?_
        refine g_iconst (v := 1) B dJ5_append_3fe6f_34 (by decide) ?_
        refine g_iadd B dJ5_append_3fe6f_35 ?_
        replace h := bnP_s h
        obtain ⟨s48, h47, h⟩ := h
        refine g_putI B fl_RJ5_79 (by decide) dJ5_append_3fe6f_36 h47 ?_
        refine g_iload_n B 1 dJ5_append_3fe6f_39 rfl rfl ?_
        refine g_i2b B dJ5_append_3fe6f_40 ?_
        replace h := bnP_s h
        obtain ⟨s51, h50, h⟩ := h
        refine g_bast B dJ5_append_3fe6f_41 h50 ?_
        refine g_goto B 75 dJ5_append_3fe6f_42 (by decide) ?_
        refine g_aload_n B 0 dJ5_append_3fe6f_75 rfl rfl ?_
        obtain ⟨w1, w2, w3, w4⟩ := inA h
        clear h
        subst w1
        subst w2
        subst w3
        subst w4
        exact g_aret B hE (Or.inl ⟨_, rfl⟩) (Nat.le_trans (Nat.le_of_eq hka) hla) (Nat.le_trans (Nat.le_of_eq hkb) hlb) dJ5_append_3fe6f_76
set_option maxRecDepth 100000 in
set_option maxHeartbeats 4000000 in
theorem cJ4_append_cf468c {l : Launch} {v0 : Option Nat} {v1 : Int32} {σ : HpT} {o : Except Nat (Option Nat)} {σ' : HpT} {a b : Nat} (h : fJ4_append_cf468 v0 v1 σ = some (o, σ', a, b)) : IsK σ v0 11 ∧ Ct l yJ4_append_cf468 cJ4_append_cf468 2 (some (.object "java/lang/StringBuilder")) 5 125 [va_rf v0, .int v1] σ (oA o) σ' a b := by
  unfold fJ4_append_cf468 at h
  replace h := bnP_s h
  obtain ⟨u, hk, h⟩ := h
  replace hk := isK_s hk
  refine ⟨hk, ?_⟩
  refine ct_start mi_J4_append_cf468.1 rfl (al_le (al_1 (rf_cat _) (al_1 rfl al_n)) (Nat.le_of_ble_eq_true rfl)) (ag_1 (rf_cat _) (ag_1 rfl ag_n)) (fun Δ Γ B hE hnm => ?_)
  have hka : 0 + a = a := Nat.zero_add a
  have hkb : 0 + b = b := Nat.zero_add b
  have hla : a ≤ a := Nat.le_refl a
  have hlb : b ≤ b := Nat.le_refl b
  refine g_aload_n B 0 dJ4_append_cf468_0 rfl rfl ?_
  refine g_iload_n B 1 dJ4_append_cf468_1 rfl rfl ?_
  replace h := bnA_s h
  rcases h with ⟨e9, h2, e8⟩ | ⟨x1, s3, a4, b5, a6, b7, h2, h, ea, eb⟩
  · subst e8
    exact g_callSUx (st := []) B (cJ5_append_3fe6fc (o := .error e9) h2) (Nat.le_of_ble_eq_true rfl) rfl mi_J5_append_3fe6f lk_RJ4_50 ⟨Nat.le_of_ble_eq_true rfl, Nat.le_of_ble_eq_true rfl⟩ rfl rfl (Nat.le_of_ble_eq_true rfl) dJ4_append_cf468_2 (Nat.le_trans (Nat.le_of_eq hka) hla) (Nat.le_trans (Nat.le_of_eq hkb) hlb) hE
  · subst ea; subst eb
    have hka := bk hka
    have hkb := bk hkb
    refine g_callSUsA (st := []) B (cJ5_append_3fe6fc (o := .ok x1) h2) (Nat.le_of_ble_eq_true rfl) rfl mi_J5_append_3fe6f lk_RJ4_50 ⟨Nat.le_of_ble_eq_true rfl, Nat.le_of_ble_eq_true rfl⟩ rfl rfl (Nat.le_of_ble_eq_true rfl) dJ4_append_cf468_2 (Nat.le_trans (bm hka) hla) (Nat.le_trans (bm hkb) hlb) ?_
    refine g_pop B dJ4_append_cf468_5 (rf_cat _) ?_
    refine g_aload_n B 0 dJ4_append_cf468_6 rfl rfl ?_
    obtain ⟨w1, w2, w3, w4⟩ := inA h
    clear h
    subst w1
    subst w2
    subst w3
    subst w4
    exact g_aret B hE (Or.inl ⟨_, rfl⟩) (Nat.le_trans (Nat.le_of_eq hka) hla) (Nat.le_trans (Nat.le_of_eq hkb) hlb) dJ4_append_cf468_7
set_option maxRecDepth 100000 in
set_option maxHeartbeats 4000000 in
theorem cJ3_checkFromToIndex_8c36ec {l : Launch} {v0 : Int32} {v1 : Int32} {v2 : Int32} {v3 : Option Nat} {σ : HpT} {o : Except Nat (Int32)} (h : fJ3_checkFromToIndex_8c36e v0 v1 v2 v3 σ = some o) : Ct l yJ3_checkFromToIndex_8c36e cJ3_checkFromToIndex_8c36e 4 (some .int) 0 0 [.int v0, .int v1, .int v2, va_rf v3] σ (oI o) σ (xc o) (xs o) := by
  unfold fJ3_checkFromToIndex_8c36e at h
  refine ct_start mi_J3_checkFromToIndex_8c36e.1 rfl (al_le (al_1 rfl (al_1 rfl (al_1 rfl (al_1 (rf_cat _) al_n)))) (Nat.le_of_ble_eq_true rfl)) (ag_1 rfl (ag_1 rfl (ag_1 rfl (ag_1 (rf_cat _) ag_n)))) (fun Δ Γ B hE hnm => ?_)
  refine g_iload_n B 0 dJ3_checkFromToIndex_8c36e_0 rfl rfl ?_
  refine g_if_lt B 14 dJ3_checkFromToIndex_8c36e_1 (by decide) (fun hc => ?_) (fun hc => ?_)
  · replace h := ifp hc h
    refine g_aload_n B 3 dJ3_checkFromToIndex_8c36e_14 rfl rfl ?_
    refine g_iload_n B 0 dJ3_checkFromToIndex_8c36e_15 rfl rfl ?_
    refine g_iload_n B 1 dJ3_checkFromToIndex_8c36e_16 rfl rfl ?_
    refine g_iload_n B 2 dJ3_checkFromToIndex_8c36e_17 rfl rfl ?_
    cases h
  · replace h := ifn hc h
    refine g_iload_n B 0 dJ3_checkFromToIndex_8c36e_4 rfl rfl ?_
    refine g_iload_n B 1 dJ3_checkFromToIndex_8c36e_5 rfl rfl ?_
    refine g_icmp_gt B 14 dJ3_checkFromToIndex_8c36e_6 (by decide) (fun hc => ?_) (fun hc => ?_)
    · replace h := ifp hc h
      refine g_aload_n B 3 dJ3_checkFromToIndex_8c36e_14 rfl rfl ?_
      refine g_iload_n B 0 dJ3_checkFromToIndex_8c36e_15 rfl rfl ?_
      refine g_iload_n B 1 dJ3_checkFromToIndex_8c36e_16 rfl rfl ?_
      refine g_iload_n B 2 dJ3_checkFromToIndex_8c36e_17 rfl rfl ?_
      cases h
    · replace h := ifn hc h
      refine g_iload_n B 1 dJ3_checkFromToIndex_8c36e_9 rfl rfl ?_
      refine g_iload_n B 2 dJ3_checkFromToIndex_8c36e_10 rfl rfl ?_
      refine g_icmp_le B 22 dJ3_checkFromToIndex_8c36e_11 (by decide) (fun hc => ?_) (fun hc => ?_)
      · replace h := ifp hc h
        refine g_iload_n B 0 dJ3_checkFromToIndex_8c36e_22 rfl rfl ?_
        replace h := Option.some.inj h
        subst h
        exact g_iret B hE (Nat.zero_le _) (Nat.zero_le _) dJ3_checkFromToIndex_8c36e_23
      · replace h := ifn hc h
        refine g_aload_n B 3 dJ3_checkFromToIndex_8c36e_14 rfl rfl ?_
        refine g_iload_n B 0 dJ3_checkFromToIndex_8c36e_15 rfl rfl ?_
        refine g_iload_n B 1 dJ3_checkFromToIndex_8c36e_16 rfl rfl ?_
        refine g_iload_n B 2 dJ3_checkFromToIndex_8c36e_17 rfl rfl ?_
        cases h
theorem fJ3_any2 {v0 v1 v2 : Int32} {σ : HpT} (r : Option Nat) : fJ3_checkFromToIndex_8c36e v0 v1 v2 none σ = fJ3_checkFromToIndex_8c36e v0 v1 v2 r σ := by
  unfold fJ3_checkFromToIndex_8c36e
  rfl
set_option maxRecDepth 100000 in
set_option maxHeartbeats 4000000 in
theorem cJ0_checkBoundsBeginEnd_23922c {l : Launch} {v0 v1 v2 : Int32} {σ : HpT} {r : Unit} (h : fJ0_checkBoundsBeginEnd_23922 v0 v1 v2 σ = some r) : Ct l yJ0_checkBoundsBeginEnd_23922 cJ0_checkBoundsBeginEnd_23922 3 none 1 23 [.int v0, .int v1, .int v2] σ (.ok none) σ 0 0 := by
  unfold fJ0_checkBoundsBeginEnd_23922 at h
  obtain ⟨x1, h1, h⟩ := bnP_s h
  refine ct_start mi_J0_checkBoundsBeginEnd_23922.1 rfl (al_le (al_1 rfl (al_1 rfl (al_1 rfl al_n))) (Nat.le_of_ble_eq_true rfl)) (ag_1 rfl (ag_1 rfl (ag_1 rfl ag_n))) (fun Δ Γ B hE hnm => ?_)
  refine g_iload_n B 0 dJ0_checkBoundsBeginEnd_23922_0 rfl rfl ?_
  refine g_iload_n B 1 dJ0_checkBoundsBeginEnd_23922_1 rfl rfl ?_
  refine g_iload_n B 2 dJ0_checkBoundsBeginEnd_23922_2 rfl rfl ?_
  refine g_gstF B sv_RJ0_1053 dJ0_checkBoundsBeginEnd_23922_3 (fun r9 => ?_)
  rw [fJ3_any2 r9] at h1
  obtain ⟨v9, rfl⟩ : ∃ v, x1 = .ok v := by
    unfold fJ3_checkFromToIndex_8c36e at h1
    split at h1
    · cases h1
    · split at h1
      · cases h1
      · split at h1
        · exact ⟨_, (Option.some.inj h1).symm⟩
        · cases h1
  refine g_callSs0 (st := []) B (cJ3_checkFromToIndex_8c36ec (o := .ok v9) h1) mi_J3_checkFromToIndex_8c36e lk_RJ0_1062 ⟨Nat.le_of_ble_eq_true rfl, Nat.le_of_ble_eq_true rfl⟩ rfl rfl (Nat.le_of_ble_eq_true rfl) dJ0_checkBoundsBeginEnd_23922_6 (Nat.zero_le _) (Nat.zero_le _) ?_
  refine g_pop B dJ0_checkBoundsBeginEnd_23922_9 rfl ?_
  exact g_vret B hE (Nat.zero_le _) (Nat.zero_le _) dJ0_checkBoundsBeginEnd_23922_10
set_option maxRecDepth 100000 in
set_option maxHeartbeats 4000000 in
theorem cJ7_checkLength_df160c {l : Launch} {v0 : Int32} {v1 : Int32} {σ : HpT} {o : Except Nat (Unit)} {σ' : HpT} {a b : Nat} (h : fJ7_checkLength_df160 v0 v1 σ = some (o, σ', a, b)) : Ct l yJ7_checkLength_df160 cJ7_checkLength_df160 2 none 0 0 [.int v0, .int v1] σ (oU o) σ' a b := by
  unfold fJ7_checkLength_df160 at h
  refine ct_start mi_J7_checkLength_df160.1 rfl (al_le (al_1 rfl (al_1 rfl al_n)) (Nat.le_of_ble_eq_true rfl)) (ag_1 rfl (ag_1 rfl ag_n)) (fun Δ Γ B hE hnm => ?_)
  have hka : 0 + a = a := Nat.zero_add a
  have hkb : 0 + b = b := Nat.zero_add b
  have hla : a ≤ a := Nat.le_refl a
  have hlb : b ≤ b := Nat.le_refl b
  refine g_iload_n B 1 dJ7_checkLength_df160_0 rfl rfl ?_
  refine g_iload_n B 0 dJ7_checkLength_df160_1 rfl rfl ?_
  refine g_icmp_ge B 37 dJ7_checkLength_df160_2 (by decide) (fun hc => ?_) (fun hc => ?_)
  · replace h := ifp hc h
    obtain ⟨w1, w2, w3, w4⟩ := inA h
    clear h
    subst w1
    subst w2
    subst w3
    subst w4
    exact g_vret B hE (Nat.le_trans (Nat.le_of_eq hka) hla) (Nat.le_trans (Nat.le_of_eq hkb) hlb) dJ7_checkLength_df160_37
  · replace h := ifn hc h
    cases h
set_option maxRecDepth 100000 in
set_option maxHeartbeats 4000000 in
theorem cJ7_copyOfRangeByte_39247c {l : Launch} {v0 : Option Nat} {v1 : Int32} {v2 : Int32} {σ : HpT} {o : Except Nat (Option Nat)} {σ' : HpT} {a b : Nat} (h : fJ7_copyOfRangeByte_39247 v0 v1 v2 σ = some (o, σ', a, b)) : Ct l yJ7_copyOfRangeByte_39247 cJ7_copyOfRangeByte_39247 5 (some (.array .byte)) 1 60 [va_rf v0, .int v1, .int v2] σ (oA o) σ' a b := by
  unfold fJ7_copyOfRangeByte_39247 at h
  refine ct_start mi_J7_copyOfRangeByte_39247.1 rfl (al_le (al_1 (rf_cat _) (al_1 rfl (al_1 rfl al_n))) (Nat.le_of_ble_eq_true rfl)) (ag_1 (rf_cat _) (ag_1 rfl (ag_1 rfl ag_n))) (fun Δ Γ B hE hnm => ?_)
  have hka : 0 + a = a := Nat.zero_add a
  have hkb : 0 + b = b := Nat.zero_add b
  have hla : a ≤ a := Nat.le_refl a
  have hlb : b ≤ b := Nat.le_refl b
  refine g_iload_n B 1 dJ7_copyOfRangeByte_39247_0 rfl rfl ?_
  refine g_iload_n B 2 dJ7_copyOfRangeByte_39247_1 rfl rfl ?_
  replace h := bnA_s h
  rcases h with ⟨e9, h2, e8⟩ | ⟨x1, s3, a4, b5, a6, b7, h2, h, ea, eb⟩
  · subst e8
    exact g_callSx (st := []) B (cJ7_checkLength_df160c (o := .error e9) h2) mi_J7_checkLength_df160 lk_RJ7_343 ⟨Nat.le_of_ble_eq_true rfl, Nat.le_of_ble_eq_true rfl⟩ rfl rfl (Nat.le_of_ble_eq_true rfl) dJ7_copyOfRangeByte_39247_2 (Nat.le_trans (Nat.le_of_eq hka) hla) (Nat.le_trans (Nat.le_of_eq hkb) hlb) hE
  · subst ea; subst eb
    have hka := bk hka
    have hkb := bk hkb
    refine g_callSvA (st := []) B (cJ7_checkLength_df160c (o := .ok x1) h2) mi_J7_checkLength_df160 lk_RJ7_343 ⟨Nat.le_of_ble_eq_true rfl, Nat.le_of_ble_eq_true rfl⟩ rfl rfl (Nat.le_of_ble_eq_true rfl) dJ7_copyOfRangeByte_39247_2 (Nat.le_trans (bm hka) hla) (Nat.le_trans (bm hkb) hlb) ?_
    refine g_iload_n B 2 dJ7_copyOfRangeByte_39247_5 rfl rfl ?_
    refine g_iload_n B 1 dJ7_copyOfRangeByte_39247_6 rfl rfl ?_
    refine g_isub B dJ7_copyOfRangeByte_39247_7 ?_
    refine g_istore_n B dJ7_copyOfRangeByte_39247_8 rfl (Nat.le_of_ble_eq_true rfl) (s1_c (f1_k rfl (f1_k rfl (f1_1 rfl rfl f1_n)))) ?_
    refine g_iload_n B 0 dJ7_copyOfRangeByte_39247_9 rfl rfl ?_
    replace h := bnA_s h
    rcases h with ⟨e9, h9, e8⟩ | ⟨x8, s10, a11, b12, a13, b14, h9, h, ea, eb⟩
    · exact absurd h9 (by simp [nwA, nwR]; try (split <;> simp))
    · subst ea; subst eb
      have hka := bk hka
      have hkb := bk hkb
      refine g_newarr B (Or.inr (Or.inr (Or.inl ⟨rfl, rfl⟩))) na_byte dJ7_copyOfRangeByte_39247_10 h9 (Nat.le_trans (bm hka) hla) (Nat.le_trans (bm hkb) hlb) ?_
      refine g_astore B dJ7_copyOfRangeByte_39247_12 (Nat.le_of_ble_eq_true rfl) (s1_c (f1_1 rfl rfl (f1_k rfl (f1_k rfl (f1_k rfl f1_n))))) ?_
      refine g_aload_n B 2 dJ7_copyOfRangeByte_39247_14 rfl rfl ?_
      refine g_iload_n B 3 dJ7_copyOfRangeByte_39247_15 rfl rfl ?_
      refine g_aload B 0 dJ7_copyOfRangeByte_39247_16 rfl ?_
      refine g_iconst (v := 0) B dJ7_copyOfRangeByte_39247_18 (by decide) ?_
      refine g_aload_n B 2 dJ7_copyOfRangeByte_39247_19 rfl rfl ?_
      replace h := bnP_s h
      obtain ⟨x15, h16, h⟩ := h
      refine g_alen B (κ := 22) (by decide) dJ7_copyOfRangeByte_39247_20 h16 ?_
      refine g_iload_n B 3 dJ7_copyOfRangeByte_39247_21 rfl rfl ?_
      refine g_isub B dJ7_copyOfRangeByte_39247_22 ?_
      refine g_iload_n B 1 dJ7_copyOfRangeByte_39247_23 rfl rfl ?_
      refine g_mmin B mt_RJ7_304 (by decide) (Nat.le_of_ble_eq_true rfl) dJ7_copyOfRangeByte_39247_24 (Nat.le_trans (bm hka) hla) (Nat.le_trans (bm hkb) hlb) ?_
      replace h := bnP_s h
      obtain ⟨s19, h18, h⟩ := h
      refine g_cpC B cp_RJ7_150 (by decide) (Nat.le_of_ble_eq_true rfl) dJ7_copyOfRangeByte_39247_27 h18 ?_
      refine g_aload B 0 dJ7_copyOfRangeByte_39247_30 rfl ?_
      obtain ⟨w1, w2, w3, w4⟩ := inA h
      clear h
      subst w1
      subst w2
      subst w3
      subst w4
      exact g_aret B hE (Or.inr ⟨_, rfl⟩) (Nat.le_trans (Nat.le_of_eq hka) hla) (Nat.le_trans (Nat.le_of_eq hkb) hlb) dJ7_copyOfRangeByte_39247_32
set_option maxRecDepth 100000 in
set_option maxHeartbeats 4000000 in
theorem cJ7_copyOfRange_39247c {l : Launch} {v0 : Option Nat} {v1 : Int32} {v2 : Int32} {σ : HpT} {o : Except Nat (Option Nat)} {σ' : HpT} {a b : Nat} (h : fJ7_copyOfRange_39247 v0 v1 v2 σ = some (o, σ', a, b)) : Ct l yJ7_copyOfRange_39247 cJ7_copyOfRange_39247 3 (some (.array .byte)) 2 84 [va_rf v0, .int v1, .int v2] σ (oA o) σ' a b := by
  unfold fJ7_copyOfRange_39247 at h
  refine ct_start mi_J7_copyOfRange_39247.1 rfl (al_le (al_1 (rf_cat _) (al_1 rfl (al_1 rfl al_n))) (Nat.le_of_ble_eq_true rfl)) (ag_1 (rf_cat _) (ag_1 rfl (ag_1 rfl ag_n))) (fun Δ Γ B hE hnm => ?_)
  have hka : 0 + a = a := Nat.zero_add a
  have hkb : 0 + b = b := Nat.zero_add b
  have hla : a ≤ a := Nat.le_refl a
  have hlb : b ≤ b := Nat.le_refl b
  refine g_iload_n B 1 dJ7_copyOfRange_39247_0 rfl rfl ?_
  refine g_if_ne B 10 dJ7_copyOfRange_39247_1 (by decide) (fun hc => ?_) (fun hc => ?_)
  · replace h := ifn hc h
    refine g_aload_n B 0 dJ7_copyOfRange_39247_10 rfl rfl ?_
    refine g_iload_n B 1 dJ7_copyOfRange_39247_11 rfl rfl ?_
    refine g_iload_n B 2 dJ7_copyOfRange_39247_12 rfl rfl ?_
    replace h := bnA_s h
    rcases h with ⟨e9, h2, e8⟩ | ⟨x1, s3, a4, b5, a6, b7, h2, h, ea, eb⟩
    · subst e8
      exact g_callSx (st := []) B (cJ7_copyOfRangeByte_39247c (o := .error e9) h2) mi_J7_copyOfRangeByte_39247 lk_RJ7_339 ⟨Nat.le_of_ble_eq_true rfl, Nat.le_of_ble_eq_true rfl⟩ rfl rfl (Nat.le_of_ble_eq_true rfl) dJ7_copyOfRange_39247_13 (Nat.le_trans (Nat.le_of_eq hka) hla) (Nat.le_trans (Nat.le_of_eq hkb) hlb) hE
    · subst ea; subst eb
      have hka := bk hka
      have hkb := bk hkb
      refine g_callSsA (st := []) B (cJ7_copyOfRangeByte_39247c (o := .ok x1) h2) mi_J7_copyOfRangeByte_39247 lk_RJ7_339 ⟨Nat.le_of_ble_eq_true rfl, Nat.le_of_ble_eq_true rfl⟩ rfl rfl (Nat.le_of_ble_eq_true rfl) dJ7_copyOfRange_39247_13 (Nat.le_trans (bm hka) hla) (Nat.le_trans (bm hkb) hlb) ?_
      obtain ⟨w1, w2, w3, w4⟩ := inA h
      clear h
      subst w1
      subst w2
      subst w3
      subst w4
      exact g_aret B hE (Or.inr ⟨_, rfl⟩) (Nat.le_trans (Nat.le_of_eq hka) hla) (Nat.le_trans (Nat.le_of_eq hkb) hlb) dJ7_copyOfRange_39247_16
  · replace h := ifp hc h
    refine g_iload_n B 2 dJ7_copyOfRange_39247_4 rfl rfl ?_
    refine g_aload_n B 0 dJ7_copyOfRange_39247_5 rfl rfl ?_
    replace h := bnP_s h
    obtain ⟨x8, h9, h⟩ := h
    refine g_alen B (κ := 22) (by decide) dJ7_copyOfRange_39247_6 h9 ?_
    refine g_icmp_eq B 17 dJ7_copyOfRange_39247_7 (by decide) (fun hc => ?_) (fun hc => ?_)
    · replace h := ifp hc h
      refine g_aload_n B 0 dJ7_copyOfRange_39247_17 rfl rfl ?_
      replace h := bnA_s h
      rcases h with ⟨e9, h11, e8⟩ | ⟨x10, s12, a13, b14, a15, b16, h11, h, ea, eb⟩
      · subst e8
        exact (clB_e h11).elim
      · subst ea; subst eb
        have hka := bk hka
        have hkb := bk hkb
        refine g_clone B cl_RJ7_310 (by decide) (Nat.le_of_ble_eq_true rfl) dJ7_copyOfRange_39247_18 h11 (Nat.le_trans (bm hka) hla) (Nat.le_trans (bm hkb) hlb) ?_
        replace h := bnP_s h
        obtain ⟨u17, h18, h⟩ := h
        refine g_castB B cc_RJ7_311 dJ7_copyOfRange_39247_21 h18 ?_
        obtain ⟨w1, w2, w3, w4⟩ := inA h
        clear h
        subst w1
        subst w2
        subst w3
        subst w4
        exact g_aret B hE (Or.inr ⟨_, rfl⟩) (Nat.le_trans (Nat.le_of_eq hka) hla) (Nat.le_trans (Nat.le_of_eq hkb) hlb) dJ7_copyOfRange_39247_24
    · replace h := ifn hc h
      refine g_aload_n B 0 dJ7_copyOfRange_39247_10 rfl rfl ?_
      refine g_iload_n B 1 dJ7_copyOfRange_39247_11 rfl rfl ?_
      refine g_iload_n B 2 dJ7_copyOfRange_39247_12 rfl rfl ?_
      replace h := bnA_s h
      rcases h with ⟨e9, h20, e8⟩ | ⟨x19, s21, a22, b23, a24, b25, h20, h, ea, eb⟩
      · subst e8
        exact g_callSx (st := []) B (cJ7_copyOfRangeByte_39247c (o := .error e9) h20) mi_J7_copyOfRangeByte_39247 lk_RJ7_339 ⟨Nat.le_of_ble_eq_true rfl, Nat.le_of_ble_eq_true rfl⟩ rfl rfl (Nat.le_of_ble_eq_true rfl) dJ7_copyOfRange_39247_13 (Nat.le_trans (Nat.le_of_eq hka) hla) (Nat.le_trans (Nat.le_of_eq hkb) hlb) hE
      · subst ea; subst eb
        have hka := bk hka
        have hkb := bk hkb
        refine g_callSsA (st := []) B (cJ7_copyOfRangeByte_39247c (o := .ok x19) h20) mi_J7_copyOfRangeByte_39247 lk_RJ7_339 ⟨Nat.le_of_ble_eq_true rfl, Nat.le_of_ble_eq_true rfl⟩ rfl rfl (Nat.le_of_ble_eq_true rfl) dJ7_copyOfRange_39247_13 (Nat.le_trans (bm hka) hla) (Nat.le_trans (bm hkb) hlb) ?_
        obtain ⟨w1, w2, w3, w4⟩ := inA h
        clear h
        subst w1
        subst w2
        subst w3
        subst w4
        exact g_aret B hE (Or.inr ⟨_, rfl⟩) (Nat.le_trans (Nat.le_of_eq hka) hla) (Nat.le_trans (Nat.le_of_eq hkb) hlb) dJ7_copyOfRange_39247_16
set_option maxRecDepth 100000 in
set_option maxHeartbeats 4000000 in
theorem cJ0_init_031fbc {l : Launch} {v0 : Option Nat} {v1 : Option Nat} {v2 : Int32} {σ : HpT} {σ' : HpT} (h : fJ0_init_031fb v0 v1 v2 σ = some σ') : IsK σ v0 15 ∧ Ct l yJ0_init_031fb cJ0_init_031fb 3 none 1 21 [va_rf v0, va_rf v1, .int v2] σ (.ok none) σ' 0 0 := by
  unfold fJ0_init_031fb at h
  replace h := bnP_s h
  obtain ⟨u, hk, h⟩ := h
  replace hk := isK_s hk
  refine ⟨hk, ?_⟩
  refine ct_start mi_J0_init_031fb.1 rfl (al_le (al_1 (rf_cat _) (al_1 (rf_cat _) (al_1 rfl al_n))) (Nat.le_of_ble_eq_true rfl)) (ag_1 (rf_cat _) (ag_1 (rf_cat _) (ag_1 rfl ag_n))) (fun Δ Γ B hE hnm => ?_)
  refine g_aload_n B 0 dJ0_init_031fb_0 rfl rfl ?_
  refine g_objInit9 B hk obj_RJ0_1 (by decide) (Nat.le_of_ble_eq_true rfl) dJ0_init_031fb_1 ?_
  refine g_aload_n B 0 dJ0_init_031fb_4 rfl rfl ?_
  refine g_aload_n B 1 dJ0_init_031fb_5 rfl rfl ?_
  replace h := bnP_s h
  obtain ⟨s3, h2, h⟩ := h
  refine g_putRF B fl_RJ0_9 (by decide) (Or.inr ⟨_, rfl⟩) hnm dJ0_init_031fb_6 h2 ?_
  refine g_aload_n B 0 dJ0_init_031fb_9 rfl rfl ?_
  refine g_iload_n B 2 dJ0_init_031fb_10 rfl rfl ?_
  replace h := bnP_s h
  obtain ⟨s6, h5, h⟩ := h
  refine g_putBF B fl_RJ0_15 (by decide) hnm dJ0_init_031fb_11 h5 ?_
  replace h := Option.some.inj h
  subst h
  exact g_vret B hE (Nat.zero_le _) (Nat.zero_le _) dJ0_init_031fb_14
set_option maxRecDepth 100000 in
set_option maxHeartbeats 4000000 in
theorem cJ1_newString_b4f7ac {l : Launch} {v0 : Option Nat} {v1 : Int32} {v2 : Int32} {σ : HpT} {o : Except Nat (Option Nat)} {σ' : HpT} {a b : Nat} (h : fJ1_newString_b4f7a v0 v1 v2 σ = some (o, σ', a, b)) : Ct l yJ1_newString_b4f7a cJ1_newString_b4f7a 3 (some (.object "java/lang/String")) 3 106 [va_rf v0, .int v1, .int v2] σ (oA o) σ' a b := by
  unfold fJ1_newString_b4f7a at h
  refine ct_start mi_J1_newString_b4f7a.1 rfl (al_le (al_1 (rf_cat _) (al_1 rfl (al_1 rfl al_n))) (Nat.le_of_ble_eq_true rfl)) (ag_1 (rf_cat _) (ag_1 rfl (ag_1 rfl ag_n))) (fun Δ Γ B hE hnm => ?_)
  have hka : 0 + a = a := Nat.zero_add a
  have hkb : 0 + b = b := Nat.zero_add b
  have hla : a ≤ a := Nat.le_refl a
  have hlb : b ≤ b := Nat.le_refl b
  refine g_iload_n B 2 dJ1_newString_b4f7a_0 rfl rfl ?_
  refine g_if_ne B 7 dJ1_newString_b4f7a_1 (by decide) (fun hc => ?_) (fun hc => ?_)
  · replace h := ifn hc h
    replace h := bnA_s h
    rcases h with ⟨e9, h2, e8⟩ | ⟨x1, s3, a4, b5, a6, b7, h2, h, ea, eb⟩
    · exact absurd h2 (by simp [nwA, nwR]; try (split <;> simp))
    · subst ea; subst eb
      have hka := bk hka
      have hkb := bk hkb
      refine g_new B nw_RJ1_1 dJ1_newString_b4f7a_7 h2 (Nat.le_trans (bm hka) hla) (Nat.le_trans (bm hkb) hlb) ?_
      refine g_dup B dJ1_newString_b4f7a_10 (rf_cat _) ?_
      refine g_aload_n B 0 dJ1_newString_b4f7a_11 rfl rfl ?_
      refine g_iload_n B 1 dJ1_newString_b4f7a_12 rfl rfl ?_
      refine g_iload_n B 1 dJ1_newString_b4f7a_13 rfl rfl ?_
      refine g_iload_n B 2 dJ1_newString_b4f7a_14 rfl rfl ?_
      refine g_iadd B dJ1_newString_b4f7a_15 ?_
      replace h := bnA_s h
      rcases h with ⟨e9, h9, e8⟩ | ⟨x8, s10, a11, b12, a13, b14, h9, h, ea, eb⟩
      · subst e8
        exact g_callSx (st := [va_rf x1, va_rf x1]) B (cJ7_copyOfRange_39247c (o := .error e9) h9) mi_J7_copyOfRange_39247 lk_RJ1_232 ⟨Nat.le_of_ble_eq_true rfl, Nat.le_of_ble_eq_true rfl⟩ rfl rfl (Nat.le_of_ble_eq_true rfl) dJ1_newString_b4f7a_16 (Nat.le_trans (Nat.le_of_eq hka) hla) (Nat.le_trans (Nat.le_of_eq hkb) hlb) hE
      · subst ea; subst eb
        have hka := bk hka
        have hkb := bk hkb
        refine g_callSsA (st := [va_rf x1, va_rf x1]) B (cJ7_copyOfRange_39247c (o := .ok x8) h9) mi_J7_copyOfRange_39247 lk_RJ1_232 ⟨Nat.le_of_ble_eq_true rfl, Nat.le_of_ble_eq_true rfl⟩ rfl rfl (Nat.le_of_ble_eq_true rfl) dJ1_newString_b4f7a_16 (Nat.le_trans (bm hka) hla) (Nat.le_trans (bm hkb) hlb) ?_
        refine g_iconst (v := 0) B dJ1_newString_b4f7a_19 (by decide) ?_
        replace h := bnP_s h
        obtain ⟨s17, h16, h⟩ := h
        refine g_callIv0 (st := [va_rf x1]) B (cJ0_init_031fbc h16) mi_J0_init_031fb lk_RJ1_112 ⟨Nat.le_of_ble_eq_true rfl, Nat.le_of_ble_eq_true rfl⟩ rfl rfl (Nat.le_of_ble_eq_true rfl) dJ1_newString_b4f7a_20 (Nat.le_trans (bm hka) hla) (Nat.le_trans (bm hkb) hlb) ?_
        obtain ⟨w1, w2, w3, w4⟩ := inA h
        clear h
        subst w1
        subst w2
        subst w3
        subst w4
        exact g_aret B hE (Or.inl ⟨_, rfl⟩) (Nat.le_trans (Nat.le_of_eq hka) hla) (Nat.le_trans (Nat.le_of_eq hkb) hlb) dJ1_newString_b4f7a_23
  · replace h := ifp hc h
    refine g_ldcS B (j := 37) rfl dJ1_newString_b4f7a_4 ?_
    obtain ⟨w1, w2, w3, w4⟩ := inA h
    clear h
    subst w1
    subst w2
    subst w3
    subst w4
    exact g_aret B hE (Or.inl ⟨_, rfl⟩) (Nat.le_trans (Nat.le_of_eq hka) hla) (Nat.le_trans (Nat.le_of_eq hkb) hlb) dJ1_newString_b4f7a_6
set_option maxRecDepth 100000 in
set_option maxHeartbeats 4000000 in
theorem cJ0_substring_37a41c {l : Launch} {v0 : Option Nat} {v1 : Int32} {v2 : Int32} {σ : HpT} {o : Except Nat (Option Nat)} {σ' : HpT} {a b : Nat} (h : fJ0_substring_37a41 v0 v1 v2 σ = some (o, σ', a, b)) : IsK σ v0 15 ∧ Ct l yJ0_substring_37a41 cJ0_substring_37a41 5 (some (.object "java/lang/String")) 4 128 [va_rf v0, .int v1, .int v2] σ (oA o) σ' a b := by
  unfold fJ0_substring_37a41 at h
  replace h := bnP_s h
  obtain ⟨u, hk, h⟩ := h
  replace hk := isK_s hk
  refine ⟨hk, ?_⟩
  refine ct_start mi_J0_substring_37a41.1 rfl (al_le (al_1 (rf_cat _) (al_1 rfl (al_1 rfl al_n))) (Nat.le_of_ble_eq_true rfl)) (ag_1 (rf_cat _) (ag_1 rfl (ag_1 rfl ag_n))) (fun Δ Γ B hE hnm => ?_)
  have hka : 0 + a = a := Nat.zero_add a
  have hkb : 0 + b = b := Nat.zero_add b
  have hla : a ≤ a := Nat.le_refl a
  have hlb : b ≤ b := Nat.le_refl b
  refine g_aload_n B 0 dJ0_substring_37a41_0 rfl rfl ?_
  replace h := bnP_s h
  obtain ⟨x1, h2, h⟩ := h
  refine g_callQs0 (st := []) B (cJ0_length_8abf5c h2) rfl mi_J0_length_8abf5 lk_RJ0_505 ⟨Nat.le_of_ble_eq_true rfl, Nat.le_of_ble_eq_true rfl⟩ rfl rfl (Nat.le_of_ble_eq_true rfl) dJ0_substring_37a41_1 (Nat.le_trans (bm hka) hla) (Nat.le_trans (bm hkb) hlb) ?_
  refine g_istore_n B dJ0_substring_37a41_4 rfl (Nat.le_of_ble_eq_true rfl) (s1_c (f1_k rfl (f1_k rfl (f1_1 rfl rfl f1_n)))) ?_
  refine g_iload_n B 2 dJ0_substring_37a41_5 rfl rfl ?_
  refine g_iload_n B 3 dJ0_substring_37a41_6 rfl rfl ?_
  refine g_iload_n B 0 dJ0_substring_37a41_7 rfl rfl ?_
  replace h := bnP_s h
  obtain ⟨x3, h4, h⟩ := h
  refine g_callSv0 (st := []) B (cJ0_checkBoundsBeginEnd_23922c h4) mi_J0_checkBoundsBeginEnd_23922 lk_RJ0_521 ⟨Nat.le_of_ble_eq_true rfl, Nat.le_of_ble_eq_true rfl⟩ rfl rfl (Nat.le_of_ble_eq_true rfl) dJ0_substring_37a41_8 (Nat.le_trans (bm hka) hla) (Nat.le_trans (bm hkb) hlb) ?_
  refine g_iload_n B 2 dJ0_substring_37a41_11 rfl rfl ?_
  refine g_if_ne B 22 dJ0_substring_37a41_12 (by decide) (fun hc => ?_) (fun hc => ?_)
  · replace h := ifn hc h
    refine g_iload_n B 3 dJ0_substring_37a41_22 rfl rfl ?_
    refine g_iload_n B 2 dJ0_substring_37a41_23 rfl rfl ?_
    refine g_isub B dJ0_substring_37a41_24 ?_
    refine g_istore B dJ0_substring_37a41_25 (Nat.le_of_ble_eq_true rfl) (s1_c (f1_1 rfl rfl (f1_k rfl (f1_k rfl (f1_k rfl f1_n))))) ?_
    refine g_aload_n B 2 dJ0_substring_37a41_27 rfl rfl ?_
    replace h := bnP_s h
    obtain ⟨x5, h6, h⟩ := h
    refine g_callQs0 (st := []) B (cJ0_isLatin1_aae02c h6) rfl mi_J0_isLatin1_aae02 lk_RJ0_492 ⟨Nat.le_of_ble_eq_true rfl, Nat.le_of_ble_eq_true rfl⟩ rfl rfl (Nat.le_of_ble_eq_true rfl) dJ0_substring_37a41_28 (Nat.le_trans (bm hka) hla) (Nat.le_trans (bm hkb) hlb) ?_
    refine g_if_eq B 47 dJ0_substring_37a41_31 (by decide) (fun hc => ?_) (fun hc => ?_)
    · replace h := ifn (bI0 hc) h
      refine g_aload_n B 2 dJ0_substring_37a41_47 rfl rfl ?_
      replace h := bnP_s h
      obtain ⟨x7, h8, h⟩ := h
      refine g_getSV B fs_RJ0_9 sv_RJ0_9 dJ0_substring_37a41_48 h8 ?_
      refine g_iload_n B 3 dJ0_substring_37a41_51 rfl rfl ?_
      refine g_iload B 0 dJ0_substring_37a41_52 rfl ?_
      cases h
    · replace h := ifp (bI1 hc) h
      refine g_aload_n B 2 dJ0_substring_37a41_34 rfl rfl ?_
      replace h := bnP_s h
      obtain ⟨x9, h10, h⟩ := h
      refine g_getSV B fs_RJ0_9 sv_RJ0_9 dJ0_substring_37a41_35 h10 ?_
      refine g_iload_n B 3 dJ0_substring_37a41_38 rfl rfl ?_
      refine g_iload B 0 dJ0_substring_37a41_39 rfl ?_
      replace h := bnA_s h
      rcases h with ⟨e9, h12, e8⟩ | ⟨x11, s13, a14, b15, a16, b17, h12, h, ea, eb⟩
      · subst e8
        exact g_callSx (st := []) B (cJ1_newString_b4f7ac (o := .error e9) h12) mi_J1_newString_b4f7a lk_RJ0_685 ⟨Nat.le_of_ble_eq_true rfl, Nat.le_of_ble_eq_true rfl⟩ rfl rfl (Nat.le_of_ble_eq_true rfl) dJ0_substring_37a41_41 (Nat.le_trans (Nat.le_of_eq hka) hla) (Nat.le_trans (Nat.le_of_eq hkb) hlb) hE
      · subst ea; subst eb
        have hka := bk hka
        have hkb := bk hkb
        refine g_callSsA (st := []) B (cJ1_newString_b4f7ac (o := .ok x11) h12) mi_J1_newString_b4f7a lk_RJ0_685 ⟨Nat.le_of_ble_eq_true rfl, Nat.le_of_ble_eq_true rfl⟩ rfl rfl (Nat.le_of_ble_eq_true rfl) dJ0_substring_37a41_41 (Nat.le_trans (bm hka) hla) (Nat.le_trans (bm hkb) hlb) ?_
        refine g_goto B 57 dJ0_substring_37a41_44 (by decide) ?_
        obtain ⟨w1, w2, w3, w4⟩ := inA h
        clear h
        subst w1
        subst w2
        subst w3
        subst w4
        exact g_aret B hE (Or.inl ⟨_, rfl⟩) (Nat.le_trans (Nat.le_of_eq hka) hla) (Nat.le_trans (Nat.le_of_eq hkb) hlb) dJ0_substring_37a41_57
  · replace h := ifp hc h
    refine g_iload_n B 3 dJ0_substring_37a41_15 rfl rfl ?_
    refine g_iload_n B 0 dJ0_substring_37a41_16 rfl rfl ?_
    refine g_icmp_ne B 22 dJ0_substring_37a41_17 (by decide) (fun hc => ?_) (fun hc => ?_)
    · replace h := ifn hc h
      refine g_iload_n B 3 dJ0_substring_37a41_22 rfl rfl ?_
      refine g_iload_n B 2 dJ0_substring_37a41_23 rfl rfl ?_
      refine g_isub B dJ0_substring_37a41_24 ?_
      refine g_istore B dJ0_substring_37a41_25 (Nat.le_of_ble_eq_true rfl) (s1_c (f1_1 rfl rfl (f1_k rfl (f1_k rfl (f1_k rfl f1_n))))) ?_
      refine g_aload_n B 2 dJ0_substring_37a41_27 rfl rfl ?_
      replace h := bnP_s h
      obtain ⟨x18, h19, h⟩ := h
      refine g_callQs0 (st := []) B (cJ0_isLatin1_aae02c h19) rfl mi_J0_isLatin1_aae02 lk_RJ0_492 ⟨Nat.le_of_ble_eq_true rfl, Nat.le_of_ble_eq_true rfl⟩ rfl rfl (Nat.le_of_ble_eq_true rfl) dJ0_substring_37a41_28 (Nat.le_trans (bm hka) hla) (Nat.le_trans (bm hkb) hlb) ?_
      refine g_if_eq B 47 dJ0_substring_37a41_31 (by decide) (fun hc => ?_) (fun hc => ?_)
      · replace h := ifn (bI0 hc) h
        refine g_aload_n B 2 dJ0_substring_37a41_47 rfl rfl ?_
        replace h := bnP_s h
        obtain ⟨x20, h21, h⟩ := h
        refine g_getSV B fs_RJ0_9 sv_RJ0_9 dJ0_substring_37a41_48 h21 ?_
        refine g_iload_n B 3 dJ0_substring_37a41_51 rfl rfl ?_
        refine g_iload B 0 dJ0_substring_37a41_52 rfl ?_
        cases h
      · replace h := ifp (bI1 hc) h
        refine g_aload_n B 2 dJ0_substring_37a41_34 rfl rfl ?_
        replace h := bnP_s h
        obtain ⟨x22, h23, h⟩ := h
        refine g_getSV B fs_RJ0_9 sv_RJ0_9 dJ0_substring_37a41_35 h23 ?_
        refine g_iload_n B 3 dJ0_substring_37a41_38 rfl rfl ?_
        refine g_iload B 0 dJ0_substring_37a41_39 rfl ?_
        replace h := bnA_s h
        rcases h with ⟨e9, h25, e8⟩ | ⟨x24, s26, a27, b28, a29, b30, h25, h, ea, eb⟩
        · subst e8
          exact g_callSx (st := []) B (cJ1_newString_b4f7ac (o := .error e9) h25) mi_J1_newString_b4f7a lk_RJ0_685 ⟨Nat.le_of_ble_eq_true rfl, Nat.le_of_ble_eq_true rfl⟩ rfl rfl (Nat.le_of_ble_eq_true rfl) dJ0_substring_37a41_41 (Nat.le_trans (Nat.le_of_eq hka) hla) (Nat.le_trans (Nat.le_of_eq hkb) hlb) hE
        · subst ea; subst eb
          have hka := bk hka
          have hkb := bk hkb
          refine g_callSsA (st := []) B (cJ1_newString_b4f7ac (o := .ok x24) h25) mi_J1_newString_b4f7a lk_RJ0_685 ⟨Nat.le_of_ble_eq_true rfl, Nat.le_of_ble_eq_true rfl⟩ rfl rfl (Nat.le_of_ble_eq_true rfl) dJ0_substring_37a41_41 (Nat.le_trans (bm hka) hla) (Nat.le_trans (bm hkb) hlb) ?_
          refine g_goto B 57 dJ0_substring_37a41_44 (by decide) ?_
          obtain ⟨w1, w2, w3, w4⟩ := inA h
          clear h
          subst w1
          subst w2
          subst w3
          subst w4
          exact g_aret B hE (Or.inl ⟨_, rfl⟩) (Nat.le_trans (Nat.le_of_eq hka) hla) (Nat.le_trans (Nat.le_of_eq hkb) hlb) dJ0_substring_37a41_57
    · replace h := ifp hc h
      refine g_aload_n B 1 dJ0_substring_37a41_20 rfl rfl ?_
      obtain ⟨w1, w2, w3, w4⟩ := inA h
      clear h
      subst w1
      subst w2
      subst w3
      subst w4
      exact g_aret B hE (Or.inl ⟨_, rfl⟩) (Nat.le_trans (Nat.le_of_eq hka) hla) (Nat.le_trans (Nat.le_of_eq hkb) hlb) dJ0_substring_37a41_21
set_option maxRecDepth 100000 in
set_option maxHeartbeats 4000000 in
theorem cJ5_inflateIfNeededFor_a7421c {l : Launch} {v0 : Option Nat} {v1 : Option Nat} {σ : HpT} {r : Unit} (h : fJ5_inflateIfNeededFor_a7421 v0 v1 σ = some r) : IsK σ v0 11 ∧ Ct l yJ5_inflateIfNeededFor_a7421 cJ5_inflateIfNeededFor_a7421 2 none 1 20 [va_rf v0, va_rf v1] σ (.ok none) σ 0 0 := by
  unfold fJ5_inflateIfNeededFor_a7421 at h
  replace h := bnP_s h
  obtain ⟨u, hk, h⟩ := h
  replace hk := isK_s hk
  refine ⟨hk, ?_⟩
  refine ct_start mi_J5_inflateIfNeededFor_a7421.1 rfl (al_le (al_1 (rf_cat _) (al_1 (rf_cat _) al_n)) (Nat.le_of_ble_eq_true rfl)) (ag_1 (rf_cat _) (ag_1 (rf_cat _) ag_n)) (fun Δ Γ B hE hnm => ?_)
  refine g_gstC B sv_RJ5_18 dJ5_inflateIfNeededFor_a7421_0 ?_
  refine g_if_eq B 21 dJ5_inflateIfNeededFor_a7421_3 (by decide) (fun hc => ?_) (fun hc => ?_)
  · exact absurd hc (by decide)
  · skip
    refine g_aload_n B 0 dJ5_inflateIfNeededFor_a7421_6 rfl rfl ?_
    replace h := bnP_s h
    obtain ⟨x1, h2, h⟩ := h
    refine g_getI B fl_RJ5_22 (by decide) dJ5_inflateIfNeededFor_a7421_7 h2 ?_
    refine g_aload_n B 1 dJ5_inflateIfNeededFor_a7421_10 rfl rfl ?_
    replace h := bnP_s h
    obtain ⟨x3, h4, h⟩ := h
    refine g_callQs0 (st := [.int x1]) B (cJ0_coder_7d493c h4) rfl mi_J0_coder_7d493 lk_RJ5_40 ⟨Nat.le_of_ble_eq_true rfl, Nat.le_of_ble_eq_true rfl⟩ rfl rfl (Nat.le_of_ble_eq_true rfl) dJ5_inflateIfNeededFor_a7421_11 (Nat.zero_le _) (Nat.zero_le _) ?_
    refine g_icmp_eq B 21 dJ5_inflateIfNeededFor_a7421_14 (by decide) (fun hc => ?_) (fun hc => ?_)
    · replace h := ifp hc h
      replace h := Option.some.inj h
      subst h
      exact g_vret B hE (Nat.zero_le _) (Nat.zero_le _) dJ5_inflateIfNeededFor_a7421_21
    · replace h := ifn hc h
      refine g_aload_n B 0 dJ5_inflateIfNeededFor_a7421_17 rfl rfl ?_
      cases h
set_option maxRecDepth 100000 in
set_option maxHeartbeats 4000000 in
theorem cJ0_getBytes_840e7c {l : Launch} {v0 : Option Nat} {v1 : Option Nat} {v2 : Int32} {v3 : Int32} {σ : HpT} {σ' : HpT} (h : fJ0_getBytes_840e7 v0 v1 v2 v3 σ = some σ') : IsK σ v0 15 ∧ Ct l yJ0_getBytes_840e7 cJ0_getBytes_840e7 4 none 1 60 [va_rf v0, va_rf v1, .int v2, .int v3] σ (.ok none) σ' 0 0 := by
  unfold fJ0_getBytes_840e7 at h
  replace h := bnP_s h
  obtain ⟨u, hk, h⟩ := h
  replace hk := isK_s hk
  refine ⟨hk, ?_⟩
  refine ct_start mi_J0_getBytes_840e7.1 rfl (al_le (al_1 (rf_cat _) (al_1 (rf_cat _) (al_1 rfl (al_1 rfl al_n)))) (Nat.le_of_ble_eq_true rfl)) (ag_1 (rf_cat _) (ag_1 (rf_cat _) (ag_1 rfl (ag_1 rfl ag_n)))) (fun Δ Γ B hE hnm => ?_)
  refine g_aload_n B 0 dJ0_getBytes_840e7_0 rfl rfl ?_
  replace h := bnP_s h
  obtain ⟨x1, h2, h⟩ := h
  refine g_callQs0 (st := []) B (cJ0_coder_7d493c h2) rfl mi_J0_coder_7d493 lk_RJ0_335 ⟨Nat.le_of_ble_eq_true rfl, Nat.le_of_ble_eq_true rfl⟩ rfl rfl (Nat.le_of_ble_eq_true rfl) dJ0_getBytes_840e7_1 (Nat.zero_le _) (Nat.zero_le _) ?_
  refine g_iload_n B 3 dJ0_getBytes_840e7_4 rfl rfl ?_
  refine g_icmp_ne B 28 dJ0_getBytes_840e7_5 (by decide) (fun hc => ?_) (fun hc => ?_)
  · replace h := ifn hc h
    refine g_aload_n B 0 dJ0_getBytes_840e7_28 rfl rfl ?_
    replace h := bnP_s h
    obtain ⟨x3, h4, h⟩ := h
    refine g_getSV B fs_RJ0_9 sv_RJ0_9 dJ0_getBytes_840e7_29 h4 ?_
    refine g_iconst (v := 0) B dJ0_getBytes_840e7_32 (by decide) ?_
    refine g_aload_n B 1 dJ0_getBytes_840e7_33 rfl rfl ?_
    refine g_iload_n B 2 dJ0_getBytes_840e7_34 rfl rfl ?_
    refine g_aload_n B 0 dJ0_getBytes_840e7_35 rfl rfl ?_
    replace h := bnP_s h
    obtain ⟨x5, h6, h⟩ := h
    refine g_getSV B fs_RJ0_9 sv_RJ0_9 dJ0_getBytes_840e7_36 h6 ?_
    replace h := bnP_s h
    obtain ⟨x7, h8, h⟩ := h
    refine g_alen B (κ := 22) (by decide) dJ0_getBytes_840e7_39 h8 ?_
    cases h
  · replace h := ifp hc h
    refine g_aload_n B 0 dJ0_getBytes_840e7_8 rfl rfl ?_
    replace h := bnP_s h
    obtain ⟨x9, h10, h⟩ := h
    refine g_getSV B fs_RJ0_9 sv_RJ0_9 dJ0_getBytes_840e7_9 h10 ?_
    refine g_iconst (v := 0) B dJ0_getBytes_840e7_12 (by decide) ?_
    refine g_aload_n B 1 dJ0_getBytes_840e7_13 rfl rfl ?_
    refine g_iload_n B 2 dJ0_getBytes_840e7_14 rfl rfl ?_
    refine g_iload_n B 3 dJ0_getBytes_840e7_15 rfl rfl ?_
    refine g_ishl B dJ0_getBytes_840e7_16 ?_
    refine g_aload_n B 0 dJ0_getBytes_840e7_17 rfl rfl ?_
    replace h := bnP_s h
    obtain ⟨x11, h12, h⟩ := h
    refine g_getSV B fs_RJ0_9 sv_RJ0_9 dJ0_getBytes_840e7_18 h12 ?_
    replace h := bnP_s h
    obtain ⟨x13, h14, h⟩ := h
    refine g_alen B (κ := 22) (by decide) dJ0_getBytes_840e7_21 h14 ?_
    replace h := bnP_s h
    obtain ⟨s17, h16, h⟩ := h
    refine g_cpC B cp_RJ0_212 (by decide) (Nat.le_of_ble_eq_true rfl) dJ0_getBytes_840e7_22 h16 ?_
    refine g_goto B 43 dJ0_getBytes_840e7_25 (by decide) ?_
    replace h := Option.some.inj h
    subst h
    exact g_vret B hE (Nat.zero_le _) (Nat.zero_le _) dJ0_getBytes_840e7_43
set_option maxRecDepth 100000 in
set_option maxHeartbeats 4000000 in
theorem cJ5_putStringAt_47b60c {l : Launch} {v0 : Option Nat} {v1 : Int32} {v2 : Option Nat} {σ : HpT} {σ' : HpT} (h : fJ5_putStringAt_47b60 v0 v1 v2 σ = some σ') : IsK σ v0 11 ∧ Ct l yJ5_putStringAt_47b60 cJ5_putStringAt_47b60 3 none 2 83 [va_rf v0, .int v1, va_rf v2] σ (.ok none) σ' 0 0 := by
  unfold fJ5_putStringAt_47b60 at h
  replace h := bnP_s h
  obtain ⟨u, hk, h⟩ := h
  replace hk := isK_s hk
  refine ⟨hk, ?_⟩
  refine ct_start mi_J5_putStringAt_47b60.1 rfl (al_le (al_1 (rf_cat _) (al_1 rfl (al_1 (rf_cat _) al_n))) (Nat.le_of_ble_eq_true rfl)) (ag_1 (rf_cat _) (ag_1 rfl (ag_1 (rf_cat _) ag_n))) (fun Δ Γ B hE hnm => ?_)
  refine g_aload_n B 0 dJ5_putStringAt_47b60_0 rfl rfl ?_
  refine g_aload_n B 2 dJ5_putStringAt_47b60_1 rfl rfl ?_
  replace h := bnP_s h
  obtain ⟨x1, h2, h⟩ := h
  refine g_callVcv0 (st := []) B (cJ5_inflateIfNeededFor_a7421c h2) (Nat.le_of_ble_eq_true rfl) rfl mi_J5_inflateIfNeededFor_a7421 lk_RJ5_397 ⟨Nat.le_of_ble_eq_true rfl, Nat.le_of_ble_eq_true rfl⟩ rfl rfl (Nat.le_of_ble_eq_true rfl) dJ5_putStringAt_47b60_2 (Nat.zero_le _) (Nat.zero_le _) ?_
  refine g_aload_n B 2 dJ5_putStringAt_47b60_5 rfl rfl ?_
  refine g_aload_n B 0 dJ5_putStringAt_47b60_6 rfl rfl ?_
  replace h := bnP_s h
  obtain ⟨x3, h4, h⟩ := h
  refine g_getR B fl_RJ5_15 (by decide) dJ5_putStringAt_47b60_7 h4 ?_
  refine g_iload_n B 1 dJ5_putStringAt_47b60_10 rfl rfl ?_
  refine g_aload_n B 0 dJ5_putStringAt_47b60_11 rfl rfl ?_
  replace h := bnP_s h
  obtain ⟨x5, h6, h⟩ := h
  refine g_getI B fl_RJ5_22 (by decide) dJ5_putStringAt_47b60_12 h6 ?_
  replace h := bnP_s h
  obtain ⟨s9, h8, h⟩ := h
  refine g_callQv0 (st := []) B (cJ0_getBytes_840e7c h8) rfl mi_J0_getBytes_840e7 lk_RJ5_399 ⟨Nat.le_of_ble_eq_true rfl, Nat.le_of_ble_eq_true rfl⟩ rfl rfl (Nat.le_of_ble_eq_true rfl) dJ5_putStringAt_47b60_15 (Nat.zero_le _) (Nat.zero_le _) ?_
  replace h := Option.some.inj h
  subst h
  exact g_vret B hE (Nat.zero_le _) (Nat.zero_le _) dJ5_putStringAt_47b60_18
set_option maxRecDepth 100000 in
set_option maxHeartbeats 4000000 in
theorem cJ5_append_cf1cec {l : Launch} {v0 : Option Nat} {v1 : Option Nat} {σ : HpT} {o : Except Nat (Option Nat)} {σ' : HpT} {a b : Nat} (h : fJ5_append_cf1ce v0 v1 σ = some (o, σ', a, b)) : IsK σ v0 11 ∧ Ct l yJ5_append_cf1ce cJ5_append_cf1ce 3 (some (.object "java/lang/AbstractStringBuilder")) 4 105 [va_rf v0, va_rf v1] σ (oA o) σ' a b := by
  unfold fJ5_append_cf1ce at h
  replace h := bnP_s h
  obtain ⟨u, hk, h⟩ := h
  replace hk := isK_s hk
  refine ⟨hk, ?_⟩
  refine ct_start mi_J5_append_cf1ce.1 rfl (al_le (al_1 (rf_cat _) (al_1 (rf_cat _) al_n)) (Nat.le_of_ble_eq_true rfl)) (ag_1 (rf_cat _) (ag_1 (rf_cat _) ag_n)) (fun Δ Γ B hE hnm => ?_)
  have hka : 0 + a = a := Nat.zero_add a
  have hkb : 0 + b = b := Nat.zero_add b
  have hla : a ≤ a := Nat.le_refl a
  have hlb : b ≤ b := Nat.le_refl b
  refine g_aload_n B 1 dJ5_append_cf1ce_0 rfl rfl ?_
  refine g_ifnonnull B 9 dJ5_append_cf1ce_1 (by decide) (fun hc => ?_) (fun hc => ?_)
  · replace h := ifn hc h
    refine g_aload_n B 1 dJ5_append_cf1ce_9 rfl rfl ?_
    replace h := bnP_s h
    obtain ⟨x1, h2, h⟩ := h
    refine g_callQs0 (st := []) B (cJ0_length_8abf5c h2) rfl mi_J0_length_8abf5 lk_RJ5_32 ⟨Nat.le_of_ble_eq_true rfl, Nat.le_of_ble_eq_true rfl⟩ rfl rfl (Nat.le_of_ble_eq_true rfl) dJ5_append_cf1ce_10 (Nat.le_trans (bm hka) hla) (Nat.le_trans (bm hkb) hlb) ?_
    refine g_istore_n B dJ5_append_cf1ce_13 rfl (Nat.le_of_ble_eq_true rfl) (s1_c (f1_k rfl (f1_1 rfl (rf_cat _) f1_n))) ?_
    refine g_aload_n B 1 dJ5_append_cf1ce_14 rfl rfl ?_
    refine g_aload_n B 1 dJ5_append_cf1ce_15 rfl rfl ?_
    replace h := bnP_s h
    obtain ⟨x3, h4, h⟩ := h
    refine g_getI B fl_RJ5_79 (by decide) dJ5_append_cf1ce_16 h4 ?_
    refine g_iload_n B 0 dJ5_append_cf1ce_19 rfl rfl ?_
    refine g_iadd B dJ5_append_cf1ce_20 ?_
    replace h := bnA_s h
    rcases h with ⟨e9, h6, e8⟩ | ⟨x5, s7, a8, b9, a10, b11, h6, h, ea, eb⟩
    · subst e8
      exact g_callVcx (st := []) B (cJ5_ensureCapacityInternal_d00dfc (o := .error e9) h6) (Nat.le_of_ble_eq_true rfl) rfl mi_J5_ensureCapacityInternal_d00df lk_RJ5_100 ⟨Nat.le_of_ble_eq_true rfl, Nat.le_of_ble_eq_true rfl⟩ rfl rfl (Nat.le_of_ble_eq_true rfl) dJ5_append_cf1ce_21 (Nat.le_trans (Nat.le_of_eq hka) hla) (Nat.le_trans (Nat.le_of_eq hkb) hlb) hE
    · subst ea; subst eb
      have hka := bk hka
      have hkb := bk hkb
      refine g_callVcvA (st := []) B (cJ5_ensureCapacityInternal_d00dfc (o := .ok x5) h6) (Nat.le_of_ble_eq_true rfl) rfl mi_J5_ensureCapacityInternal_d00df lk_RJ5_100 ⟨Nat.le_of_ble_eq_true rfl, Nat.le_of_ble_eq_true rfl⟩ rfl rfl (Nat.le_of_ble_eq_true rfl) dJ5_append_cf1ce_21 (Nat.le_trans (bm hka) hla) (Nat.le_trans (bm hkb) hlb) ?_
      refine g_aload_n B 1 dJ5_append_cf1ce_24 rfl rfl ?_
      refine g_aload_n B 1 dJ5_append_cf1ce_25 rfl rfl ?_
      replace h := bnP_s h
      obtain ⟨x12, h13, h⟩ := h
      refine g_getI B fl_RJ5_79 (by decide) dJ5_append_cf1ce_26 h13 ?_
      refine g_aload_n B 2 dJ5_append_cf1ce_29 rfl rfl ?_
      replace h := bnP_s h
      obtain ⟨s16, h15, h⟩ := h
      refine g_callVcv0 (st := []) B (cJ5_putStringAt_47b60c h15) (Nat.le_of_ble_eq_true rfl) rfl mi_J5_putStringAt_47b60 lk_RJ5_208 ⟨Nat.le_of_ble_eq_true rfl, Nat.le_of_ble_eq_true rfl⟩ rfl rfl (Nat.le_of_ble_eq_true rfl) dJ5_append_cf1ce_30 (Nat.le_trans (bm hka) hla) (Nat.le_trans (bm hkb) hlb) ?_
      refine g_aload_n B 1 dJ5_append_cf1ce_33 rfl rfl ?_
      refine g_dup B dJ5_append_cf1ce_34 (rf_cat _) ?_
      replace h := bnP_s h
      obtain ⟨x17, h18, h⟩ := h
      refine g_getI B fl_RJ5_79 (by decide) dJ5_append_cf1ce_35 h18 ?_
      refine g_iload_n B 0 dJ5_append_cf1ce_38 rfl rfl ?_
      refine g_iadd B dJ5_append_cf1ce_39 ?_
      replace h := bnP_s h
      obtain ⟨s21, h20, h⟩ := h
      refine g_putI B fl_RJ5_79 (by decide) dJ5_append_cf1ce_40 h20 ?_
      refine g_aload_n B 1 dJ5_append_cf1ce_43 rfl rfl ?_
      obtain ⟨w1, w2, w3, w4⟩ := inA h
      clear h
      subst w1
      subst w2
      subst w3
      subst w4
      exact g_aret B hE (Or.inl ⟨_, rfl⟩) (Nat.le_trans (Nat.le_of_eq hka) hla) (Nat.le_trans (Nat.le_of_eq hkb) hlb) dJ5_append_cf1ce_44
  · replace h := ifp hc h
    refine g_aload_n B 0 dJ5_append_cf1ce_4 rfl rfl ?_
    cases h
set_option maxRecDepth 100000 in
set_option maxHeartbeats 4000000 in
theorem cJ4_append_15ec4c {l : Launch} {v0 : Option Nat} {v1 : Option Nat} {σ : HpT} {o : Except Nat (Option Nat)} {σ' : HpT} {a b : Nat} (h : fJ4_append_15ec4 v0 v1 σ = some (o, σ', a, b)) : IsK σ v0 11 ∧ Ct l yJ4_append_15ec4 cJ4_append_15ec4 2 (some (.object "java/lang/StringBuilder")) 5 127 [va_rf v0, va_rf v1] σ (oA o) σ' a b := by
  unfold fJ4_append_15ec4 at h
  replace h := bnP_s h
  obtain ⟨u, hk, h⟩ := h
  replace hk := isK_s hk
  refine ⟨hk, ?_⟩
  refine ct_start mi_J4_append_15ec4.1 rfl (al_le (al_1 (rf_cat _) (al_1 (rf_cat _) al_n)) (Nat.le_of_ble_eq_true rfl)) (ag_1 (rf_cat _) (ag_1 (rf_cat _) ag_n)) (fun Δ Γ B hE hnm => ?_)
  have hka : 0 + a = a := Nat.zero_add a
  have hkb : 0 + b = b := Nat.zero_add b
  have hla : a ≤ a := Nat.le_refl a
  have hlb : b ≤ b := Nat.le_refl b
  refine g_aload_n B 0 dJ4_append_15ec4_0 rfl rfl ?_
  refine g_aload_n B 1 dJ4_append_15ec4_1 rfl rfl ?_
  replace h := bnA_s h
  rcases h with ⟨e9, h2, e8⟩ | ⟨x1, s3, a4, b5, a6, b7, h2, h, ea, eb⟩
  · subst e8
    exact g_callSUx (st := []) B (cJ5_append_cf1cec (o := .error e9) h2) (Nat.le_of_ble_eq_true rfl) rfl mi_J5_append_cf1ce lk_RJ4_29 ⟨Nat.le_of_ble_eq_true rfl, Nat.le_of_ble_eq_true rfl⟩ rfl rfl (Nat.le_of_ble_eq_true rfl) dJ4_append_15ec4_2 (Nat.le_trans (Nat.le_of_eq hka) hla) (Nat.le_trans (Nat.le_of_eq hkb) hlb) hE
  · subst ea; subst eb
    have hka := bk hka
    have hkb := bk hkb
    refine g_callSUsA (st := []) B (cJ5_append_cf1cec (o := .ok x1) h2) (Nat.le_of_ble_eq_true rfl) rfl mi_J5_append_cf1ce lk_RJ4_29 ⟨Nat.le_of_ble_eq_true rfl, Nat.le_of_ble_eq_true rfl⟩ rfl rfl (Nat.le_of_ble_eq_true rfl) dJ4_append_15ec4_2 (Nat.le_trans (bm hka) hla) (Nat.le_trans (bm hkb) hlb) ?_
    refine g_pop B dJ4_append_15ec4_5 (rf_cat _) ?_
    refine g_aload_n B 0 dJ4_append_15ec4_6 rfl rfl ?_
    obtain ⟨w1, w2, w3, w4⟩ := inA h
    clear h
    subst w1
    subst w2
    subst w3
    subst w4
    exact g_aret B hE (Or.inl ⟨_, rfl⟩) (Nat.le_trans (Nat.le_of_eq hka) hla) (Nat.le_trans (Nat.le_of_eq hkb) hlb) dJ4_append_15ec4_7
set_option maxRecDepth 100000 in
set_option maxHeartbeats 4000000 in
theorem cJ5_getValue_6d5f1c {l : Launch} {v0 : Option Nat} {σ : HpT} {r : Option Nat} (h : fJ5_getValue_6d5f1 v0 σ = some r) : IsK σ v0 11 ∧ Ct l yJ5_getValue_6d5f1 cJ5_getValue_6d5f1 1 (some (.array .byte)) 0 0 [va_rf v0] σ (.ok (some (va_rf r))) σ 0 0 := by
  unfold fJ5_getValue_6d5f1 at h
  replace h := bnP_s h
  obtain ⟨u, hk, h⟩ := h
  replace hk := isK_s hk
  refine ⟨hk, ?_⟩
  refine ct_start mi_J5_getValue_6d5f1.1 rfl (al_le (al_1 (rf_cat _) al_n) (Nat.le_of_ble_eq_true rfl)) (ag_1 (rf_cat _) ag_n) (fun Δ Γ B hE hnm => ?_)
  refine g_aload_n B 0 dJ5_getValue_6d5f1_0 rfl rfl ?_
  replace h := bnP_s h
  obtain ⟨x1, h2, h⟩ := h
  refine g_getR B fl_RJ5_15 (by decide) dJ5_getValue_6d5f1_1 h2 ?_
  replace h := Option.some.inj h
  subst h
  exact g_aret B hE (Or.inr ⟨_, rfl⟩) (Nat.zero_le _) (Nat.zero_le _) dJ5_getValue_6d5f1_4
set_option maxRecDepth 100000 in
set_option maxHeartbeats 4000000 in
theorem cJ5_length_8abf5c {l : Launch} {v0 : Option Nat} {σ : HpT} {r : Int32} (h : fJ5_length_8abf5 v0 σ = some r) : IsK σ v0 11 ∧ Ct l yJ5_length_8abf5 cJ5_length_8abf5 1 (some .int) 0 0 [va_rf v0] σ (.ok (some (.int r))) σ 0 0 := by
  unfold fJ5_length_8abf5 at h
  replace h := bnP_s h
  obtain ⟨u, hk, h⟩ := h
  replace hk := isK_s hk
  refine ⟨hk, ?_⟩
  refine ct_start mi_J5_length_8abf5.1 rfl (al_le (al_1 (rf_cat _) al_n) (Nat.le_of_ble_eq_true rfl)) (ag_1 (rf_cat _) ag_n) (fun Δ Γ B hE hnm => ?_)
  refine g_aload_n B 0 dJ5_length_8abf5_0 rfl rfl ?_
  replace h := bnP_s h
  obtain ⟨x1, h2, h⟩ := h
  refine g_getI B fl_RJ5_79 (by decide) dJ5_length_8abf5_1 h2 ?_
  replace h := Option.some.inj h
  subst h
  exact g_iret B hE (Nat.zero_le _) (Nat.zero_le _) dJ5_length_8abf5_4
set_option maxRecDepth 100000 in
set_option maxHeartbeats 4000000 in
theorem cJ4_length_8abf5c {l : Launch} {v0 : Option Nat} {σ : HpT} {r : Int32} (h : fJ4_length_8abf5 v0 σ = some r) : IsK σ v0 11 ∧ Ct l yJ4_length_8abf5 cJ4_length_8abf5 1 (some .int) 1 20 [va_rf v0] σ (.ok (some (.int r))) σ 0 0 := by
  unfold fJ4_length_8abf5 at h
  replace h := bnP_s h
  obtain ⟨u, hk, h⟩ := h
  replace hk := isK_s hk
  refine ⟨hk, ?_⟩
  refine ct_start mi_J4_length_8abf5.1 rfl (al_le (al_1 (rf_cat _) al_n) (Nat.le_of_ble_eq_true rfl)) (ag_1 (rf_cat _) ag_n) (fun Δ Γ B hE hnm => ?_)
  refine g_aload_n B 0 dJ4_length_8abf5_0 rfl rfl ?_
  replace h := bnP_s h
  obtain ⟨x1, h2, h⟩ := h
  refine g_callSUs0 (st := []) B (cJ5_length_8abf5c h2) (Nat.le_of_ble_eq_true rfl) rfl mi_J5_length_8abf5 lk_RJ4_343 ⟨Nat.le_of_ble_eq_true rfl, Nat.le_of_ble_eq_true rfl⟩ rfl rfl (Nat.le_of_ble_eq_true rfl) dJ4_length_8abf5_1 (Nat.zero_le _) (Nat.zero_le _) ?_
  replace h := Option.some.inj h
  subst h
  exact g_iret B hE (Nat.zero_le _) (Nat.zero_le _) dJ4_length_8abf5_4
set_option maxRecDepth 100000 in
set_option maxHeartbeats 4000000 in
theorem cJ0_init_db425c {l : Launch} {v0 : Option Nat} {v1 : Option Nat} {v2 : Option Nat} {σ : HpT} {o : Except Nat (Unit)} {σ' : HpT} {a b : Nat} (h : fJ0_init_db425 v0 v1 v2 σ = some (o, σ', a, b)) : IsK σ v0 15 ∧ Ct l yJ0_init_db425 cJ0_init_db425 5 none 3 106 [va_rf v0, va_rf v1, va_rf v2] σ (oU o) σ' a b := by
  unfold fJ0_init_db425 at h
  replace h := bnP_s h
  obtain ⟨u, hk, h⟩ := h
  replace hk := isK_s hk
  refine ⟨hk, ?_⟩
  refine ct_start mi_J0_init_db425.1 rfl (al_le (al_1 (rf_cat _) (al_1 (rf_cat _) (al_1 (rf_cat _) al_n))) (Nat.le_of_ble_eq_true rfl)) (ag_1 (rf_cat _) (ag_1 (rf_cat _) (ag_1 (rf_cat _) ag_n))) (fun Δ Γ B hE hnm => ?_)
  have hka : 0 + a = a := Nat.zero_add a
  have hkb : 0 + b = b := Nat.zero_add b
  have hla : a ≤ a := Nat.le_refl a
  have hlb : b ≤ b := Nat.le_refl b
  refine g_aload_n B 0 dJ0_init_db425_0 rfl rfl ?_
  refine g_objInit9 B hk obj_RJ0_1 (by decide) (Nat.le_of_ble_eq_true rfl) dJ0_init_db425_1 ?_
  refine g_aload_n B 1 dJ0_init_db425_4 rfl rfl ?_
  replace h := bnP_s h
  obtain ⟨x1, h2, h⟩ := h
  refine g_callVcs0 (st := []) B (cJ5_getValue_6d5f1c h2) (Nat.le_of_ble_eq_true rfl) rfl mi_J5_getValue_6d5f1 lk_RJ0_552 ⟨Nat.le_of_ble_eq_true rfl, Nat.le_of_ble_eq_true rfl⟩ rfl rfl (Nat.le_of_ble_eq_true rfl) dJ0_init_db425_5 (Nat.le_trans (bm hka) hla) (Nat.le_trans (bm hkb) hlb) ?_
  refine g_astore_n B dJ0_init_db425_8 rfl (Nat.le_of_ble_eq_true rfl) (s1_c (f1_k rfl (f1_k rfl (f1_1 rfl (rf_cat _) f1_n)))) ?_
  refine g_aload_n B 2 dJ0_init_db425_9 rfl rfl ?_
  replace h := bnP_s h
  obtain ⟨x3, h4, h⟩ := h
  refine g_callOs0 (st := []) B (cJ4_length_8abf5c h4) (Nat.le_of_ble_eq_true rfl) rfl mi_J4_length_8abf5 lk_RJ0_549 ⟨Nat.le_of_ble_eq_true rfl, Nat.le_of_ble_eq_true rfl⟩ rfl rfl (Nat.le_of_ble_eq_true rfl) dJ0_init_db425_10 (Nat.le_trans (bm hka) hla) (Nat.le_trans (bm hkb) hlb) ?_
  refine g_istore B dJ0_init_db425_13 (Nat.le_of_ble_eq_true rfl) (s1_c (f1_1 rfl (rf_cat _) (f1_k rfl (f1_k rfl (f1_k rfl f1_n))))) ?_
  refine g_aload_n B 3 dJ0_init_db425_15 rfl rfl ?_
  replace h := bnP_s h
  obtain ⟨x5, h6, h⟩ := h
  refine g_callVcs0 (st := []) B (cJ5_isLatin1_aae02c h6) (Nat.le_of_ble_eq_true rfl) rfl mi_J5_isLatin1_aae02 lk_RJ0_1047 ⟨Nat.le_of_ble_eq_true rfl, Nat.le_of_ble_eq_true rfl⟩ rfl rfl (Nat.le_of_ble_eq_true rfl) dJ0_init_db425_16 (Nat.le_trans (bm hka) hla) (Nat.le_trans (bm hkb) hlb) ?_
  refine g_if_eq B 41 dJ0_init_db425_19 (by decide) (fun hc => ?_) (fun hc => ?_)
  · replace h := ifn (bI0 hc) h
    refine g_gstC B sv_RJ0_38 dJ0_init_db425_41 ?_
    refine g_if_eq B 79 dJ0_init_db425_44 (by decide) (fun hc => ?_) (fun hc => ?_)
    · exact absurd hc (by decide)
    · skip
      refine g_aload_n B 3 dJ0_init_db425_47 rfl rfl ?_
      replace h := bnP_s h
      obtain ⟨x7, h8, h⟩ := h
      refine g_getI B fl_RJ0_1048 (by decide) dJ0_init_db425_48 h8 ?_
      refine g_if_eq B 79 dJ0_init_db425_51 (by decide) (fun hc => ?_) (fun hc => ?_)
      · replace h := ifp hc h
        refine g_aload_n B 2 dJ0_init_db425_79 rfl rfl ?_
        refine g_iconst (v := 1) B dJ0_init_db425_80 (by decide) ?_
        replace h := bnP_s h
        obtain ⟨s11, h10, h⟩ := h
        refine g_putBF B fl_RJ0_15 (by decide) hnm dJ0_init_db425_81 h10 ?_
        refine g_aload_n B 2 dJ0_init_db425_84 rfl rfl ?_
        refine g_aload_n B 1 dJ0_init_db425_85 rfl rfl ?_
        refine g_iconst (v := 0) B dJ0_init_db425_86 (by decide) ?_
        refine g_iload B 0 dJ0_init_db425_87 rfl ?_
        refine g_iconst (v := 1) B dJ0_init_db425_89 (by decide) ?_
        refine g_ishl B dJ0_init_db425_90 ?_
        replace h := bnA_s h
        rcases h with ⟨e9, h13, e8⟩ | ⟨x12, s14, a15, b16, a17, b18, h13, h, ea, eb⟩
        · subst e8
          exact g_callSx (st := [va_rf v0]) B (cJ7_copyOfRange_39247c (o := .error e9) h13) mi_J7_copyOfRange_39247 lk_RJ0_54 ⟨Nat.le_of_ble_eq_true rfl, Nat.le_of_ble_eq_true rfl⟩ rfl rfl (Nat.le_of_ble_eq_true rfl) dJ0_init_db425_91 (Nat.le_trans (Nat.le_of_eq hka) hla) (Nat.le_trans (Nat.le_of_eq hkb) hlb) hE
        · subst ea; subst eb
          have hka := bk hka
          have hkb := bk hkb
          refine g_callSsA (st := [va_rf v0]) B (cJ7_copyOfRange_39247c (o := .ok x12) h13) mi_J7_copyOfRange_39247 lk_RJ0_54 ⟨Nat.le_of_ble_eq_true rfl, Nat.le_of_ble_eq_true rfl⟩ rfl rfl (Nat.le_of_ble_eq_true rfl) dJ0_init_db425_91 (Nat.le_trans (bm hka) hla) (Nat.le_trans (bm hkb) hlb) ?_
          replace h := bnP_s h
          obtain ⟨s21, h20, h⟩ := h
          refine g_putRF B fl_RJ0_9 (by decide) (Or.inr ⟨_, rfl⟩) hnm dJ0_init_db425_94 h20 ?_
          obtain ⟨w1, w2, w3, w4⟩ := inA h
          clear h
          subst w1
          subst w2
          subst w3
          subst w4
          exact g_vret B hE (Nat.le_trans (Nat.le_of_eq hka) hla) (Nat.le_trans (Nat.le_of_eq hkb) hlb) dJ0_init_db425_97
      · replace h := ifn hc h
        refine g_aload_n B 2 dJ0_init_db425_54 rfl rfl ?_
        refine g_aload_n B 1 dJ0_init_db425_55 rfl rfl ?_
        refine g_iconst (v := 0) B dJ0_init_db425_56 (by decide) ?_
        refine g_iload B 0 dJ0_init_db425_57 rfl ?_
        cases h
  · replace h := ifp (bI1 hc) h
    refine g_aload_n B 2 dJ0_init_db425_22 rfl rfl ?_
    refine g_iconst (v := 0) B dJ0_init_db425_23 (by decide) ?_
    replace h := bnP_s h
    obtain ⟨s24, h23, h⟩ := h
    refine g_putBF B fl_RJ0_15 (by decide) hnm dJ0_init_db425_24 h23 ?_
    refine g_aload_n B 2 dJ0_init_db425_27 rfl rfl ?_
    refine g_aload_n B 1 dJ0_init_db425_28 rfl rfl ?_
    refine g_iconst (v := 0) B dJ0_init_db425_29 (by decide) ?_
    refine g_iload B 0 dJ0_init_db425_30 rfl ?_
    replace h := bnA_s h
    rcases h with ⟨e9, h26, e8⟩ | ⟨x25, s27, a28, b29, a30, b31, h26, h, ea, eb⟩
    · subst e8
      exact g_callSx (st := [va_rf v0]) B (cJ7_copyOfRange_39247c (o := .error e9) h26) mi_J7_copyOfRange_39247 lk_RJ0_54 ⟨Nat.le_of_ble_eq_true rfl, Nat.le_of_ble_eq_true rfl⟩ rfl rfl (Nat.le_of_ble_eq_true rfl) dJ0_init_db425_32 (Nat.le_trans (Nat.le_of_eq hka) hla) (Nat.le_trans (Nat.le_of_eq hkb) hlb) hE
    · subst ea; subst eb
      have hka := bk hka
      have hkb := bk hkb
      refine g_callSsA (st := [va_rf v0]) B (cJ7_copyOfRange_39247c (o := .ok x25) h26) mi_J7_copyOfRange_39247 lk_RJ0_54 ⟨Nat.le_of_ble_eq_true rfl, Nat.le_of_ble_eq_true rfl⟩ rfl rfl (Nat.le_of_ble_eq_true rfl) dJ0_init_db425_32 (Nat.le_trans (bm hka) hla) (Nat.le_trans (bm hkb) hlb) ?_
      replace h := bnP_s h
      obtain ⟨s34, h33, h⟩ := h
      refine g_putRF B fl_RJ0_9 (by decide) (Or.inr ⟨_, rfl⟩) hnm dJ0_init_db425_35 h33 ?_
      refine g_goto B 97 dJ0_init_db425_38 (by decide) ?_
      obtain ⟨w1, w2, w3, w4⟩ := inA h
      clear h
      subst w1
      subst w2
      subst w3
      subst w4
      exact g_vret B hE (Nat.le_trans (Nat.le_of_eq hka) hla) (Nat.le_trans (Nat.le_of_eq hkb) hlb) dJ0_init_db425_97
set_option maxRecDepth 100000 in
set_option maxHeartbeats 4000000 in
theorem cJ0_init_81219c {l : Launch} {v0 : Option Nat} {v1 : Option Nat} {σ : HpT} {o : Except Nat (Unit)} {σ' : HpT} {a b : Nat} (h : fJ0_init_81219 v0 v1 σ = some (o, σ', a, b)) : IsK σ v0 15 ∧ Ct l yJ0_init_81219 cJ0_init_81219 2 none 4 130 [va_rf v0, va_rf v1] σ (oU o) σ' a b := by
  unfold fJ0_init_81219 at h
  replace h := bnP_s h
  obtain ⟨u, hk, h⟩ := h
  replace hk := isK_s hk
  refine ⟨hk, ?_⟩
  refine ct_start mi_J0_init_81219.1 rfl (al_le (al_1 (rf_cat _) (al_1 (rf_cat _) al_n)) (Nat.le_of_ble_eq_true rfl)) (ag_1 (rf_cat _) (ag_1 (rf_cat _) ag_n)) (fun Δ Γ B hE hnm => ?_)
  have hka : 0 + a = a := Nat.zero_add a
  have hkb : 0 + b = b := Nat.zero_add b
  have hla : a ≤ a := Nat.le_refl a
  have hlb : b ≤ b := Nat.le_refl b
  refine g_aload_n B 0 dJ0_init_81219_0 rfl rfl ?_
  refine g_aload_n B 1 dJ0_init_81219_1 rfl rfl ?_
  refine g_null B dJ0_init_81219_2 ?_
  replace h := bnA_s h
  rcases h with ⟨e9, h2, e8⟩ | ⟨x1, s3, a4, b5, a6, b7, h2, h, ea, eb⟩
  · subst e8
    exact g_callIx (st := []) B (cJ0_init_db425c (o := .error e9) h2) mi_J0_init_db425 lk_RJ0_489 ⟨Nat.le_of_ble_eq_true rfl, Nat.le_of_ble_eq_true rfl⟩ rfl rfl (Nat.le_of_ble_eq_true rfl) dJ0_init_81219_3 (Nat.le_trans (Nat.le_of_eq hka) hla) (Nat.le_trans (Nat.le_of_eq hkb) hlb) hE
  · subst ea; subst eb
    have hka := bk hka
    have hkb := bk hkb
    refine g_callIvA (st := []) B (cJ0_init_db425c (o := .ok x1) h2) mi_J0_init_db425 lk_RJ0_489 ⟨Nat.le_of_ble_eq_true rfl, Nat.le_of_ble_eq_true rfl⟩ rfl rfl (Nat.le_of_ble_eq_true rfl) dJ0_init_81219_3 (Nat.le_trans (bm hka) hla) (Nat.le_trans (bm hkb) hlb) ?_
    obtain ⟨w1, w2, w3, w4⟩ := inA h
    clear h
    subst w1
    subst w2
    subst w3
    subst w4
    exact g_vret B hE (Nat.le_trans (Nat.le_of_eq hka) hla) (Nat.le_trans (Nat.le_of_eq hkb) hlb) dJ0_init_81219_6
set_option maxRecDepth 100000 in
set_option maxHeartbeats 4000000 in
theorem cJ4_toString_0e30dc {l : Launch} {v0 : Option Nat} {σ : HpT} {o : Except Nat (Option Nat)} {σ' : HpT} {a b : Nat} (h : fJ4_toString_0e30d v0 σ = some (o, σ', a, b)) : IsK σ v0 11 ∧ Ct l yJ4_toString_0e30d cJ4_toString_0e30d 1 (some (.object "java/lang/String")) 5 151 [va_rf v0] σ (oA o) σ' a b := by
  unfold fJ4_toString_0e30d at h
  replace h := bnP_s h
  obtain ⟨u, hk, h⟩ := h
  replace hk := isK_s hk
  refine ⟨hk, ?_⟩
  refine ct_start mi_J4_toString_0e30d.1 rfl (al_le (al_1 (rf_cat _) al_n) (Nat.le_of_ble_eq_true rfl)) (ag_1 (rf_cat _) ag_n) (fun Δ Γ B hE hnm => ?_)
  have hka : 0 + a = a := Nat.zero_add a
  have hkb : 0 + b = b := Nat.zero_add b
  have hla : a ≤ a := Nat.le_refl a
  have hlb : b ≤ b := Nat.le_refl b
  replace h := bnA_s h
  rcases h with ⟨e9, h2, e8⟩ | ⟨x1, s3, a4, b5, a6, b7, h2, h, ea, eb⟩
  · exact absurd h2 (by simp [nwA, nwR]; try (split <;> simp))
  · subst ea; subst eb
    have hka := bk hka
    have hkb := bk hkb
    refine g_new B nw_RJ4_18 dJ4_toString_0e30d_0 h2 (Nat.le_trans (bm hka) hla) (Nat.le_trans (bm hkb) hlb) ?_
    refine g_dup B dJ4_toString_0e30d_3 (rf_cat _) ?_
    refine g_aload_n B 0 dJ4_toString_0e30d_4 rfl rfl ?_
    replace h := bnA_s h
    rcases h with ⟨e9, h9, e8⟩ | ⟨x8, s10, a11, b12, a13, b14, h9, h, ea, eb⟩
    · subst e8
      exact g_callIx (st := [va_rf x1]) B (cJ0_init_81219c (o := .error e9) h9) mi_J0_init_81219 lk_RJ4_137 ⟨Nat.le_of_ble_eq_true rfl, Nat.le_of_ble_eq_true rfl⟩ rfl rfl (Nat.le_of_ble_eq_true rfl) dJ4_toString_0e30d_5 (Nat.le_trans (Nat.le_of_eq hka) hla) (Nat.le_trans (Nat.le_of_eq hkb) hlb) hE
    · subst ea; subst eb
      have hka := bk hka
      have hkb := bk hkb
      refine g_callIvA (st := [va_rf x1]) B (cJ0_init_81219c (o := .ok x8) h9) mi_J0_init_81219 lk_RJ4_137 ⟨Nat.le_of_ble_eq_true rfl, Nat.le_of_ble_eq_true rfl⟩ rfl rfl (Nat.le_of_ble_eq_true rfl) dJ4_toString_0e30d_5 (Nat.le_trans (bm hka) hla) (Nat.le_trans (bm hkb) hlb) ?_
      obtain ⟨w1, w2, w3, w4⟩ := inA h
      clear h
      subst w1
      subst w2
      subst w3
      subst w4
      exact g_aret B hE (Or.inl ⟨_, rfl⟩) (Nat.le_trans (Nat.le_of_eq hka) hla) (Nat.le_trans (Nat.le_of_eq hkb) hlb) dJ4_toString_0e30d_8
set_option maxRecDepth 100000 in
set_option maxHeartbeats 4000000 in
theorem cJ4_append_cf1cec {l : Launch} {v0 : Option Nat} {v1 : Option Nat} {σ : HpT} {o : Except Nat (Option Nat)} {σ' : HpT} {a b : Nat} (h : fJ4_append_cf1ce v0 v1 σ = some (o, σ', a, b)) : IsK σ v0 11 ∧ Ct l yJ4_append_cf1ce cJ4_append_cf1ce 2 (some (.object "java/lang/AbstractStringBuilder")) 6 148 [va_rf v0, va_rf v1] σ (oA o) σ' a b := by
  unfold fJ4_append_cf1ce at h
  replace h := bnP_s h
  obtain ⟨u, hk, h⟩ := h
  replace hk := isK_s hk
  refine ⟨hk, ?_⟩
  refine ct_start mi_J4_append_cf1ce.1 rfl (al_le (al_1 (rf_cat _) (al_1 (rf_cat _) al_n)) (Nat.le_of_ble_eq_true rfl)) (ag_1 (rf_cat _) (ag_1 (rf_cat _) ag_n)) (fun Δ Γ B hE hnm => ?_)
  have hka : 0 + a = a := Nat.zero_add a
  have hkb : 0 + b = b := Nat.zero_add b
  have hla : a ≤ a := Nat.le_refl a
  have hlb : b ≤ b := Nat.le_refl b
  refine g_aload_n B 0 dJ4_append_cf1ce_0 rfl rfl ?_
  refine g_aload_n B 1 dJ4_append_cf1ce_1 rfl rfl ?_
  replace h := bnA_s h
  rcases h with ⟨e9, h2, e8⟩ | ⟨x1, s3, a4, b5, a6, b7, h2, h, ea, eb⟩
  · subst e8
    exact g_callVx (st := []) B (cJ4_append_15ec4c (o := .error e9) h2) (Nat.le_of_ble_eq_true rfl) rfl rfl mi_J4_append_15ec4 lk_RJ4_23 ⟨Nat.le_of_ble_eq_true rfl, Nat.le_of_ble_eq_true rfl⟩ rfl rfl (Nat.le_of_ble_eq_true rfl) dJ4_append_cf1ce_2 (Nat.le_trans (Nat.le_of_eq hka) hla) (Nat.le_trans (Nat.le_of_eq hkb) hlb) hE
  · subst ea; subst eb
    have hka := bk hka
    have hkb := bk hkb
    refine g_callVsA (st := []) B (cJ4_append_15ec4c (o := .ok x1) h2) (Nat.le_of_ble_eq_true rfl) rfl rfl mi_J4_append_15ec4 lk_RJ4_23 ⟨Nat.le_of_ble_eq_true rfl, Nat.le_of_ble_eq_true rfl⟩ rfl rfl (Nat.le_of_ble_eq_true rfl) dJ4_append_cf1ce_2 (Nat.le_trans (bm hka) hla) (Nat.le_trans (bm hkb) hlb) ?_
    obtain ⟨w1, w2, w3, w4⟩ := inA h
    clear h
    subst w1
    subst w2
    subst w3
    subst w4
    exact g_aret B hE (Or.inl ⟨_, rfl⟩) (Nat.le_trans (Nat.le_of_eq hka) hla) (Nat.le_trans (Nat.le_of_eq hkb) hlb) dJ4_append_cf1ce_5
set_option maxRecDepth 100000 in
set_option maxHeartbeats 4000000 in
theorem cJ5_init_a7421c {l : Launch} {v0 : Option Nat} {v1 : Option Nat} {σ : HpT} {o : Except Nat (Unit)} {σ' : HpT} {a b : Nat} (h : fJ5_init_a7421 v0 v1 σ = some (o, σ', a, b)) : IsK σ v0 11 ∧ Ct l yJ5_init_a7421 cJ5_init_a7421 5 none 7 169 [va_rf v0, va_rf v1] σ (oU o) σ' a b := by
  unfold fJ5_init_a7421 at h
  replace h := bnP_s h
  obtain ⟨u, hk, h⟩ := h
  replace hk := isK_s hk
  refine ⟨hk, ?_⟩
  refine ct_start mi_J5_init_a7421.1 rfl (al_le (al_1 (rf_cat _) (al_1 (rf_cat _) al_n)) (Nat.le_of_ble_eq_true rfl)) (ag_1 (rf_cat _) (ag_1 (rf_cat _) ag_n)) (fun Δ Γ B hE hnm => ?_)
  have hka : 0 + a = a := Nat.zero_add a
  have hkb : 0 + b = b := Nat.zero_add b
  have hla : a ≤ a := Nat.le_refl a
  have hlb : b ≤ b := Nat.le_refl b
  refine g_aload_n B 0 dJ5_init_a7421_0 rfl rfl ?_
  refine g_objInit9 B hk obj_RJ5_3 (by decide) (Nat.le_of_ble_eq_true rfl) dJ5_init_a7421_1 ?_
  refine g_aload_n B 1 dJ5_init_a7421_4 rfl rfl ?_
  replace h := bnP_s h
  obtain ⟨x1, h2, h⟩ := h
  refine g_callQs0 (st := []) B (cJ0_length_8abf5c h2) rfl mi_J0_length_8abf5 lk_RJ5_32 ⟨Nat.le_of_ble_eq_true rfl, Nat.le_of_ble_eq_true rfl⟩ rfl rfl (Nat.le_of_ble_eq_true rfl) dJ5_init_a7421_5 (Nat.le_trans (bm hka) hla) (Nat.le_trans (bm hkb) hlb) ?_
  refine g_istore_n B dJ5_init_a7421_8 rfl (Nat.le_of_ble_eq_true rfl) (s1_c (f1_k rfl (f1_1 rfl (rf_cat _) f1_n))) ?_
  refine g_iload_n B 0 dJ5_init_a7421_9 rfl rfl ?_
  refine g_ldc B cs_RJ5_38 dJ5_init_a7421_10 ?_
  replace h := bnP_s h
  obtain ⟨j3, h4, h⟩ := h
  have k6 : GW Δ Γ (0) (0) 24 [(0, va_rf v0), (1, va_rf v1)] [.int j3] σ := by
    refine g_istore_n B dJ5_init_a7421_24 rfl (Nat.le_of_ble_eq_true rfl) (s1_c (f1_k rfl (f1_k rfl f1_n))) ?_
    refine g_aload_n B 2 dJ5_init_a7421_25 rfl rfl ?_
    replace h := bnP_s h
    obtain ⟨x8, h9, h⟩ := h
    refine g_callQs0 (st := []) B (cJ0_coder_7d493c h9) rfl mi_J0_coder_7d493 lk_RJ5_40 ⟨Nat.le_of_ble_eq_true rfl, Nat.le_of_ble_eq_true rfl⟩ rfl rfl (Nat.le_of_ble_eq_true rfl) dJ5_init_a7421_26 (Nat.le_trans (bm hka) hla) (Nat.le_trans (bm hkb) hlb) ?_
    refine g_istore B dJ5_init_a7421_29 (Nat.le_of_ble_eq_true rfl) (s1_c (f1_1 rfl rfl (f1_k rfl (f1_k rfl f1_n)))) ?_
    refine g_aload_n B 2 dJ5_init_a7421_31 rfl rfl ?_
    refine g_iload B 0 dJ5_init_a7421_32 rfl ?_
    replace h := bnP_s h
    obtain ⟨s12, h11, h⟩ := h
    refine g_putB B fl_RJ5_22 (by decide) dJ5_init_a7421_34 h11 ?_
    refine g_aload_n B 2 dJ5_init_a7421_37 rfl rfl ?_
    refine g_iload B 0 dJ5_init_a7421_38 rfl ?_
    replace h := bnA_o h
    obtain ⟨z40, s25, a26, b27, h14, er17, h, la, lb⟩ := h
    have k16 : ∀ j13, z40 = .ok j13 → GW Δ Γ (0 + a26) (0 + b27) 53 [(0, va_rf v0), (1, va_rf v1)] [va_rf j13.2, va_rf j13.1] s25 := by
      intro j13 ej
      replace h := h _ ej
      obtain ⟨a28, b29, h, ea, eb⟩ := h
      subst ea; subst eb
      have hka := bk hka
      have hkb := bk hkb
      replace h := bnP_s h
      obtain ⟨s32, h31, h⟩ := h
      refine g_putR B fl_RJ5_15 (by decide) (Or.inr ⟨_, rfl⟩) dJ5_init_a7421_53 h31 ?_
      refine g_aload_n B 0 dJ5_init_a7421_56 rfl rfl ?_
      refine g_aload_n B 1 dJ5_init_a7421_57 rfl rfl ?_
      replace h := bnA_s h
      rcases h with ⟨e9, h34, e8⟩ | ⟨x33, s35, a36, b37, a38, b39, h34, h, ea, eb⟩
      · subst e8
        exact g_callOx (st := []) B (cJ4_append_cf1cec (o := .error e9) h34) (Nat.le_of_ble_eq_true rfl) rfl mi_J4_append_cf1ce lk_RJ5_43 ⟨Nat.le_of_ble_eq_true rfl, Nat.le_of_ble_eq_true rfl⟩ rfl rfl (Nat.le_of_ble_eq_true rfl) dJ5_init_a7421_58 (Nat.le_trans (Nat.le_of_eq hka) hla) (Nat.le_trans (Nat.le_of_eq hkb) hlb) hE
      · subst ea; subst eb
        have hka := bk hka
        have hkb := bk hkb
        refine g_callOsA (st := []) B (cJ4_append_cf1cec (o := .ok x33) h34) (Nat.le_of_ble_eq_true rfl) rfl mi_J4_append_cf1ce lk_RJ5_43 ⟨Nat.le_of_ble_eq_true rfl, Nat.le_of_ble_eq_true rfl⟩ rfl rfl (Nat.le_of_ble_eq_true rfl) dJ5_init_a7421_58 (Nat.le_trans (bm hka) hla) (Nat.le_trans (bm hkb) hlb) ?_
        refine g_pop B dJ5_init_a7421_61 (rf_cat _) ?_
        obtain ⟨w1, w2, w3, w4⟩ := inA h
        clear h
        subst w1
        subst w2
        subst w3
        subst w4
        exact g_vret B hE (Nat.le_trans (Nat.le_of_eq hka) hla) (Nat.le_trans (Nat.le_of_eq hkb) hlb) dJ5_init_a7421_62
    clear h
    have h := h14
    clear h14
    replace hla := Nat.le_trans (bj hka la) hla
    replace hlb := Nat.le_trans (bj hkb lb) hlb
    replace hka : 0 + a26 = _ := rfl
    replace hkb : 0 + b27 = _ := rfl
    refine g_if_ne B 49 dJ5_init_a7421_40 (by decide) (fun hc => ?_) (fun hc => ?_)
    · replace h := ifn hc h
      refine g_iload_n B 1 dJ5_init_a7421_49 rfl rfl ?_
      cases h
    · replace h := ifp hc h
      refine g_iload_n B 1 dJ5_init_a7421_43 rfl rfl ?_
      replace h := bnA_s h
      rcases h with ⟨e9, h19, e8⟩ | ⟨x18, s20, a21, b22, a23, b24, h19, h, ea, eb⟩
      · exact absurd h19 (by simp [nwA, nwR]; try (split <;> simp))
      · subst ea; subst eb
        have hka := bk hka
        have hkb := bk hkb
        refine g_newarr B (Or.inr (Or.inr (Or.inl ⟨rfl, rfl⟩))) na_byte dJ5_init_a7421_44 h19 (Nat.le_trans (bm hka) hla) (Nat.le_trans (bm hkb) hlb) ?_
        refine g_goto B 53 dJ5_init_a7421_46 (by decide) ?_
        obtain ⟨w1, w2, w3, w4⟩ := inA h
        clear h
        subst w1
        subst w2
        subst w3
        subst w4
        refine g_cost hka hkb ?_
        exact g_sub [2, 3] rfl (k16 _ rfl)
  clear h
  have h := h4
  clear h4
  refine g_icmp_ge B 22 dJ5_init_a7421_12 (by decide) (fun hc => ?_) (fun hc => ?_)
  · replace h := ifp hc h
    refine g_ldc B cs_RJ5_39 dJ5_init_a7421_22 ?_
    replace h := Option.some.inj h
    subst h
    exact g_sub [1, 2] rfl k6
  · replace h := ifn hc h
    refine g_iload_n B 0 dJ5_init_a7421_15 rfl rfl ?_
    refine g_bipush (v := 16) B dJ5_init_a7421_16 (by decide) ?_
    refine g_iadd B dJ5_init_a7421_18 ?_
    refine g_goto B 24 dJ5_init_a7421_19 (by decide) ?_
    replace h := Option.some.inj h
    subst h
    exact g_sub [1, 2] rfl k6
set_option maxRecDepth 100000 in
set_option maxHeartbeats 4000000 in
theorem cJ4_init_a7421c {l : Launch} {v0 : Option Nat} {v1 : Option Nat} {σ : HpT} {o : Except Nat (Unit)} {σ' : HpT} {a b : Nat} (h : fJ4_init_a7421 v0 v1 σ = some (o, σ', a, b)) : IsK σ v0 11 ∧ Ct l yJ4_init_a7421 cJ4_init_a7421 2 none 8 193 [va_rf v0, va_rf v1] σ (oU o) σ' a b := by
  unfold fJ4_init_a7421 at h
  replace h := bnP_s h
  obtain ⟨u, hk, h⟩ := h
  replace hk := isK_s hk
  refine ⟨hk, ?_⟩
  refine ct_start mi_J4_init_a7421.1 rfl (al_le (al_1 (rf_cat _) (al_1 (rf_cat _) al_n)) (Nat.le_of_ble_eq_true rfl)) (ag_1 (rf_cat _) (ag_1 (rf_cat _) ag_n)) (fun Δ Γ B hE hnm => ?_)
  have hka : 0 + a = a := Nat.zero_add a
  have hkb : 0 + b = b := Nat.zero_add b
  have hla : a ≤ a := Nat.le_refl a
  have hlb : b ≤ b := Nat.le_refl b
  refine g_aload_n B 0 dJ4_init_a7421_0 rfl rfl ?_
  refine g_aload_n B 1 dJ4_init_a7421_1 rfl rfl ?_
  replace h := bnA_s h
  rcases h with ⟨e9, h2, e8⟩ | ⟨x1, s3, a4, b5, a6, b7, h2, h, ea, eb⟩
  · subst e8
    exact g_callIx (st := []) B (cJ5_init_a7421c (o := .error e9) h2) mi_J5_init_a7421 lk_RJ4_7 ⟨Nat.le_of_ble_eq_true rfl, Nat.le_of_ble_eq_true rfl⟩ rfl rfl (Nat.le_of_ble_eq_true rfl) dJ4_init_a7421_2 (Nat.le_trans (Nat.le_of_eq hka) hla) (Nat.le_trans (Nat.le_of_eq hkb) hlb) hE
  · subst ea; subst eb
    have hka := bk hka
    have hkb := bk hkb
    refine g_callIvA (st := []) B (cJ5_init_a7421c (o := .ok x1) h2) mi_J5_init_a7421 lk_RJ4_7 ⟨Nat.le_of_ble_eq_true rfl, Nat.le_of_ble_eq_true rfl⟩ rfl rfl (Nat.le_of_ble_eq_true rfl) dJ4_init_a7421_2 (Nat.le_trans (bm hka) hla) (Nat.le_trans (bm hkb) hlb) ?_
    obtain ⟨w1, w2, w3, w4⟩ := inA h
    clear h
    subst w1
    subst w2
    subst w3
    subst w4
    exact g_vret B hE (Nat.le_trans (Nat.le_of_eq hka) hla) (Nat.le_trans (Nat.le_of_eq hkb) hlb) dJ4_init_a7421_5
set_option maxRecDepth 100000 in
set_option maxHeartbeats 4000000 in
theorem cJ6_stringSize_0f7a4c {l : Launch} {v0 : Int32} {σ : HpT} {r : Int32} (h : fJ6_stringSize_0f7a4 v0 σ = some r) : Ct l yJ6_stringSize_0f7a4 cJ6_stringSize_0f7a4 4 (some .int) 0 0 [.int v0] σ (.ok (some (.int r))) σ 0 0 := by
  unfold fJ6_stringSize_0f7a4 at h
  refine ct_start mi_J6_stringSize_0f7a4.1 rfl (al_le (al_1 rfl al_n) (Nat.le_of_ble_eq_true rfl)) (ag_1 rfl ag_n) (fun Δ Γ B hE hnm => ?_)
  refine g_iconst (v := 1) B dJ6_stringSize_0f7a4_0 (by decide) ?_
  refine g_istore_n B dJ6_stringSize_0f7a4_1 rfl (Nat.le_of_ble_eq_true rfl) (s1_c (f1_1 rfl rfl f1_n)) ?_
  refine g_iload_n B 1 dJ6_stringSize_0f7a4_2 rfl rfl ?_
  replace h := bnP_s h
  obtain ⟨j1, h2, h⟩ := h
  have k4 : GW Δ Γ (0) (0) 11 [(0, .int j1.1), (1, .int j1.2)] [] σ := by
    refine g_bipush (v := (-10)) B dJ6_stringSize_0f7a4_11 (by decide) ?_
    refine g_istore_n B dJ6_stringSize_0f7a4_13 rfl (Nat.le_of_ble_eq_true rfl) (s1_c (f1_k rfl (f1_1 rfl rfl f1_n))) ?_
    refine g_iconst (v := 1) B dJ6_stringSize_0f7a4_14 (by decide) ?_
    refine g_istore_n B dJ6_stringSize_0f7a4_15 rfl (Nat.le_of_ble_eq_true rfl) (s1_c (f1_1 rfl rfl (f1_k rfl (f1_k rfl f1_n)))) ?_
    replace h := bnP_s h
    obtain ⟨r7, h8, h⟩ := h
    have kE9 : ∀ y15, r7 = .inl y15 → GW Δ Γ (0) (0) 42 [(1, .int j1.2)] [] σ := by
      intro y15 er
      subst er
      dsimp only at h
      refine g_bipush (v := 10) B dJ6_stringSize_0f7a4_42 (by decide) ?_
      refine g_iload_n B 0 dJ6_stringSize_0f7a4_44 rfl rfl ?_
      refine g_iadd B dJ6_stringSize_0f7a4_45 ?_
      replace h := Option.some.inj h
      subst h
      exact g_iret B hE (Nat.zero_le _) (Nat.zero_le _) dJ6_stringSize_0f7a4_46
    have kR10 : ∀ vv, r7 = .inr vv → En Δ Γ (.ok (some (.int vv))) σ 0 0 (some .int) ∧ 0 ≤ 0 ∧ 0 ≤ 0 := by
      intro vv er
      subst er
      dsimp only at h
      replace h := Option.some.inj h
      subst h
      exact ⟨hE, Nat.zero_le _, Nat.zero_le _⟩
    clear h
    refine g_sub [2, 3, 1, 0] rfl ?_
    refine lpP_w (I := fun q6 => GW Δ Γ (0) (0) 16 [(0, .int j1.1), (1, .int j1.2), (2, .int q6.1), (3, .int q6.2)] [] σ) (r := r7) ?_ FUEL ((-10), 1) h8
    intro q6 x13 h hI11 hR12
    unfold fJ6_stringSize_0f7a4_l1 at h
    refine g_iload_n B 3 dJ6_stringSize_0f7a4_16 rfl rfl ?_
    refine g_bipush (v := 10) B dJ6_stringSize_0f7a4_17 (by decide) ?_
    refine g_icmp_ge B 42 dJ6_stringSize_0f7a4_19 (by decide) (fun hc => ?_) (fun hc => ?_)
    · replace h := ifp hc h
      replace h := Option.some.inj h
      subst h
      have e8 := hR12 _ rfl
      subst e8
      exact g_sub [1] rfl (kE9 _ rfl)
    · replace h := ifn hc h
      refine g_iload_n B 0 dJ6_stringSize_0f7a4_22 rfl rfl ?_
      refine g_iload_n B 2 dJ6_stringSize_0f7a4_23 rfl rfl ?_
      refine g_icmp_le B 31 dJ6_stringSize_0f7a4_24 (by decide) (fun hc => ?_) (fun hc => ?_)
      · replace h := ifp hc h
        refine g_bipush (v := 10) B dJ6_stringSize_0f7a4_31 (by decide) ?_
        refine g_iload_n B 2 dJ6_stringSize_0f7a4_33 rfl rfl ?_
        refine g_imul B dJ6_stringSize_0f7a4_34 ?_
        refine g_istore_n B dJ6_stringSize_0f7a4_35 rfl (Nat.le_of_ble_eq_true rfl) (s1_c (f1_k rfl (f1_1 rfl rfl (f1_x (f1_k rfl f1_n))))) ?_
        refine g_iinc (v := (q6.2 + 1)) B 3 dJ6_stringSize_0f7a4_36 rfl (by first | rfl | (congr 1; decide)) (Nat.le_of_ble_eq_true rfl) (s1_c (f1_1 rfl rfl (f1_k rfl (f1_k rfl (f1_x f1_n))))) ?_
        refine g_goto B 16 dJ6_stringSize_0f7a4_39 (by decide) ?_
        replace h := Option.some.inj h
        subst h
        exact g_sub [2, 3, 1, 0] rfl (hI11 _ rfl)
      · replace h := ifn hc h
        refine g_iload_n B 3 dJ6_stringSize_0f7a4_27 rfl rfl ?_
        refine g_iload_n B 1 dJ6_stringSize_0f7a4_28 rfl rfl ?_
        refine g_iadd B dJ6_stringSize_0f7a4_29 ?_
        replace h := Option.some.inj h
        subst h
        have e8 := hR12 _ rfl
        obtain ⟨hE, hc9, hs9⟩ := kR10 _ e8.symm
        exact g_iret B hE hc9 hs9 dJ6_stringSize_0f7a4_30
  clear h
  have h := h2
  clear h2
  refine g_if_lt B 11 dJ6_stringSize_0f7a4_3 (by decide) (fun hc => ?_) (fun hc => ?_)
  · replace h := ifp hc h
    replace h := Option.some.inj h
    subst h
    exact g_sub [1, 0] rfl k4
  · replace h := ifn hc h
    refine g_iconst (v := 0) B dJ6_stringSize_0f7a4_6 (by decide) ?_
    refine g_istore_n B dJ6_stringSize_0f7a4_7 rfl (Nat.le_of_ble_eq_true rfl) (s1_c (f1_x (f1_1 rfl rfl f1_n))) ?_
    refine g_iload_n B 1 dJ6_stringSize_0f7a4_8 rfl rfl ?_
    refine g_ineg B dJ6_stringSize_0f7a4_9 ?_
    refine g_istore_n B dJ6_stringSize_0f7a4_10 rfl (Nat.le_of_ble_eq_true rfl) (s1_c (f1_k rfl (f1_x f1_n))) ?_
    replace h := Option.some.inj h
    subst h
    exact g_sub [0, 1] rfl k4
set_option maxRecDepth 100000 in
set_option maxHeartbeats 4000000 in
theorem cJ6_getChars_ba4f3c {l : Launch} {v0 : Int32} {v1 : Int32} {v2 : Option Nat} {σ : HpT} {r : Int32} {σ' : HpT} (h : fJ6_getChars_ba4f3 v0 v1 v2 σ = some (r, σ')) : Ct l yJ6_getChars_ba4f3 cJ6_getChars_ba4f3 7 (some .int) 0 0 [.int v0, .int v1, va_rf v2] σ (.ok (some (.int r))) σ' 0 0 := by
  unfold fJ6_getChars_ba4f3 at h
  refine ct_start mi_J6_getChars_ba4f3.1 rfl (al_le (al_1 rfl (al_1 rfl (al_1 (rf_cat _) al_n))) (Nat.le_of_ble_eq_true rfl)) (ag_1 rfl (ag_1 rfl (ag_1 (rf_cat _) ag_n))) (fun Δ Γ B hE hnm => ?_)
  refine g_iload_n B 1 dJ6_getChars_ba4f3_0 rfl rfl ?_
  refine g_istore B dJ6_getChars_ba4f3_1 (Nat.le_of_ble_eq_true rfl) (s1_c (f1_k rfl (f1_k rfl (f1_k rfl f1_n)))) ?_
  refine g_iload_n B 1 dJ6_getChars_ba4f3_3 rfl rfl ?_
  replace h := bnP_s h
  obtain ⟨j1, h2, h⟩ := h
  have k4 : GW Δ Γ (0) (0) 12 [(0, .int v0), (2, va_rf v2), (5, .int v1)] [.int j1] σ := by
    refine g_istore B dJ6_getChars_ba4f3_12 (Nat.le_of_ble_eq_true rfl) (s1_c (f1_k rfl (f1_k rfl (f1_1 rfl rfl f1_n)))) ?_
    refine g_iload B 0 dJ6_getChars_ba4f3_14 rfl ?_
    replace h := bnP_s h
    obtain ⟨j6, h7, h⟩ := h
    have k9 : GW Δ Γ (0) (0) 22 [(0, .int j6), (2, va_rf v2), (5, .int v1), (6, .int j1)] [] σ := by
      replace h := bnS_s h
      obtain ⟨r12, s31, h13, h⟩ := h
      have kE14 : GW Δ Γ (0) (0) 72 [(0, .int r12.1), (2, va_rf v2), (5, .int r12.2), (6, .int j1)] [] s31 := by
        refine g_aload_n B 1 dJ6_getChars_ba4f3_72 rfl rfl ?_
        refine g_iinc (v := (r12.2 + (-1))) B 2 dJ6_getChars_ba4f3_73 rfl (by first | rfl | (congr 1; decide)) (Nat.le_of_ble_eq_true rfl) (s1_c (f1_k rfl (f1_k rfl (f1_x (f1_k rfl f1_n))))) ?_
        refine g_iload B 0 dJ6_getChars_ba4f3_76 rfl ?_
        refine g_gstO B sv_RJ6_83 dJ6_getChars_ba4f3_78 ?_
        refine g_iload_n B 1 dJ6_getChars_ba4f3_81 rfl rfl ?_
        refine g_ineg B dJ6_getChars_ba4f3_82 ?_
        replace h := bnP_s h
        obtain ⟨x32, h33, h⟩ := h
        refine g_bald B dJ6_getChars_ba4f3_83 h33 ?_
        replace h := bnP_s h
        obtain ⟨s36, h35, h⟩ := h
        refine g_bast B dJ6_getChars_ba4f3_84 h35 ?_
        refine g_iload_n B 1 dJ6_getChars_ba4f3_85 rfl rfl ?_
        refine g_bipush (v := (-9)) B dJ6_getChars_ba4f3_86 (by decide) ?_
        replace h := bnS_s h
        obtain ⟨j37, s47, h38, h⟩ := h
        have k40 : GW Δ Γ (0) (0) 104 [(2, va_rf v2), (5, .int j37), (6, .int j1)] [] s47 := by
          refine g_iload B 2 dJ6_getChars_ba4f3_104 rfl ?_
          refine g_if_eq B 118 dJ6_getChars_ba4f3_106 (by decide) (fun hc => ?_) (fun hc => ?_)
          · replace h := ifp hc h
            refine g_iload B 1 dJ6_getChars_ba4f3_118 rfl ?_
            obtain ⟨w1, w2⟩ := inS h
            clear h
            subst w1
            subst w2
            exact g_iret B hE (Nat.zero_le _) (Nat.zero_le _) dJ6_getChars_ba4f3_120
          · replace h := ifn hc h
            refine g_aload_n B 0 dJ6_getChars_ba4f3_109 rfl rfl ?_
            refine g_iinc (v := (j37 + (-1))) B 1 dJ6_getChars_ba4f3_110 rfl (by first | rfl | (congr 1; decide)) (Nat.le_of_ble_eq_true rfl) (s1_c (f1_k rfl (f1_x (f1_k rfl f1_n)))) ?_
            refine g_iload B 0 dJ6_getChars_ba4f3_113 rfl ?_
            refine g_bipush (v := 45) B dJ6_getChars_ba4f3_115 (by decide) ?_
            replace h := bnP_s h
            obtain ⟨s50, h49, h⟩ := h
            refine g_bast B dJ6_getChars_ba4f3_117 h49 ?_
            refine g_iload B 0 dJ6_getChars_ba4f3_118 rfl ?_
            obtain ⟨w1, w2⟩ := inS h
            clear h
            subst w1
            subst w2
            exact g_iret B hE (Nat.zero_le _) (Nat.zero_le _) dJ6_getChars_ba4f3_120
        clear h
        have h := h38
        clear h38
        refine g_icmp_ge B 104 dJ6_getChars_ba4f3_88 (by decide) (fun hc => ?_) (fun hc => ?_)
        · replace h := ifp hc h
          obtain ⟨w1, w2⟩ := inS h
          clear h
          subst w1
          subst w2
          exact g_sub [2, 0, 3] rfl k40
        · replace h := ifn hc h
          refine g_aload_n B 2 dJ6_getChars_ba4f3_91 rfl rfl ?_
          refine g_iinc (v := ((r12.2 + (-1)) + (-1))) B 0 dJ6_getChars_ba4f3_92 rfl (by first | rfl | (congr 1; decide)) (Nat.le_of_ble_eq_true rfl) (s1_c (f1_x (f1_k rfl (f1_k rfl (f1_k rfl f1_n))))) ?_
          refine g_iload B 0 dJ6_getChars_ba4f3_95 rfl ?_
          refine g_gstT B sv_RJ6_87 dJ6_getChars_ba4f3_97 ?_
          refine g_iload_n B 1 dJ6_getChars_ba4f3_100 rfl rfl ?_
          refine g_ineg B dJ6_getChars_ba4f3_101 ?_
          replace h := bnP_s h
          obtain ⟨x42, h43, h⟩ := h
          refine g_bald B dJ6_getChars_ba4f3_102 h43 ?_
          replace h := bnP_s h
          obtain ⟨s46, h45, h⟩ := h
          refine g_bast B dJ6_getChars_ba4f3_103 h45 ?_
          obtain ⟨w1, w2⟩ := inS h
          clear h
          subst w1
          subst w2
          exact g_sub [2, 0, 3] rfl k40
      clear h
      refine g_sub [0, 1, 2, 3] rfl ?_
      refine lpS_w (I := fun q11 s20 => GW Δ Γ (0) (0) 22 [(0, .int q11.1), (2, va_rf v2), (5, .int q11.2), (6, .int j1)] [] s20) (r := r12) (σr := s31) ?_ FUEL (j6, v1) σ h13
      intro q11 s20 x18 s9 h hI16 hR17
      unfold fJ6_getChars_ba4f3_l1 at h
      refine g_iload_n B 0 dJ6_getChars_ba4f3_22 rfl rfl ?_
      refine g_bipush (v := (-100)) B dJ6_getChars_ba4f3_23 (by decide) ?_
      refine g_icmp_gt B 72 dJ6_getChars_ba4f3_25 (by decide) (fun hc => ?_) (fun hc => ?_)
      · replace h := ifp hc h
        obtain ⟨w1, w2⟩ := inS h
        clear h
        subst w1
        subst w2
        obtain ⟨e8, e7⟩ := hR17 _ rfl
        subst e8
        subst e7
        exact g_sub [0, 1, 2, 3] rfl kE14
      · replace h := ifn hc h
        refine g_iload_n B 0 dJ6_getChars_ba4f3_28 rfl rfl ?_
        refine g_bipush (v := 100) B dJ6_getChars_ba4f3_29 (by decide) ?_
        refine g_idiv B dJ6_getChars_ba4f3_31 (by decide) ?_
        refine g_istore_n B dJ6_getChars_ba4f3_32 rfl (Nat.le_of_ble_eq_true rfl) (s1_c (f1_k rfl (f1_1 rfl (rf_cat _) (f1_k rfl (f1_k rfl f1_n))))) ?_
        refine g_iload_n B 0 dJ6_getChars_ba4f3_33 rfl rfl ?_
        refine g_bipush (v := 100) B dJ6_getChars_ba4f3_34 (by decide) ?_
        refine g_imul B dJ6_getChars_ba4f3_36 ?_
        refine g_iload_n B 1 dJ6_getChars_ba4f3_37 rfl rfl ?_
        refine g_isub B dJ6_getChars_ba4f3_38 ?_
        refine g_istore B dJ6_getChars_ba4f3_39 (Nat.le_of_ble_eq_true rfl) (s1_c (f1_1 rfl rfl (f1_k rfl (f1_k rfl (f1_k rfl (f1_k rfl f1_n)))))) ?_
        refine g_iload_n B 1 dJ6_getChars_ba4f3_41 rfl rfl ?_
        refine g_istore_n B dJ6_getChars_ba4f3_42 rfl (Nat.le_of_ble_eq_true rfl) (s1_c (f1_k rfl (f1_k rfl (f1_x (f1_k rfl (f1_k rfl (f1_k rfl f1_n))))))) ?_
        refine g_aload_n B 3 dJ6_getChars_ba4f3_43 rfl rfl ?_
        refine g_iinc (v := (q11.2 + (-1))) B 4 dJ6_getChars_ba4f3_44 rfl (by first | rfl | (congr 1; decide)) (Nat.le_of_ble_eq_true rfl) (s1_c (f1_k rfl (f1_1 rfl rfl (f1_k rfl (f1_k rfl (f1_x (f1_k rfl f1_n))))))) ?_
        refine g_iload B 0 dJ6_getChars_ba4f3_47 rfl ?_
        refine g_gstO B sv_RJ6_83 dJ6_getChars_ba4f3_49 ?_
        refine g_iload B 2 dJ6_getChars_ba4f3_52 rfl ?_
        replace h := bnP_s h
        obtain ⟨x21, h22, h⟩ := h
        refine g_bald B dJ6_getChars_ba4f3_54 h22 ?_
        replace h := bnP_s h
        obtain ⟨s25, h24, h⟩ := h
        refine g_bast B dJ6_getChars_ba4f3_55 h24 ?_
        refine g_aload_n B 4 dJ6_getChars_ba4f3_56 rfl rfl ?_
        refine g_iinc (v := ((q11.2 + (-1)) + (-1))) B 0 dJ6_getChars_ba4f3_57 rfl (by first | rfl | (congr 1; decide)) (Nat.le_of_ble_eq_true rfl) (s1_c (f1_x (f1_k rfl (f1_1 rfl rfl (f1_k rfl (f1_k rfl (f1_k rfl f1_n))))))) ?_
        refine g_iload B 0 dJ6_getChars_ba4f3_60 rfl ?_
        refine g_gstT B sv_RJ6_87 dJ6_getChars_ba4f3_62 ?_
        refine g_iload B 2 dJ6_getChars_ba4f3_65 rfl ?_
        replace h := bnP_s h
        obtain ⟨x26, h27, h⟩ := h
        refine g_bald B dJ6_getChars_ba4f3_67 h27 ?_
        replace h := bnP_s h
        obtain ⟨s30, h29, h⟩ := h
        refine g_bast B dJ6_getChars_ba4f3_68 h29 ?_
        refine g_goto B 22 dJ6_getChars_ba4f3_69 (by decide) ?_
        obtain ⟨w1, w2⟩ := inS h
        clear h
        subst w1
        subst w2
        exact g_sub [1, 4, 0, 5] rfl (hI16 _ rfl)
    clear h
    have h := h7
    clear h7
    refine g_if_ne B 22 dJ6_getChars_ba4f3_16 (by decide) (fun hc => ?_) (fun hc => ?_)
    · replace h := ifn hc h
      replace h := Option.some.inj h
      subst h
      exact g_sub [1, 2, 3, 0] rfl k9
    · replace h := ifp hc h
      refine g_iload_n B 1 dJ6_getChars_ba4f3_19 rfl rfl ?_
      refine g_ineg B dJ6_getChars_ba4f3_20 ?_
      refine g_istore_n B dJ6_getChars_ba4f3_21 rfl (Nat.le_of_ble_eq_true rfl) (s1_c (f1_k rfl (f1_x (f1_k rfl (f1_k rfl f1_n))))) ?_
      replace h := Option.some.inj h
      subst h
      exact g_sub [0, 2, 3, 1] rfl k9
  clear h
  have h := h2
  clear h2
  refine g_if_ge B 11 dJ6_getChars_ba4f3_4 (by decide) (fun hc => ?_) (fun hc => ?_)
  · replace h := ifp hc h
    refine g_iconst (v := 0) B dJ6_getChars_ba4f3_11 (by decide) ?_
    replace h := Option.some.inj h
    subst h
    exact g_sub [1, 3, 0] rfl k4
  · replace h := ifn hc h
    refine g_iconst (v := 1) B dJ6_getChars_ba4f3_7 (by decide) ?_
    refine g_goto B 12 dJ6_getChars_ba4f3_8 (by decide) ?_
    replace h := Option.some.inj h
    subst h
    exact g_sub [1, 3, 0] rfl k4
set_option maxRecDepth 100000 in
set_option maxHeartbeats 4000000 in
theorem cJ5_append_c97b9c {l : Launch} {v0 : Option Nat} {v1 : Int32} {σ : HpT} {o : Except Nat (Option Nat)} {σ' : HpT} {a b : Nat} (h : fJ5_append_c97b9 v0 v1 σ = some (o, σ', a, b)) : IsK σ v0 11 ∧ Ct l yJ5_append_c97b9 cJ5_append_c97b9 4 (some (.object "java/lang/AbstractStringBuilder")) 4 104 [va_rf v0, .int v1] σ (oA o) σ' a b := by
  unfold fJ5_append_c97b9 at h
  replace h := bnP_s h
  obtain ⟨u, hk, h⟩ := h
  replace hk := isK_s hk
  refine ⟨hk, ?_⟩
  refine ct_start mi_J5_append_c97b9.1 rfl (al_le (al_1 (rf_cat _) (al_1 rfl al_n)) (Nat.le_of_ble_eq_true rfl)) (ag_1 (rf_cat _) (ag_1 rfl ag_n)) (fun Δ Γ B hE hnm => ?_)
  have hka : 0 + a = a := Nat.zero_add a
  have hkb : 0 + b = b := Nat.zero_add b
  have hla : a ≤ a := Nat.le_refl a
  have hlb : b ≤ b := Nat.le_refl b
  refine g_aload_n B 0 dJ5_append_c97b9_0 rfl rfl ?_
  replace h := bnP_s h
  obtain ⟨x1, h2, h⟩ := h
  refine g_getI B fl_RJ5_79 (by decide) dJ5_append_c97b9_1 h2 ?_
  refine g_istore_n B dJ5_append_c97b9_4 rfl (Nat.le_of_ble_eq_true rfl) (s1_c (f1_k rfl (f1_1 rfl rfl f1_n))) ?_
  refine g_iload_n B 0 dJ5_append_c97b9_5 rfl rfl ?_
  refine g_iload_n B 2 dJ5_append_c97b9_6 rfl rfl ?_
  replace h := bnP_s h
  obtain ⟨x3, h4, h⟩ := h
  refine g_callSs0 (st := [.int x1]) B (cJ6_stringSize_0f7a4c h4) mi_J6_stringSize_0f7a4 lk_RJ5_245 ⟨Nat.le_of_ble_eq_true rfl, Nat.le_of_ble_eq_true rfl⟩ rfl rfl (Nat.le_of_ble_eq_true rfl) dJ5_append_c97b9_7 (Nat.le_trans (bm hka) hla) (Nat.le_trans (bm hkb) hlb) ?_
  refine g_iadd B dJ5_append_c97b9_10 ?_
  refine g_istore_n B dJ5_append_c97b9_11 rfl (Nat.le_of_ble_eq_true rfl) (s1_c (f1_1 rfl rfl (f1_k rfl (f1_k rfl f1_n)))) ?_
  refine g_aload_n B 2 dJ5_append_c97b9_12 rfl rfl ?_
  refine g_iload_n B 0 dJ5_append_c97b9_13 rfl rfl ?_
  replace h := bnA_s h
  rcases h with ⟨e9, h6, e8⟩ | ⟨x5, s7, a8, b9, a10, b11, h6, h, ea, eb⟩
  · subst e8
    exact g_callVcx (st := []) B (cJ5_ensureCapacityInternal_d00dfc (o := .error e9) h6) (Nat.le_of_ble_eq_true rfl) rfl mi_J5_ensureCapacityInternal_d00df lk_RJ5_100 ⟨Nat.le_of_ble_eq_true rfl, Nat.le_of_ble_eq_true rfl⟩ rfl rfl (Nat.le_of_ble_eq_true rfl) dJ5_append_c97b9_14 (Nat.le_trans (Nat.le_of_eq hka) hla) (Nat.le_trans (Nat.le_of_eq hkb) hlb) hE
  · subst ea; subst eb
    have hka := bk hka
    have hkb := bk hkb
    refine g_callVcvA (st := []) B (cJ5_ensureCapacityInternal_d00dfc (o := .ok x5) h6) (Nat.le_of_ble_eq_true rfl) rfl mi_J5_ensureCapacityInternal_d00df lk_RJ5_100 ⟨Nat.le_of_ble_eq_true rfl, Nat.le_of_ble_eq_true rfl⟩ rfl rfl (Nat.le_of_ble_eq_true rfl) dJ5_append_c97b9_14 (Nat.le_trans (bm hka) hla) (Nat.le_trans (bm hkb) hlb) ?_
    refine g_aload_n B 2 dJ5_append_c97b9_17 rfl rfl ?_
    replace h := bnP_s h
    obtain ⟨x12, h13, h⟩ := h
    refine g_callVcs0 (st := []) B (cJ5_isLatin1_aae02c h13) (Nat.le_of_ble_eq_true rfl) rfl mi_J5_isLatin1_aae02 lk_RJ5_83 ⟨Nat.le_of_ble_eq_true rfl, Nat.le_of_ble_eq_true rfl⟩ rfl rfl (Nat.le_of_ble_eq_true rfl) dJ5_append_c97b9_18 (Nat.le_trans (bm hka) hla) (Nat.le_trans (bm hkb) hlb) ?_
    replace h := bnS_s h
    obtain ⟨j14, s26, h15, h⟩ := h
    have k17 : GW Δ Γ (0 + a8) (0 + b9) 48 [(0, va_rf v0), (3, .int (x1 + x3))] [] s26 := by
      refine g_aload_n B 0 dJ5_append_c97b9_48 rfl rfl ?_
      refine g_iload_n B 1 dJ5_append_c97b9_49 rfl rfl ?_
      replace h := bnP_s h
      obtain ⟨s29, h28, h⟩ := h
      refine g_putI B fl_RJ5_79 (by decide) dJ5_append_c97b9_50 h28 ?_
      refine g_aload_n B 0 dJ5_append_c97b9_53 rfl rfl ?_
      obtain ⟨w1, w2, w3, w4⟩ := inA h
      clear h
      subst w1
      subst w2
      subst w3
      subst w4
      exact g_aret B hE (Or.inl ⟨_, rfl⟩) (Nat.le_trans (Nat.le_of_eq hka) hla) (Nat.le_trans (Nat.le_of_eq hkb) hlb) dJ5_append_c97b9_54
    clear h
    have h := h15
    clear h15
    refine g_if_eq B 37 dJ5_append_c97b9_21 (by decide) (fun hc => ?_) (fun hc => ?_)
    · replace h := ifn (bI0 hc) h
      refine g_iload_n B 3 dJ5_append_c97b9_37 rfl rfl ?_
      refine g_iload_n B 1 dJ5_append_c97b9_38 rfl rfl ?_
      refine g_iload_n B 0 dJ5_append_c97b9_39 rfl rfl ?_
      refine g_aload_n B 2 dJ5_append_c97b9_40 rfl rfl ?_
      replace h := bnP_s h
      obtain ⟨x19, h20, h⟩ := h
      refine g_getR B fl_RJ5_15 (by decide) dJ5_append_c97b9_41 h20 ?_
      cases h
    · replace h := ifp (bI1 hc) h
      refine g_iload_n B 3 dJ5_append_c97b9_24 rfl rfl ?_
      refine g_iload_n B 0 dJ5_append_c97b9_25 rfl rfl ?_
      refine g_aload_n B 2 dJ5_append_c97b9_26 rfl rfl ?_
      replace h := bnP_s h
      obtain ⟨x21, h22, h⟩ := h
      refine g_getR B fl_RJ5_15 (by decide) dJ5_append_c97b9_27 h22 ?_
      replace h := bnS_s h
      obtain ⟨x23, s25, h24, h⟩ := h
      refine g_callSs0 (st := []) B (cJ6_getChars_ba4f3c h24) mi_J6_getChars_ba4f3 lk_RJ5_248 ⟨Nat.le_of_ble_eq_true rfl, Nat.le_of_ble_eq_true rfl⟩ rfl rfl (Nat.le_of_ble_eq_true rfl) dJ5_append_c97b9_30 (Nat.le_trans (bm hka) hla) (Nat.le_trans (bm hkb) hlb) ?_
      refine g_pop B dJ5_append_c97b9_33 rfl ?_
      refine g_goto B 48 dJ5_append_c97b9_34 (by decide) ?_
      obtain ⟨w1, w2⟩ := inS h
      clear h
      subst w1
      subst w2
      exact g_sub [2, 0] rfl k17
set_option maxRecDepth 100000 in
set_option maxHeartbeats 4000000 in
theorem cJ4_append_bf812c {l : Launch} {v0 : Option Nat} {v1 : Int32} {σ : HpT} {o : Except Nat (Option Nat)} {σ' : HpT} {a b : Nat} (h : fJ4_append_bf812 v0 v1 σ = some (o, σ', a, b)) : IsK σ v0 11 ∧ Ct l yJ4_append_bf812 cJ4_append_bf812 2 (some (.object "java/lang/StringBuilder")) 5 127 [va_rf v0, .int v1] σ (oA o) σ' a b := by
  unfold fJ4_append_bf812 at h
  replace h := bnP_s h
  obtain ⟨u, hk, h⟩ := h
  replace hk := isK_s hk
  refine ⟨hk, ?_⟩
  refine ct_start mi_J4_append_bf812.1 rfl (al_le (al_1 (rf_cat _) (al_1 rfl al_n)) (Nat.le_of_ble_eq_true rfl)) (ag_1 (rf_cat _) (ag_1 rfl ag_n)) (fun Δ Γ B hE hnm => ?_)
  have hka : 0 + a = a := Nat.zero_add a
  have hkb : 0 + b = b := Nat.zero_add b
  have hla : a ≤ a := Nat.le_refl a
  have hlb : b ≤ b := Nat.le_refl b
  refine g_aload_n B 0 dJ4_append_bf812_0 rfl rfl ?_
  refine g_iload_n B 1 dJ4_append_bf812_1 rfl rfl ?_
  replace h := bnA_s h
  rcases h with ⟨e9, h2, e8⟩ | ⟨x1, s3, a4, b5, a6, b7, h2, h, ea, eb⟩
  · subst e8
    exact g_callSUx (st := []) B (cJ5_append_c97b9c (o := .error e9) h2) (Nat.le_of_ble_eq_true rfl) rfl mi_J5_append_c97b9 lk_RJ4_53 ⟨Nat.le_of_ble_eq_true rfl, Nat.le_of_ble_eq_true rfl⟩ rfl rfl (Nat.le_of_ble_eq_true rfl) dJ4_append_bf812_2 (Nat.le_trans (Nat.le_of_eq hka) hla) (Nat.le_trans (Nat.le_of_eq hkb) hlb) hE
  · subst ea; subst eb
    have hka := bk hka
    have hkb := bk hkb
    refine g_callSUsA (st := []) B (cJ5_append_c97b9c (o := .ok x1) h2) (Nat.le_of_ble_eq_true rfl) rfl mi_J5_append_c97b9 lk_RJ4_53 ⟨Nat.le_of_ble_eq_true rfl, Nat.le_of_ble_eq_true rfl⟩ rfl rfl (Nat.le_of_ble_eq_true rfl) dJ4_append_bf812_2 (Nat.le_trans (bm hka) hla) (Nat.le_trans (bm hkb) hlb) ?_
    refine g_pop B dJ4_append_bf812_5 (rf_cat _) ?_
    refine g_aload_n B 0 dJ4_append_bf812_6 rfl rfl ?_
    obtain ⟨w1, w2, w3, w4⟩ := inA h
    clear h
    subst w1
    subst w2
    subst w3
    subst w4
    exact g_aret B hE (Or.inl ⟨_, rfl⟩) (Nat.le_trans (Nat.le_of_eq hka) hla) (Nat.le_trans (Nat.le_of_eq hkb) hlb) dJ4_append_bf812_7
set_option maxRecDepth 100000 in
set_option maxHeartbeats 4000000 in
theorem cJ7_fill_d0a16c {l : Launch} {v0 : Option Nat} {v1 : Int64} {σ : HpT} {σ' : HpT} (h : fJ7_fill_d0a16 v0 v1 σ = some σ') : Ct l yJ7_fill_d0a16 cJ7_fill_d0a16 5 none 0 0 [va_rf v0, .long v1] σ (.ok none) σ' 0 0 := by
  unfold fJ7_fill_d0a16 at h
  refine ct_start mi_J7_fill_d0a16.1 rfl (al_le (al_1 (rf_cat _) (al_2 rfl al_n)) (Nat.le_of_ble_eq_true rfl)) (ag_1 (rf_cat _) (ag_2 rfl ag_n)) (fun Δ Γ B hE hnm => ?_)
  refine g_iconst (v := 0) B dJ7_fill_d0a16_0 (by decide) ?_
  refine g_istore_n B dJ7_fill_d0a16_1 rfl (Nat.le_of_ble_eq_true rfl) (s1_c (f1_k rfl (f1_k rfl f1_n))) ?_
  refine g_aload_n B 1 dJ7_fill_d0a16_2 rfl rfl ?_
  replace h := bnP_s h
  obtain ⟨x1, h2, h⟩ := h
  refine g_alen B (κ := 21) (by decide) dJ7_fill_d0a16_3 h2 ?_
  refine g_istore B dJ7_fill_d0a16_4 (Nat.le_of_ble_eq_true rfl) (s1_c (f1_1 rfl rfl (f1_k rfl (f1_k rfl f1_n)))) ?_
  replace h := bnS_s h
  obtain ⟨r4, s16, h5, h⟩ := h
  have kE6 : GW Δ Γ (0) (0) 22 [] [] s16 := by
    replace h := Option.some.inj h
    subst h
    exact g_vret B hE (Nat.zero_le _) (Nat.zero_le _) dJ7_fill_d0a16_22
  clear h
  refine g_sub [2, 3, 1, 0] rfl ?_
  refine lpS_w (I := fun q3 s12 => GW Δ Γ (0) (0) 6 [(0, va_rf v0), (1, .long v1), (3, .int q3), (4, .int x1)] [] s12) (r := r4) (σr := s16) ?_ FUEL 0 σ h5
  intro q3 s12 x10 s9 h hI8 hR9
  unfold fJ7_fill_d0a16_l1 at h
  refine g_iload_n B 2 dJ7_fill_d0a16_6 rfl rfl ?_
  refine g_iload B 3 dJ7_fill_d0a16_7 rfl ?_
  refine g_icmp_ge B 22 dJ7_fill_d0a16_9 (by decide) (fun hc => ?_) (fun hc => ?_)
  · replace h := ifp hc h
    obtain ⟨w1, w2⟩ := inS h
    clear h
    subst w1
    subst w2
    obtain ⟨e8, e7⟩ := hR9 _ rfl
    subst e8
    subst e7
    exact g_sub [] rfl kE6
  · replace h := ifn hc h
    refine g_aload_n B 0 dJ7_fill_d0a16_12 rfl rfl ?_
    refine g_iload_n B 2 dJ7_fill_d0a16_13 rfl rfl ?_
    refine g_lload_n B 1 dJ7_fill_d0a16_14 rfl rfl ?_
    replace h := bnP_s h
    obtain ⟨s15, h14, h⟩ := h
    refine g_last B dJ7_fill_d0a16_15 h14 ?_
    refine g_iinc (v := (q3 + 1)) B 2 dJ7_fill_d0a16_16 rfl (by first | rfl | (congr 1; decide)) (Nat.le_of_ble_eq_true rfl) (s1_c (f1_k rfl (f1_k rfl (f1_x (f1_k rfl f1_n))))) ?_
    refine g_goto B 6 dJ7_fill_d0a16_19 (by decide) ?_
    obtain ⟨w1, w2⟩ := inS h
    clear h
    subst w1
    subst w2
    exact g_sub [1, 2, 0, 3] rfl (hI8 _ rfl)
