theorem mi_L_areKnown : MI yL_areKnown cL_areKnown 4 (some .boolean) 1 := ⟨by decide +kernel, (mw (i := 1765) (by decide +kernel) rfl), (mw (i := 36) (by decide +kernel) rfl), by decide +kernel, by decide +kernel⟩
theorem mi_L_cell : MI yL_cell cL_cell 2 (some .int) 2 := ⟨by decide +kernel, (mw (i := 1302) (by decide +kernel) rfl), (mw (i := 36) (by decide +kernel) rfl), by decide +kernel, by decide +kernel⟩
theorem mi_L_flush : MI yL_flush cL_flush 3 none 2 := ⟨by decide +kernel, (mw (i := 1346) (by decide +kernel) rfl), (mw (i := 36) (by decide +kernel) rfl), by decide +kernel, by decide +kernel⟩
theorem mi_L_put : MI yL_put cL_put 4 none 3 := ⟨by decide +kernel, (mw (i := 1343) (by decide +kernel) rfl), (mw (i := 36) (by decide +kernel) rfl), by decide +kernel, by decide +kernel⟩
theorem mi_L_said : MI yL_said cL_said 3 (some .int) 2 := ⟨by decide +kernel, (mw (i := 1357) (by decide +kernel) rfl), (mw (i := 36) (by decide +kernel) rfl), by decide +kernel, by decide +kernel⟩
theorem mi_L_text : MI yL_text cL_text 7 (some (.object "java/lang/String")) 2 := ⟨by decide +kernel, (mw (i := 1360) (by decide +kernel) rfl), (mw (i := 36) (by decide +kernel) rfl), by decide +kernel, by decide +kernel⟩
theorem mi_L_told : MI yL_told cL_told 4 (some .int) 3 := ⟨by decide +kernel, (mw (i := 1305) (by decide +kernel) rfl), (mw (i := 36) (by decide +kernel) rfl), by decide +kernel, by decide +kernel⟩
theorem mi_X10_init : MI yX10_init cX10_init 1 none 0 := ⟨by decide +kernel, (mw (i := 1516) (by decide +kernel) rfl), (mw (i := 63) (by decide +kernel) rfl), by decide +kernel, by decide +kernel⟩
theorem mi_X10_standing : MI yX10_standing cX10_standing 3 (some .int) 0 := ⟨by decide +kernel, (mw (i := 1751) (by decide +kernel) rfl), (mw (i := 63) (by decide +kernel) rfl), by decide +kernel, by decide +kernel⟩
theorem mi_X11_begin : MI yX11_begin cX11_begin 11 (some (.object "NotaryBookLaw$Act")) 2 := ⟨by decide +kernel, (mw (i := 1511) (by decide +kernel) rfl), (mw (i := 51) (by decide +kernel) rfl), by decide +kernel, by decide +kernel⟩
theorem mi_X11_init : MI yX11_init cX11_init 1 none 0 := ⟨by decide +kernel, (mw (i := 1248) (by decide +kernel) rfl), (mw (i := 51) (by decide +kernel) rfl), by decide +kernel, by decide +kernel⟩
theorem mi_X11_many : MI yX11_many cX11_many 1 (some .int) 0 := ⟨by decide +kernel, (mw (i := 1717) (by decide +kernel) rfl), (mw (i := 51) (by decide +kernel) rfl), by decide +kernel, by decide +kernel⟩
theorem mi_X11_mate : MI yX11_mate cX11_mate 3 (some .int) 1 := ⟨by decide +kernel, (mw (i := 1713) (by decide +kernel) rfl), (mw (i := 51) (by decide +kernel) rfl), by decide +kernel, by decide +kernel⟩
theorem mi_X11_words : MI yX11_words cX11_words 3 (some .int) 0 := ⟨by decide +kernel, (mw (i := 1693) (by decide +kernel) rfl), (mw (i := 51) (by decide +kernel) rfl), by decide +kernel, by decide +kernel⟩
theorem mi_X12_init : MI yX12_init cX12_init 3 none 2 := ⟨by decide +kernel, (mw (i := 1671) (by decide +kernel) rfl), (mw (i := 64) (by decide +kernel) rfl), by decide +kernel, by decide +kernel⟩
theorem mi_X12_inners : MI yX12_inners cX12_inners 3 (some .int) 0 := ⟨by decide +kernel, (mw (i := 1758) (by decide +kernel) rfl), (mw (i := 64) (by decide +kernel) rfl), by decide +kernel, by decide +kernel⟩
theorem fl_RX10_10 : Fl RX10 10 10 0 (.object "java/util/ArrayList") true := ⟨RX10, TX10, 8, tyX10, rfl, by decide, rfl, lay_10, (mw (i := 1521) (by decide +kernel) rfl), tyX10_ok, nmX10, tyX10_ok 0 (by decide), rfl, by decide, fun _ => rfl⟩
theorem fl_RX10_18 : Fl RX10 18 10 7 (.object "java/lang/String") false := ⟨RX10, TX10, 8, tyX10, rfl, by decide, rfl, lay_10, (mw (i := 1530) (by decide +kernel) rfl), tyX10_ok, nmX10, tyX10_ok 7 (by decide), rfl, by decide, by decide⟩
theorem fl_RX11_12 : Fl RX11 12 13 4 (.object "java/util/ArrayList") true := ⟨RX11, TX11, 7, tyX11, rfl, by decide, rfl, lay_13, (mw (i := 1282) (by decide +kernel) rfl), tyX11_ok, nmX11, tyX11_ok 4 (by decide), rfl, by decide, fun _ => rfl⟩
theorem fl_RX11_18 : Fl RX11 18 13 5 (.object "java/util/ArrayList") true := ⟨RX11, TX11, 7, tyX11, rfl, by decide, rfl, lay_13, (mw (i := 1283) (by decide +kernel) rfl), tyX11_ok, nmX11, tyX11_ok 5 (by decide), rfl, by decide, fun _ => rfl⟩
theorem fl_RX11_21 : Fl RX11 21 13 6 (.array .int) true := ⟨RX11, TX11, 7, tyX11, rfl, by decide, rfl, lay_13, (mw (i := 1284) (by decide +kernel) rfl), tyX11_ok, nmX11, tyX11_ok 6 (by decide), rfl, by decide, fun _ => rfl⟩
theorem fl_RX11_26 : Fl RX11 26 13 0 .int false := ⟨RX11, TX11, 7, tyX11, rfl, by decide, rfl, lay_13, (mw (i := 1276) (by decide +kernel) rfl), tyX11_ok, nmX11, tyX11_ok 0 (by decide), rfl, by decide, by decide⟩
theorem fl_RX11_33 : Fl RX11 33 13 2 .int false := ⟨RX11, TX11, 7, tyX11, rfl, by decide, rfl, lay_13, (mw (i := 1279) (by decide +kernel) rfl), tyX11_ok, nmX11, tyX11_ok 2 (by decide), rfl, by decide, by decide⟩
theorem fl_RX12_9 : Fl RX12 9 14 3 (.object "java/lang/String") false := ⟨RX12, TX12, 4, tyX12, rfl, by decide, rfl, lay_14, (mw (i := 1678) (by decide +kernel) rfl), tyX12_ok, nmX12, tyX12_ok 3 (by decide), rfl, by decide, by decide⟩
theorem fl_RX12_15 : Fl RX12 15 14 0 (.object "java/lang/String") true := ⟨RX12, TX12, 4, tyX12, rfl, by decide, rfl, lay_14, (mw (i := 1674) (by decide +kernel) rfl), tyX12_ok, nmX12, tyX12_ok 0 (by decide), rfl, by decide, fun _ => rfl⟩
theorem fl_RX12_18 : Fl RX12 18 14 1 (.array .int) true := ⟨RX12, TX12, 4, tyX12, rfl, by decide, rfl, lay_14, (mw (i := 1675) (by decide +kernel) rfl), tyX12_ok, nmX12, tyX12_ok 1 (by decide), rfl, by decide, fun _ => rfl⟩
theorem fn_RL_43 : FlN RL 43 13 0 .int false := ⟨RX11, TX11, 7, tyX11, "NotaryBookLaw", rfl, by decide, rfl, lay_13, (mn (i := 1277) (by decide +kernel) rfl), tyX11_ok, nmX11, tyX11_ok 0 (by decide), rfl, by decide⟩
theorem fn_RL_49 : FlN RL 49 13 1 .int false := ⟨RX11, TX11, 7, tyX11, "NotaryBookLaw", rfl, by decide, rfl, lay_13, (mn (i := 1278) (by decide +kernel) rfl), tyX11_ok, nmX11, tyX11_ok 1 (by decide), rfl, by decide⟩
theorem fn_RL_52 : FlN RL 52 13 2 .int false := ⟨RX11, TX11, 7, tyX11, "NotaryBookLaw", rfl, by decide, rfl, lay_13, (mn (i := 1280) (by decide +kernel) rfl), tyX11_ok, nmX11, tyX11_ok 2 (by decide), rfl, by decide⟩
theorem fn_RL_85 : FlN RL 85 10 7 (.object "java/lang/String") false := ⟨RX10, TX10, 8, tyX10, "NotaryBookLaw", rfl, by decide, rfl, lay_10, (mn (i := 1531) (by decide +kernel) rfl), tyX10_ok, nmX10, tyX10_ok 7 (by decide), rfl, by decide⟩
theorem fn_RL_91 : FlN RL 91 10 0 (.object "java/util/ArrayList") true := ⟨RX10, TX10, 8, tyX10, "NotaryBookLaw", rfl, by decide, rfl, lay_10, (mn (i := 1523) (by decide +kernel) rfl), tyX10_ok, nmX10, tyX10_ok 0 (by decide), rfl, by decide⟩
theorem fn_RL_103 : FlN RL 103 14 2 .boolean false := ⟨RX12, TX12, 4, tyX12, "NotaryBookLaw", rfl, by decide, rfl, lay_14, (mn (i := 1677) (by decide +kernel) rfl), tyX12_ok, nmX12, tyX12_ok 2 (by decide), rfl, by decide⟩
theorem fn_RL_107 : FlN RL 107 10 4 .int false := ⟨RX10, TX10, 8, tyX10, "NotaryBookLaw", rfl, by decide, rfl, lay_10, (mn (i := 1527) (by decide +kernel) rfl), tyX10_ok, nmX10, tyX10_ok 4 (by decide), rfl, by decide⟩
theorem fn_RL_114 : FlN RL 114 14 3 (.object "java/lang/String") false := ⟨RX12, TX12, 4, tyX12, "NotaryBookLaw", rfl, by decide, rfl, lay_14, (mn (i := 1679) (by decide +kernel) rfl), tyX12_ok, nmX12, tyX12_ok 3 (by decide), rfl, by decide⟩
theorem fn_RL_119 : FlN RL 119 10 2 .int false := ⟨RX10, TX10, 8, tyX10, "NotaryBookLaw", rfl, by decide, rfl, lay_10, (mn (i := 1525) (by decide +kernel) rfl), tyX10_ok, nmX10, tyX10_ok 2 (by decide), rfl, by decide⟩
theorem fn_RL_122 : FlN RL 122 10 3 .int false := ⟨RX10, TX10, 8, tyX10, "NotaryBookLaw", rfl, by decide, rfl, lay_10, (mn (i := 1526) (by decide +kernel) rfl), tyX10_ok, nmX10, tyX10_ok 3 (by decide), rfl, by decide⟩
theorem fn_RL_128 : FlN RL 128 10 5 .int false := ⟨RX10, TX10, 8, tyX10, "NotaryBookLaw", rfl, by decide, rfl, lay_10, (mn (i := 1528) (by decide +kernel) rfl), tyX10_ok, nmX10, tyX10_ok 5 (by decide), rfl, by decide⟩
theorem fn_RL_131 : FlN RL 131 13 3 .int false := ⟨RX11, TX11, 7, tyX11, "NotaryBookLaw", rfl, by decide, rfl, lay_13, (mn (i := 1281) (by decide +kernel) rfl), tyX11_ok, nmX11, tyX11_ok 3 (by decide), rfl, by decide⟩
theorem fn_RX10_60 : FlN RX10 60 14 2 .boolean false := ⟨RX12, TX12, 4, tyX12, "NotaryBookLaw", rfl, by decide, rfl, lay_14, (mn (i := 1676) (by decide +kernel) rfl), tyX12_ok, nmX12, tyX12_ok 2 (by decide), rfl, by decide⟩
theorem fn_RX11_64 : FlN RX11 64 10 0 (.object "java/util/ArrayList") true := ⟨RX10, TX10, 8, tyX10, "NotaryBookLaw", rfl, by decide, rfl, lay_10, (mn (i := 1522) (by decide +kernel) rfl), tyX10_ok, nmX10, tyX10_ok 0 (by decide), rfl, by decide⟩
theorem fn_RX11_123 : FlN RX11 123 10 1 .int false := ⟨RX10, TX10, 8, tyX10, "NotaryBookLaw", rfl, by decide, rfl, lay_10, (mn (i := 1524) (by decide +kernel) rfl), tyX10_ok, nmX10, tyX10_ok 1 (by decide), rfl, by decide⟩
theorem fn_RX11_135 : FlN RX11 135 10 6 .int false := ⟨RX10, TX10, 8, tyX10, "NotaryBookLaw", rfl, by decide, rfl, lay_10, (mn (i := 1529) (by decide +kernel) rfl), tyX10_ok, nmX10, tyX10_ok 6 (by decide), rfl, by decide⟩
theorem fn_RX11_160 : FlN RX11 160 10 7 (.object "java/lang/String") false := ⟨RX10, TX10, 8, tyX10, "NotaryBookLaw", rfl, by decide, rfl, lay_10, (mn (i := 1532) (by decide +kernel) rfl), tyX10_ok, nmX10, tyX10_ok 7 (by decide), rfl, by decide⟩
theorem cc_RL_101 : Cond.classLink RL 101 "NotaryBookLaw$Word" ∈ ALLw := (mw (i := 1744) (by decide +kernel) rfl)
theorem cc_RX10_31 : Cond.classLink RX10 31 "NotaryBookLaw$Word" ∈ ALLw := (mw (i := 1754) (by decide +kernel) rfl)
theorem cc_RX11_47 : Cond.classLink RX11 47 "NotaryBookLaw$Act" ∈ ALLw := (mw (i := 1512) (by decide +kernel) rfl)
theorem lf_RL_25 : LF RL 25 xCsLen yJ0_length_8abf5 := ⟨(mw (i := 1307) (by decide +kernel) rfl), (mw (i := 1311) (by decide +kernel) rfl), (mw (i := 588) (by decide +kernel) rfl), by decide +kernel, by decide +kernel, by first | exact Or.inl ⟨rfl, rfl⟩ | exact Or.inr ⟨rfl, rfl⟩⟩
theorem lf_RL_31 : LF RL 31 xCsAt yJ0_charAt_5068e := ⟨(mw (i := 1324) (by decide +kernel) rfl), (mw (i := 1327) (by decide +kernel) rfl), (mw (i := 597) (by decide +kernel) rfl), by decide +kernel, by decide +kernel, by first | exact Or.inl ⟨rfl, rfl⟩ | exact Or.inr ⟨rfl, rfl⟩⟩
theorem lk_RL_7 : LSt RL 7 yL_flush := ⟨(mw (i := 1344) (by decide +kernel) rfl), (mw (i := 1345) (by decide +kernel) rfl)⟩
theorem lk_RL_13 : LV RL 13 yX9_append := ⟨(mw (i := 1347) (by decide +kernel) rfl), (mw (i := 1348) (by decide +kernel) rfl), (mw (i := 1349) (by decide +kernel) rfl)⟩
theorem lk_RL_21 : LSt RL 21 yL_put := ⟨(mw (i := 1341) (by decide +kernel) rfl), (mw (i := 1342) (by decide +kernel) rfl)⟩
theorem lk_RL_35 : LSt RL 35 yL_said := ⟨(mw (i := 1355) (by decide +kernel) rfl), (mw (i := 1356) (by decide +kernel) rfl)⟩
theorem lk_RL_39 : LSt RL 39 yL_cell := ⟨(mw (i := 1300) (by decide +kernel) rfl), (mw (i := 1301) (by decide +kernel) rfl)⟩
theorem lk_RL_59 : LI RL 59 yJ4_init_a7421 := ⟨(mw (i := 1363) (by decide +kernel) rfl), (mw (i := 1364) (by decide +kernel) rfl), rfl⟩
theorem lk_RL_62 : LV RL 62 yJ4_append_bf812 := ⟨(mw (i := 1470) (by decide +kernel) rfl), (mw (i := 1471) (by decide +kernel) rfl), (mw (i := 1472) (by decide +kernel) rfl)⟩
theorem lk_RL_65 : LV RL 65 yJ4_append_cf468 := ⟨(mw (i := 1495) (by decide +kernel) rfl), (mw (i := 1496) (by decide +kernel) rfl), (mw (i := 1497) (by decide +kernel) rfl)⟩
theorem lk_RL_68 : LV RL 68 yX11_begin := ⟨(mw (i := 1508) (by decide +kernel) rfl), (mw (i := 1509) (by decide +kernel) rfl), (mw (i := 1510) (by decide +kernel) rfl)⟩
theorem lk_RL_74 : LV RL 74 yJ4_append_15ec4 := ⟨(mw (i := 1740) (by decide +kernel) rfl), (mw (i := 1380) (by decide +kernel) rfl), (mw (i := 1381) (by decide +kernel) rfl)⟩
theorem lk_RL_79 : LV RL 79 yJ0_substring_37a41 := ⟨(mw (i := 1742) (by decide +kernel) rfl), (mw (i := 1615) (by decide +kernel) rfl), (mw (i := 1616) (by decide +kernel) rfl)⟩
theorem lk_RL_95 : LV RL 95 yJx4a65c_get_915e3 := ⟨(mw (i := 1743) (by decide +kernel) rfl), (mw (i := 1699) (by decide +kernel) rfl), (mw (i := 1700) (by decide +kernel) rfl)⟩
theorem lk_RL_125 : LV RL 125 yX10_standing := ⟨(mw (i := 1748) (by decide +kernel) rfl), (mw (i := 1749) (by decide +kernel) rfl), (mw (i := 1750) (by decide +kernel) rfl)⟩
theorem lk_RL_136 : LV RL 136 yJ4_toString_0e30d := ⟨(mw (i := 1762) (by decide +kernel) rfl), (mw (i := 1719) (by decide +kernel) rfl), (mw (i := 1720) (by decide +kernel) rfl)⟩
theorem lk_RL_152 : LV RL 152 yX9_act := ⟨(mw (i := 981) (by decide +kernel) rfl), (mw (i := 982) (by decide +kernel) rfl), (mw (i := 983) (by decide +kernel) rfl)⟩
theorem lk_RL_156 : LV RL 156 yX9_word := ⟨(mw (i := 1004) (by decide +kernel) rfl), (mw (i := 1005) (by decide +kernel) rfl), (mw (i := 1006) (by decide +kernel) rfl)⟩
theorem lk_RL_189 : LV RL 189 yX9_copy := ⟨(mw (i := 1048) (by decide +kernel) rfl), (mw (i := 1049) (by decide +kernel) rfl), (mw (i := 1050) (by decide +kernel) rfl)⟩
theorem lk_RL_206 : LV RL 206 yX9_count := ⟨(mw (i := 932) (by decide +kernel) rfl), (mw (i := 933) (by decide +kernel) rfl), (mw (i := 934) (by decide +kernel) rfl)⟩
theorem lk_RL_300 : LV RL 300 yX9_has := ⟨(mw (i := 1766) (by decide +kernel) rfl), (mw (i := 1767) (by decide +kernel) rfl), (mw (i := 1768) (by decide +kernel) rfl)⟩
theorem lk_RX10_9 : LI RX10 9 yJx4a65c_init_da8c8 := ⟨(mw (i := 1519) (by decide +kernel) rfl), (mw (i := 1253) (by decide +kernel) rfl), rfl⟩
theorem lk_RX10_23 : LV RX10 23 yJx4a65c_size_8abf5 := ⟨(mw (i := 1752) (by decide +kernel) rfl), (mw (i := 1695) (by decide +kernel) rfl), (mw (i := 1696) (by decide +kernel) rfl)⟩
theorem lk_RX10_27 : LV RX10 27 yJx4a65c_get_915e3 := ⟨(mw (i := 1753) (by decide +kernel) rfl), (mw (i := 1699) (by decide +kernel) rfl), (mw (i := 1700) (by decide +kernel) rfl)⟩
theorem lk_RX10_64 : LV RX10 64 yX12_inners := ⟨(mw (i := 1755) (by decide +kernel) rfl), (mw (i := 1756) (by decide +kernel) rfl), (mw (i := 1757) (by decide +kernel) rfl)⟩
theorem lk_RX11_11 : LI RX11 11 yJx4a65c_init_da8c8 := ⟨(mw (i := 1252) (by decide +kernel) rfl), (mw (i := 1253) (by decide +kernel) rfl), rfl⟩
theorem lk_RX11_39 : LV RX11 39 yJx4a65c_size_8abf5 := ⟨(mw (i := 1694) (by decide +kernel) rfl), (mw (i := 1695) (by decide +kernel) rfl), (mw (i := 1696) (by decide +kernel) rfl)⟩
theorem lk_RX11_43 : LV RX11 43 yJx4a65c_get_915e3 := ⟨(mw (i := 1698) (by decide +kernel) rfl), (mw (i := 1699) (by decide +kernel) rfl), (mw (i := 1700) (by decide +kernel) rfl)⟩
theorem lk_RX11_53 : LV RX11 53 yJx4a65c_add_9ea2d := ⟨(mw (i := 1552) (by decide +kernel) rfl), (mw (i := 1553) (by decide +kernel) rfl), (mw (i := 1554) (by decide +kernel) rfl)⟩
theorem lk_RX11_67 : LV RX11 67 yX11_words := ⟨(mw (i := 1690) (by decide +kernel) rfl), (mw (i := 1691) (by decide +kernel) rfl), (mw (i := 1692) (by decide +kernel) rfl)⟩
theorem lk_RX11_73 : LV RX11 73 yX11_many := ⟨(mw (i := 1714) (by decide +kernel) rfl), (mw (i := 1715) (by decide +kernel) rfl), (mw (i := 1716) (by decide +kernel) rfl)⟩
theorem lk_RX11_76 : LV RX11 76 yX11_mate := ⟨(mw (i := 1710) (by decide +kernel) rfl), (mw (i := 1711) (by decide +kernel) rfl), (mw (i := 1712) (by decide +kernel) rfl)⟩
theorem lk_RX11_122 : LNI RX11 "NotaryBookLaw" 122 yX10_init := ⟨(mn (i := 1514) (by decide +kernel) rfl), (mw (i := 1515) (by decide +kernel) rfl), rfl⟩
theorem lk_RX11_128 : LI RX11 128 yJ4_init_da8c8 := ⟨(mw (i := 1551) (by decide +kernel) rfl), (mw (i := 383) (by decide +kernel) rfl), rfl⟩
theorem lk_RX11_129 : LSt RX11 129 yJ7_copyOf_59c91 := ⟨(mw (i := 1604) (by decide +kernel) rfl), (mw (i := 1605) (by decide +kernel) rfl)⟩
theorem lk_RX11_138 : LV RX11 138 yJ4_append_cf468 := ⟨(mw (i := 1612) (by decide +kernel) rfl), (mw (i := 1496) (by decide +kernel) rfl), (mw (i := 1497) (by decide +kernel) rfl)⟩
theorem lk_RX11_144 : LV RX11 144 yJ0_substring_37a41 := ⟨(mw (i := 1614) (by decide +kernel) rfl), (mw (i := 1615) (by decide +kernel) rfl), (mw (i := 1616) (by decide +kernel) rfl)⟩
theorem lk_RX11_150 : LI RX11 150 yX12_init := ⟨(mw (i := 1669) (by decide +kernel) rfl), (mw (i := 1670) (by decide +kernel) rfl), rfl⟩
theorem lk_RX11_153 : LV RX11 153 yJ4_append_15ec4 := ⟨(mw (i := 1689) (by decide +kernel) rfl), (mw (i := 1380) (by decide +kernel) rfl), (mw (i := 1381) (by decide +kernel) rfl)⟩
theorem lk_RX11_156 : LV RX11 156 yJ4_toString_0e30d := ⟨(mw (i := 1718) (by decide +kernel) rfl), (mw (i := 1719) (by decide +kernel) rfl), (mw (i := 1720) (by decide +kernel) rfl)⟩
theorem lk_RX12_29 : LV RX12 29 yJ0_length_8abf5 := ⟨(mw (i := 1759) (by decide +kernel) rfl), (mw (i := 588) (by decide +kernel) rfl), (mw (i := 589) (by decide +kernel) rfl)⟩
theorem lk_RX12_35 : LV RX12 35 yJ0_charAt_5068e := ⟨(mw (i := 1760) (by decide +kernel) rfl), (mw (i := 597) (by decide +kernel) rfl), (mw (i := 598) (by decide +kernel) rfl)⟩
theorem nw_RL_55 : NW RL 55 11 := ⟨RJ4, TJ4, 4, tyJ4, rfl, rfl, lay_11, tyJ4_ok, (mw (i := 1361) (by decide +kernel) rfl), (mw (i := 381) (by decide +kernel) rfl), (mw (i := 48) (by decide +kernel) rfl), by decide, dv_11⟩
theorem nw_RX10_7 : NW RX10 7 12 := ⟨RJx4a65c, TJx4a65c, 3, tyJx4a65c, rfl, rfl, lay_12, tyJx4a65c_ok, (mw (i := 1518) (by decide +kernel) rfl), (mw (i := 1251) (by decide +kernel) rfl), (mw (i := 54) (by decide +kernel) rfl), by decide, dv_12⟩
theorem nw_RX11_9 : NW RX11 9 12 := ⟨RJx4a65c, TJx4a65c, 3, tyJx4a65c, rfl, rfl, lay_12, tyJx4a65c_ok, (mw (i := 1250) (by decide +kernel) rfl), (mw (i := 1251) (by decide +kernel) rfl), (mw (i := 54) (by decide +kernel) rfl), by decide, dv_12⟩
theorem nw_RX11_47 : NW RX11 47 10 := ⟨RX10, TX10, 8, tyX10, rfl, rfl, lay_10, tyX10_ok, (mw (i := 1512) (by decide +kernel) rfl), (mw (i := 1513) (by decide +kernel) rfl), (mw (i := 63) (by decide +kernel) rfl), by decide, dv_10⟩
theorem nw_RX11_113 : NW RX11 113 14 := ⟨RX12, TX12, 4, tyX12, rfl, rfl, lay_14, tyX12_ok, (mw (i := 1667) (by decide +kernel) rfl), (mw (i := 1668) (by decide +kernel) rfl), (mw (i := 64) (by decide +kernel) rfl), by decide, dv_14⟩
theorem nw_RX11_126 : NW RX11 126 11 := ⟨RJ4, TJ4, 4, tyJ4, rfl, rfl, lay_11, tyJ4_ok, (mw (i := 1550) (by decide +kernel) rfl), (mw (i := 381) (by decide +kernel) rfl), (mw (i := 48) (by decide +kernel) rfl), by decide, dv_11⟩
theorem obj_RX10_1 : OBW RX10 1 := ⟨(mw (i := 1517) (by decide +kernel) rfl), (mw (i := 81) (by decide +kernel) rfl), (mw (i := 82) (by decide +kernel) rfl)⟩
theorem obj_RX11_3 : OBW RX11 3 := ⟨(mw (i := 1249) (by decide +kernel) rfl), (mw (i := 81) (by decide +kernel) rfl), (mw (i := 82) (by decide +kernel) rfl)⟩
theorem obj_RX12_1 : OBW RX12 1 := ⟨(mw (i := 1672) (by decide +kernel) rfl), (mw (i := 81) (by decide +kernel) rfl), (mw (i := 82) (by decide +kernel) rfl)⟩
theorem dX10_init_0 : decode cX10_init 0 = .ok (.aload_n 0, 1) := by decide +kernel
theorem dX10_init_1 : decode cX10_init 1 = .ok (.invokespecial 1, 3) := by decide +kernel
theorem dX10_init_4 : decode cX10_init 4 = .ok (.aload_n 0, 1) := by decide +kernel
theorem dX10_init_5 : decode cX10_init 5 = .ok (.new 7, 3) := by decide +kernel
theorem dX10_init_8 : decode cX10_init 8 = .ok (.dup, 1) := by decide +kernel
theorem dX10_init_9 : decode cX10_init 9 = .ok (.invokespecial 9, 3) := by decide +kernel
theorem dX10_init_12 : decode cX10_init 12 = .ok (.putfield 10, 3) := by decide +kernel
theorem dX10_init_15 : decode cX10_init 15 = .ok (.aload_n 0, 1) := by decide +kernel
theorem dX10_init_16 : decode cX10_init 16 = .ok (.ldc 16, 2) := by decide +kernel
theorem dX10_init_18 : decode cX10_init 18 = .ok (.putfield 18, 3) := by decide +kernel
theorem dX10_init_21 : decode cX10_init 21 = .ok (.return_, 1) := by decide +kernel
theorem dX12_inners_0 : decode cX12_inners 0 = .ok (.iconst 0, 1) := by decide +kernel
theorem dX12_inners_1 : decode cX12_inners 1 = .ok (.istore_n 1, 1) := by decide +kernel
theorem dX12_inners_2 : decode cX12_inners 2 = .ok (.iconst 0, 1) := by decide +kernel
theorem dX12_inners_3 : decode cX12_inners 3 = .ok (.istore_n 2, 1) := by decide +kernel
theorem dX12_inners_4 : decode cX12_inners 4 = .ok (.iload_n 2, 1) := by decide +kernel
theorem dX12_inners_5 : decode cX12_inners 5 = .ok (.aload_n 0, 1) := by decide +kernel
theorem dX12_inners_6 : decode cX12_inners 6 = .ok (.getfield 9, 3) := by decide +kernel
theorem dX12_inners_9 : decode cX12_inners 9 = .ok (.invokevirtual 29, 3) := by decide +kernel
theorem dX12_inners_12 : decode cX12_inners 12 = .ok (.if_icmp .ge 25, 3) := by decide +kernel
theorem dX12_inners_15 : decode cX12_inners 15 = .ok (.aload_n 0, 1) := by decide +kernel
theorem dX12_inners_16 : decode cX12_inners 16 = .ok (.getfield 9, 3) := by decide +kernel
theorem dX12_inners_19 : decode cX12_inners 19 = .ok (.iload_n 2, 1) := by decide +kernel
theorem dX12_inners_20 : decode cX12_inners 20 = .ok (.invokevirtual 35, 3) := by decide +kernel
theorem dX12_inners_23 : decode cX12_inners 23 = .ok (.bipush 94, 2) := by decide +kernel
theorem dX12_inners_25 : decode cX12_inners 25 = .ok (.if_icmp .ne 6, 3) := by decide +kernel
theorem dX12_inners_28 : decode cX12_inners 28 = .ok (.iinc 1 1, 3) := by decide +kernel
theorem dX12_inners_31 : decode cX12_inners 31 = .ok (.iinc 2 1, 3) := by decide +kernel
theorem dX12_inners_34 : decode cX12_inners 34 = .ok (.goto (-30), 3) := by decide +kernel
theorem dX12_inners_37 : decode cX12_inners 37 = .ok (.iload_n 1, 1) := by decide +kernel
theorem dX12_inners_38 : decode cX12_inners 38 = .ok (.ireturn, 1) := by decide +kernel
theorem dX10_standing_0 : decode cX10_standing 0 = .ok (.iconst 0, 1) := by decide +kernel
theorem dX10_standing_1 : decode cX10_standing 1 = .ok (.istore_n 1, 1) := by decide +kernel
theorem dX10_standing_2 : decode cX10_standing 2 = .ok (.iconst 0, 1) := by decide +kernel
theorem dX10_standing_3 : decode cX10_standing 3 = .ok (.istore_n 2, 1) := by decide +kernel
theorem dX10_standing_4 : decode cX10_standing 4 = .ok (.iload_n 2, 1) := by decide +kernel
theorem dX10_standing_5 : decode cX10_standing 5 = .ok (.aload_n 0, 1) := by decide +kernel
theorem dX10_standing_6 : decode cX10_standing 6 = .ok (.getfield 10, 3) := by decide +kernel
theorem dX10_standing_9 : decode cX10_standing 9 = .ok (.invokevirtual 23, 3) := by decide +kernel
theorem dX10_standing_12 : decode cX10_standing 12 = .ok (.if_icmp .ge 49, 3) := by decide +kernel
theorem dX10_standing_15 : decode cX10_standing 15 = .ok (.iload_n 1, 1) := by decide +kernel
theorem dX10_standing_16 : decode cX10_standing 16 = .ok (.aload_n 0, 1) := by decide +kernel
theorem dX10_standing_17 : decode cX10_standing 17 = .ok (.getfield 10, 3) := by decide +kernel
theorem dX10_standing_20 : decode cX10_standing 20 = .ok (.iload_n 2, 1) := by decide +kernel
theorem dX10_standing_21 : decode cX10_standing 21 = .ok (.invokevirtual 27, 3) := by decide +kernel
theorem dX10_standing_24 : decode cX10_standing 24 = .ok (.checkcast 31, 3) := by decide +kernel
theorem dX10_standing_27 : decode cX10_standing 27 = .ok (.getfield 60, 3) := by decide +kernel
theorem dX10_standing_30 : decode cX10_standing 30 = .ok (.ifCond .eq 7, 3) := by decide +kernel
theorem dX10_standing_33 : decode cX10_standing 33 = .ok (.iconst 0, 1) := by decide +kernel
theorem dX10_standing_34 : decode cX10_standing 34 = .ok (.goto 4, 3) := by decide +kernel
theorem dX10_standing_37 : decode cX10_standing 37 = .ok (.iconst 1, 1) := by decide +kernel
theorem dX10_standing_38 : decode cX10_standing 38 = .ok (.aload_n 0, 1) := by decide +kernel
theorem dX10_standing_39 : decode cX10_standing 39 = .ok (.getfield 10, 3) := by decide +kernel
theorem dX10_standing_42 : decode cX10_standing 42 = .ok (.iload_n 2, 1) := by decide +kernel
theorem dX10_standing_43 : decode cX10_standing 43 = .ok (.invokevirtual 27, 3) := by decide +kernel
theorem dX10_standing_46 : decode cX10_standing 46 = .ok (.checkcast 31, 3) := by decide +kernel
theorem dX10_standing_49 : decode cX10_standing 49 = .ok (.invokevirtual 64, 3) := by decide +kernel
theorem dX10_standing_52 : decode cX10_standing 52 = .ok (.iadd, 1) := by decide +kernel
theorem dX10_standing_53 : decode cX10_standing 53 = .ok (.iadd, 1) := by decide +kernel
theorem dX10_standing_54 : decode cX10_standing 54 = .ok (.istore_n 1, 1) := by decide +kernel
theorem dX10_standing_55 : decode cX10_standing 55 = .ok (.iinc 2 1, 3) := by decide +kernel
theorem dX10_standing_58 : decode cX10_standing 58 = .ok (.goto (-54), 3) := by decide +kernel
theorem dX10_standing_61 : decode cX10_standing 61 = .ok (.iload_n 1, 1) := by decide +kernel
theorem dX10_standing_62 : decode cX10_standing 62 = .ok (.ireturn, 1) := by decide +kernel
theorem dX11_init_0 : decode cX11_init 0 = .ok (.aload_n 0, 1) := by decide +kernel
theorem dX11_init_1 : decode cX11_init 1 = .ok (.invokespecial 3, 3) := by decide +kernel
theorem dX11_init_4 : decode cX11_init 4 = .ok (.aload_n 0, 1) := by decide +kernel
theorem dX11_init_5 : decode cX11_init 5 = .ok (.new 9, 3) := by decide +kernel
theorem dX11_init_8 : decode cX11_init 8 = .ok (.dup, 1) := by decide +kernel
theorem dX11_init_9 : decode cX11_init 9 = .ok (.invokespecial 11, 3) := by decide +kernel
theorem dX11_init_12 : decode cX11_init 12 = .ok (.putfield 12, 3) := by decide +kernel
theorem dX11_init_15 : decode cX11_init 15 = .ok (.aload_n 0, 1) := by decide +kernel
theorem dX11_init_16 : decode cX11_init 16 = .ok (.new 9, 3) := by decide +kernel
theorem dX11_init_19 : decode cX11_init 19 = .ok (.dup, 1) := by decide +kernel
theorem dX11_init_20 : decode cX11_init 20 = .ok (.invokespecial 11, 3) := by decide +kernel
theorem dX11_init_23 : decode cX11_init 23 = .ok (.putfield 18, 3) := by decide +kernel
theorem dX11_init_26 : decode cX11_init 26 = .ok (.aload_n 0, 1) := by decide +kernel
theorem dX11_init_27 : decode cX11_init 27 = .ok (.bipush 12, 2) := by decide +kernel
theorem dX11_init_29 : decode cX11_init 29 = .ok (.newarray .int, 2) := by decide +kernel
theorem dX11_init_31 : decode cX11_init 31 = .ok (.putfield 21, 3) := by decide +kernel
theorem dX11_init_34 : decode cX11_init 34 = .ok (.return_, 1) := by decide +kernel
theorem dX11_words_0 : decode cX11_words 0 = .ok (.iconst 0, 1) := by decide +kernel
theorem dX11_words_1 : decode cX11_words 1 = .ok (.istore_n 1, 1) := by decide +kernel
theorem dX11_words_2 : decode cX11_words 2 = .ok (.iconst 0, 1) := by decide +kernel
theorem dX11_words_3 : decode cX11_words 3 = .ok (.istore_n 2, 1) := by decide +kernel
theorem dX11_words_4 : decode cX11_words 4 = .ok (.iload_n 2, 1) := by decide +kernel
theorem dX11_words_5 : decode cX11_words 5 = .ok (.aload_n 0, 1) := by decide +kernel
theorem dX11_words_6 : decode cX11_words 6 = .ok (.getfield 12, 3) := by decide +kernel
theorem dX11_words_9 : decode cX11_words 9 = .ok (.invokevirtual 39, 3) := by decide +kernel
theorem dX11_words_12 : decode cX11_words 12 = .ok (.if_icmp .ge 29, 3) := by decide +kernel
theorem dX11_words_15 : decode cX11_words 15 = .ok (.iload_n 1, 1) := by decide +kernel
theorem dX11_words_16 : decode cX11_words 16 = .ok (.aload_n 0, 1) := by decide +kernel
theorem dX11_words_17 : decode cX11_words 17 = .ok (.getfield 12, 3) := by decide +kernel
theorem dX11_words_20 : decode cX11_words 20 = .ok (.iload_n 2, 1) := by decide +kernel
theorem dX11_words_21 : decode cX11_words 21 = .ok (.invokevirtual 43, 3) := by decide +kernel
theorem dX11_words_24 : decode cX11_words 24 = .ok (.checkcast 47, 3) := by decide +kernel
theorem dX11_words_27 : decode cX11_words 27 = .ok (.getfield 64, 3) := by decide +kernel
theorem dX11_words_30 : decode cX11_words 30 = .ok (.invokevirtual 39, 3) := by decide +kernel
theorem dX11_words_33 : decode cX11_words 33 = .ok (.iadd, 1) := by decide +kernel
theorem dX11_words_34 : decode cX11_words 34 = .ok (.istore_n 1, 1) := by decide +kernel
theorem dX11_words_35 : decode cX11_words 35 = .ok (.iinc 2 1, 3) := by decide +kernel
theorem dX11_words_38 : decode cX11_words 38 = .ok (.goto (-34), 3) := by decide +kernel
theorem dX11_words_41 : decode cX11_words 41 = .ok (.iload_n 1, 1) := by decide +kernel
theorem dX11_words_42 : decode cX11_words 42 = .ok (.ireturn, 1) := by decide +kernel
theorem dX11_many_0 : decode cX11_many 0 = .ok (.aload_n 0, 1) := by decide +kernel
theorem dX11_many_1 : decode cX11_many 1 = .ok (.invokevirtual 67, 3) := by decide +kernel
theorem dX11_many_4 : decode cX11_many 4 = .ok (.aload_n 0, 1) := by decide +kernel
theorem dX11_many_5 : decode cX11_many 5 = .ok (.getfield 26, 3) := by decide +kernel
theorem dX11_many_8 : decode cX11_many 8 = .ok (.iadd, 1) := by decide +kernel
theorem dX11_many_9 : decode cX11_many 9 = .ok (.iconst 1, 1) := by decide +kernel
theorem dX11_many_10 : decode cX11_many 10 = .ok (.isub, 1) := by decide +kernel
theorem dX11_many_11 : decode cX11_many 11 = .ok (.aload_n 0, 1) := by decide +kernel
theorem dX11_many_12 : decode cX11_many 12 = .ok (.getfield 26, 3) := by decide +kernel
theorem dX11_many_15 : decode cX11_many 15 = .ok (.idiv, 1) := by decide +kernel
theorem dX11_many_16 : decode cX11_many 16 = .ok (.ireturn, 1) := by decide +kernel
theorem dX11_mate_0 : decode cX11_mate 0 = .ok (.iload_n 1, 1) := by decide +kernel
theorem dX11_mate_1 : decode cX11_mate 1 = .ok (.iload_n 1, 1) := by decide +kernel
theorem dX11_mate_2 : decode cX11_mate 2 = .ok (.aload_n 0, 1) := by decide +kernel
theorem dX11_mate_3 : decode cX11_mate 3 = .ok (.getfield 33, 3) := by decide +kernel
theorem dX11_mate_6 : decode cX11_mate 6 = .ok (.irem, 1) := by decide +kernel
theorem dX11_mate_7 : decode cX11_mate 7 = .ok (.isub, 1) := by decide +kernel
theorem dX11_mate_8 : decode cX11_mate 8 = .ok (.aload_n 0, 1) := by decide +kernel
theorem dX11_mate_9 : decode cX11_mate 9 = .ok (.getfield 33, 3) := by decide +kernel
theorem dX11_mate_12 : decode cX11_mate 12 = .ok (.iadd, 1) := by decide +kernel
theorem dX11_mate_13 : decode cX11_mate 13 = .ok (.iconst 1, 1) := by decide +kernel
theorem dX11_mate_14 : decode cX11_mate 14 = .ok (.isub, 1) := by decide +kernel
theorem dX11_mate_15 : decode cX11_mate 15 = .ok (.iload_n 1, 1) := by decide +kernel
theorem dX11_mate_16 : decode cX11_mate 16 = .ok (.aload_n 0, 1) := by decide +kernel
theorem dX11_mate_17 : decode cX11_mate 17 = .ok (.getfield 33, 3) := by decide +kernel
theorem dX11_mate_20 : decode cX11_mate 20 = .ok (.irem, 1) := by decide +kernel
theorem dX11_mate_21 : decode cX11_mate 21 = .ok (.isub, 1) := by decide +kernel
theorem dX11_mate_22 : decode cX11_mate 22 = .ok (.istore_n 2, 1) := by decide +kernel
theorem dX11_mate_23 : decode cX11_mate 23 = .ok (.iload_n 2, 1) := by decide +kernel
theorem dX11_mate_24 : decode cX11_mate 24 = .ok (.iload_n 1, 1) := by decide +kernel
theorem dX11_mate_25 : decode cX11_mate 25 = .ok (.if_icmp .eq 11, 3) := by decide +kernel
theorem dX11_mate_28 : decode cX11_mate 28 = .ok (.iload_n 2, 1) := by decide +kernel
theorem dX11_mate_29 : decode cX11_mate 29 = .ok (.aload_n 0, 1) := by decide +kernel
theorem dX11_mate_30 : decode cX11_mate 30 = .ok (.invokevirtual 73, 3) := by decide +kernel
theorem dX11_mate_33 : decode cX11_mate 33 = .ok (.if_icmp .lt 7, 3) := by decide +kernel
theorem dX11_mate_36 : decode cX11_mate 36 = .ok (.iconst (-1), 1) := by decide +kernel
theorem dX11_mate_37 : decode cX11_mate 37 = .ok (.goto 4, 3) := by decide +kernel
theorem dX11_mate_40 : decode cX11_mate 40 = .ok (.iload_n 2, 1) := by decide +kernel
theorem dX11_mate_41 : decode cX11_mate 41 = .ok (.ireturn, 1) := by decide +kernel
theorem dX12_init_0 : decode cX12_init 0 = .ok (.aload_n 0, 1) := by decide +kernel
theorem dX12_init_1 : decode cX12_init 1 = .ok (.invokespecial 1, 3) := by decide +kernel
theorem dX12_init_4 : decode cX12_init 4 = .ok (.aload_n 0, 1) := by decide +kernel
theorem dX12_init_5 : decode cX12_init 5 = .ok (.ldc 7, 2) := by decide +kernel
theorem dX12_init_7 : decode cX12_init 7 = .ok (.putfield 9, 3) := by decide +kernel
theorem dX12_init_10 : decode cX12_init 10 = .ok (.aload_n 0, 1) := by decide +kernel
theorem dX12_init_11 : decode cX12_init 11 = .ok (.aload_n 1, 1) := by decide +kernel
theorem dX12_init_12 : decode cX12_init 12 = .ok (.putfield 15, 3) := by decide +kernel
theorem dX12_init_15 : decode cX12_init 15 = .ok (.aload_n 0, 1) := by decide +kernel
theorem dX12_init_16 : decode cX12_init 16 = .ok (.aload_n 2, 1) := by decide +kernel
theorem dX12_init_17 : decode cX12_init 17 = .ok (.putfield 18, 3) := by decide +kernel
theorem dX12_init_20 : decode cX12_init 20 = .ok (.return_, 1) := by decide +kernel
theorem dX11_begin_0 : decode cX11_begin 0 = .ok (.new 47, 3) := by decide +kernel
theorem dX11_begin_3 : decode cX11_begin 3 = .ok (.dup, 1) := by decide +kernel
theorem dX11_begin_4 : decode cX11_begin 4 = .ok (.invokespecial 122, 3) := by decide +kernel
theorem dX11_begin_7 : decode cX11_begin 7 = .ok (.astore_n 3, 1) := by decide +kernel
theorem dX11_begin_8 : decode cX11_begin 8 = .ok (.aload_n 3, 1) := by decide +kernel
theorem dX11_begin_9 : decode cX11_begin 9 = .ok (.iload_n 1, 1) := by decide +kernel
theorem dX11_begin_10 : decode cX11_begin 10 = .ok (.putfield 123, 3) := by decide +kernel
theorem dX11_begin_13 : decode cX11_begin 13 = .ok (.new 126, 3) := by decide +kernel
theorem dX11_begin_16 : decode cX11_begin 16 = .ok (.dup, 1) := by decide +kernel
theorem dX11_begin_17 : decode cX11_begin 17 = .ok (.invokespecial 128, 3) := by decide +kernel
theorem dX11_begin_20 : decode cX11_begin 20 = .ok (.astore 4, 2) := by decide +kernel
theorem dX11_begin_22 : decode cX11_begin 22 = .ok (.iconst 0, 1) := by decide +kernel
theorem dX11_begin_23 : decode cX11_begin 23 = .ok (.newarray .int, 2) := by decide +kernel
theorem dX11_begin_25 : decode cX11_begin 25 = .ok (.astore 5, 2) := by decide +kernel
theorem dX11_begin_27 : decode cX11_begin 27 = .ok (.aload_n 0, 1) := by decide +kernel
theorem dX11_begin_28 : decode cX11_begin 28 = .ok (.getfield 12, 3) := by decide +kernel
theorem dX11_begin_31 : decode cX11_begin 31 = .ok (.aload_n 3, 1) := by decide +kernel
theorem dX11_begin_32 : decode cX11_begin 32 = .ok (.invokevirtual 53, 3) := by decide +kernel
theorem dX11_begin_35 : decode cX11_begin 35 = .ok (.pop, 1) := by decide +kernel
theorem dX11_begin_36 : decode cX11_begin 36 = .ok (.iconst 0, 1) := by decide +kernel
theorem dX11_begin_37 : decode cX11_begin 37 = .ok (.istore 6, 2) := by decide +kernel
theorem dX11_begin_39 : decode cX11_begin 39 = .ok (.iload 6, 2) := by decide +kernel
theorem dX11_begin_41 : decode cX11_begin 41 = .ok (.iconst 2, 1) := by decide +kernel
theorem dX11_begin_42 : decode cX11_begin 42 = .ok (.iload_n 2, 1) := by decide +kernel
theorem dX11_begin_43 : decode cX11_begin 43 = .ok (.iconst 3, 1) := by decide +kernel
theorem dX11_begin_44 : decode cX11_begin 44 = .ok (.iand, 1) := by decide +kernel
theorem dX11_begin_45 : decode cX11_begin 45 = .ok (.iadd, 1) := by decide +kernel
theorem dX11_begin_46 : decode cX11_begin 46 = .ok (.if_icmp .ge 269, 3) := by decide +kernel
theorem dX11_begin_49 : decode cX11_begin 49 = .ok (.iload_n 2, 1) := by decide +kernel
theorem dX11_begin_50 : decode cX11_begin 50 = .ok (.iconst 2, 1) := by decide +kernel
theorem dX11_begin_51 : decode cX11_begin 51 = .ok (.iconst 5, 1) := by decide +kernel
theorem dX11_begin_52 : decode cX11_begin 52 = .ok (.iload 6, 2) := by decide +kernel
theorem dX11_begin_54 : decode cX11_begin 54 = .ok (.imul, 1) := by decide +kernel
theorem dX11_begin_55 : decode cX11_begin 55 = .ok (.iadd, 1) := by decide +kernel
theorem dX11_begin_56 : decode cX11_begin 56 = .ok (.iushr, 1) := by decide +kernel
theorem dX11_begin_57 : decode cX11_begin 57 = .ok (.bipush 31, 2) := by decide +kernel
theorem dX11_begin_59 : decode cX11_begin 59 = .ok (.iand, 1) := by decide +kernel
theorem dX11_begin_60 : decode cX11_begin 60 = .ok (.istore 7, 2) := by decide +kernel
theorem dX11_begin_62 : decode cX11_begin 62 = .ok (.iload 7, 2) := by decide +kernel
theorem dX11_begin_64 : decode cX11_begin 64 = .ok (.iconst 3, 1) := by decide +kernel
theorem dX11_begin_65 : decode cX11_begin 65 = .ok (.iand, 1) := by decide +kernel
theorem dX11_begin_66 : decode cX11_begin 66 = .ok (.ifCond .ne 49, 3) := by decide +kernel
theorem dX11_begin_69 : decode cX11_begin 69 = .ok (.aload 5, 2) := by decide +kernel
theorem dX11_begin_71 : decode cX11_begin 71 = .ok (.arraylength, 1) := by decide +kernel
theorem dX11_begin_72 : decode cX11_begin 72 = .ok (.iconst 4, 1) := by decide +kernel
theorem dX11_begin_73 : decode cX11_begin 73 = .ok (.if_icmp .ge 42, 3) := by decide +kernel
theorem dX11_begin_76 : decode cX11_begin 76 = .ok (.aload 5, 2) := by decide +kernel
theorem dX11_begin_78 : decode cX11_begin 78 = .ok (.aload 5, 2) := by decide +kernel
theorem dX11_begin_80 : decode cX11_begin 80 = .ok (.arraylength, 1) := by decide +kernel
theorem dX11_begin_81 : decode cX11_begin 81 = .ok (.iconst 1, 1) := by decide +kernel
theorem dX11_begin_82 : decode cX11_begin 82 = .ok (.iadd, 1) := by decide +kernel
theorem dX11_begin_83 : decode cX11_begin 83 = .ok (.invokestatic 129, 3) := by decide +kernel
theorem dX11_begin_86 : decode cX11_begin 86 = .ok (.astore 5, 2) := by decide +kernel
theorem dX11_begin_88 : decode cX11_begin 88 = .ok (.aload 5, 2) := by decide +kernel
theorem dX11_begin_90 : decode cX11_begin 90 = .ok (.aload 5, 2) := by decide +kernel
theorem dX11_begin_92 : decode cX11_begin 92 = .ok (.arraylength, 1) := by decide +kernel
theorem dX11_begin_93 : decode cX11_begin 93 = .ok (.iconst 1, 1) := by decide +kernel
theorem dX11_begin_94 : decode cX11_begin 94 = .ok (.isub, 1) := by decide +kernel
theorem dX11_begin_95 : decode cX11_begin 95 = .ok (.aload_n 3, 1) := by decide +kernel
theorem dX11_begin_96 : decode cX11_begin 96 = .ok (.dup, 1) := by decide +kernel
theorem dX11_begin_97 : decode cX11_begin 97 = .ok (.getfield 135, 3) := by decide +kernel
theorem dX11_begin_100 : decode cX11_begin 100 = .ok (.dup_x1, 1) := by decide +kernel
theorem dX11_begin_101 : decode cX11_begin 101 = .ok (.iconst 1, 1) := by decide +kernel
theorem dX11_begin_102 : decode cX11_begin 102 = .ok (.iadd, 1) := by decide +kernel
theorem dX11_begin_103 : decode cX11_begin 103 = .ok (.putfield 135, 3) := by decide +kernel
theorem dX11_begin_106 : decode cX11_begin 106 = .ok (.iastore, 1) := by decide +kernel
theorem dX11_begin_107 : decode cX11_begin 107 = .ok (.aload 4, 2) := by decide +kernel
theorem dX11_begin_109 : decode cX11_begin 109 = .ok (.bipush 40, 2) := by decide +kernel
theorem dX11_begin_111 : decode cX11_begin 111 = .ok (.invokevirtual 138, 3) := by decide +kernel
theorem dX11_begin_114 : decode cX11_begin 114 = .ok (.pop, 1) := by decide +kernel
theorem dX11_begin_115 : decode cX11_begin 115 = .ok (.ldc 142, 2) := by decide +kernel
theorem dX11_begin_117 : decode cX11_begin 117 = .ok (.iconst 4, 1) := by decide +kernel
theorem dX11_begin_118 : decode cX11_begin 118 = .ok (.iload 7, 2) := by decide +kernel
theorem dX11_begin_120 : decode cX11_begin 120 = .ok (.iconst 2, 1) := by decide +kernel
theorem dX11_begin_121 : decode cX11_begin 121 = .ok (.iushr, 1) := by decide +kernel
theorem dX11_begin_122 : decode cX11_begin 122 = .ok (.iconst 3, 1) := by decide +kernel
theorem dX11_begin_123 : decode cX11_begin 123 = .ok (.iand, 1) := by decide +kernel
theorem dX11_begin_124 : decode cX11_begin 124 = .ok (.imul, 1) := by decide +kernel
theorem dX11_begin_125 : decode cX11_begin 125 = .ok (.iconst 4, 1) := by decide +kernel
theorem dX11_begin_126 : decode cX11_begin 126 = .ok (.iload 7, 2) := by decide +kernel
theorem dX11_begin_128 : decode cX11_begin 128 = .ok (.iconst 2, 1) := by decide +kernel
theorem dX11_begin_129 : decode cX11_begin 129 = .ok (.iushr, 1) := by decide +kernel
theorem dX11_begin_130 : decode cX11_begin 130 = .ok (.iconst 3, 1) := by decide +kernel
theorem dX11_begin_131 : decode cX11_begin 131 = .ok (.iand, 1) := by decide +kernel
theorem dX11_begin_132 : decode cX11_begin 132 = .ok (.imul, 1) := by decide +kernel
theorem dX11_begin_133 : decode cX11_begin 133 = .ok (.iconst 2, 1) := by decide +kernel
theorem dX11_begin_134 : decode cX11_begin 134 = .ok (.iadd, 1) := by decide +kernel
theorem dX11_begin_135 : decode cX11_begin 135 = .ok (.iload 7, 2) := by decide +kernel
theorem dX11_begin_137 : decode cX11_begin 137 = .ok (.iconst 2, 1) := by decide +kernel
theorem dX11_begin_138 : decode cX11_begin 138 = .ok (.iushr, 1) := by decide +kernel
theorem dX11_begin_139 : decode cX11_begin 139 = .ok (.iconst 1, 1) := by decide +kernel
theorem dX11_begin_140 : decode cX11_begin 140 = .ok (.iand, 1) := by decide +kernel
theorem dX11_begin_141 : decode cX11_begin 141 = .ok (.iadd, 1) := by decide +kernel
theorem dX11_begin_142 : decode cX11_begin 142 = .ok (.invokevirtual 144, 3) := by decide +kernel
theorem dX11_begin_145 : decode cX11_begin 145 = .ok (.astore 8, 2) := by decide +kernel
theorem dX11_begin_147 : decode cX11_begin 147 = .ok (.aload_n 3, 1) := by decide +kernel
theorem dX11_begin_148 : decode cX11_begin 148 = .ok (.getfield 64, 3) := by decide +kernel
theorem dX11_begin_151 : decode cX11_begin 151 = .ok (.new 113, 3) := by decide +kernel
theorem dX11_begin_154 : decode cX11_begin 154 = .ok (.dup, 1) := by decide +kernel
theorem dX11_begin_155 : decode cX11_begin 155 = .ok (.aload 8, 2) := by decide +kernel
theorem dX11_begin_157 : decode cX11_begin 157 = .ok (.aload 5, 2) := by decide +kernel
theorem dX11_begin_159 : decode cX11_begin 159 = .ok (.invokespecial 150, 3) := by decide +kernel
theorem dX11_begin_162 : decode cX11_begin 162 = .ok (.invokevirtual 53, 3) := by decide +kernel
theorem dX11_begin_165 : decode cX11_begin 165 = .ok (.pop, 1) := by decide +kernel
theorem dX11_begin_166 : decode cX11_begin 166 = .ok (.aload 4, 2) := by decide +kernel
theorem dX11_begin_168 : decode cX11_begin 168 = .ok (.bipush 32, 2) := by decide +kernel
theorem dX11_begin_170 : decode cX11_begin 170 = .ok (.invokevirtual 138, 3) := by decide +kernel
theorem dX11_begin_173 : decode cX11_begin 173 = .ok (.aload 8, 2) := by decide +kernel
theorem dX11_begin_175 : decode cX11_begin 175 = .ok (.invokevirtual 153, 3) := by decide +kernel
theorem dX11_begin_178 : decode cX11_begin 178 = .ok (.pop, 1) := by decide +kernel
theorem dX11_begin_179 : decode cX11_begin 179 = .ok (.aload_n 0, 1) := by decide +kernel
theorem dX11_begin_180 : decode cX11_begin 180 = .ok (.invokevirtual 67, 3) := by decide +kernel
theorem dX11_begin_183 : decode cX11_begin 183 = .ok (.iconst 1, 1) := by decide +kernel
theorem dX11_begin_184 : decode cX11_begin 184 = .ok (.isub, 1) := by decide +kernel
theorem dX11_begin_185 : decode cX11_begin 185 = .ok (.istore 9, 2) := by decide +kernel
theorem dX11_begin_187 : decode cX11_begin 187 = .ok (.iload 9, 2) := by decide +kernel
theorem dX11_begin_189 : decode cX11_begin 189 = .ok (.aload_n 0, 1) := by decide +kernel
theorem dX11_begin_190 : decode cX11_begin 190 = .ok (.getfield 26, 3) := by decide +kernel
theorem dX11_begin_193 : decode cX11_begin 193 = .ok (.irem, 1) := by decide +kernel
theorem dX11_begin_194 : decode cX11_begin 194 = .ok (.ifCond .ne 52, 3) := by decide +kernel
theorem dX11_begin_197 : decode cX11_begin 197 = .ok (.aload_n 0, 1) := by decide +kernel
theorem dX11_begin_198 : decode cX11_begin 198 = .ok (.iload 9, 2) := by decide +kernel
theorem dX11_begin_200 : decode cX11_begin 200 = .ok (.aload_n 0, 1) := by decide +kernel
theorem dX11_begin_201 : decode cX11_begin 201 = .ok (.getfield 26, 3) := by decide +kernel
theorem dX11_begin_204 : decode cX11_begin 204 = .ok (.idiv, 1) := by decide +kernel
theorem dX11_begin_205 : decode cX11_begin 205 = .ok (.invokevirtual 76, 3) := by decide +kernel
theorem dX11_begin_208 : decode cX11_begin 208 = .ok (.istore 10, 2) := by decide +kernel
theorem dX11_begin_210 : decode cX11_begin 210 = .ok (.aload_n 0, 1) := by decide +kernel
theorem dX11_begin_211 : decode cX11_begin 211 = .ok (.getfield 21, 3) := by decide +kernel
theorem dX11_begin_214 : decode cX11_begin 214 = .ok (.iload 9, 2) := by decide +kernel
theorem dX11_begin_216 : decode cX11_begin 216 = .ok (.aload_n 0, 1) := by decide +kernel
theorem dX11_begin_217 : decode cX11_begin 217 = .ok (.getfield 26, 3) := by decide +kernel
theorem dX11_begin_220 : decode cX11_begin 220 = .ok (.idiv, 1) := by decide +kernel
theorem dX11_begin_221 : decode cX11_begin 221 = .ok (.iload 10, 2) := by decide +kernel
theorem dX11_begin_223 : decode cX11_begin 223 = .ok (.ifCond .lt 18, 3) := by decide +kernel
theorem dX11_begin_226 : decode cX11_begin 226 = .ok (.aload_n 0, 1) := by decide +kernel
theorem dX11_begin_227 : decode cX11_begin 227 = .ok (.getfield 21, 3) := by decide +kernel
theorem dX11_begin_230 : decode cX11_begin 230 = .ok (.iload 10, 2) := by decide +kernel
theorem dX11_begin_232 : decode cX11_begin 232 = .ok (.iaload, 1) := by decide +kernel
theorem dX11_begin_233 : decode cX11_begin 233 = .ok (.iconst 2, 1) := by decide +kernel
theorem dX11_begin_234 : decode cX11_begin 234 = .ok (.if_icmp .ne 7, 3) := by decide +kernel
theorem dX11_begin_237 : decode cX11_begin 237 = .ok (.iconst 1, 1) := by decide +kernel
theorem dX11_begin_238 : decode cX11_begin 238 = .ok (.goto 4, 3) := by decide +kernel
theorem dX11_begin_241 : decode cX11_begin 241 = .ok (.iconst 0, 1) := by decide +kernel
theorem dX11_begin_242 : decode cX11_begin 242 = .ok (.iastore, 1) := by decide +kernel
theorem dX11_begin_243 : decode cX11_begin 243 = .ok (.goto 32, 3) := by decide +kernel
theorem dX11_begin_246 : decode cX11_begin 246 = .ok (.aload_n 0, 1) := by decide +kernel
theorem dX11_begin_247 : decode cX11_begin 247 = .ok (.getfield 21, 3) := by decide +kernel
theorem dX11_begin_250 : decode cX11_begin 250 = .ok (.iload 9, 2) := by decide +kernel
theorem dX11_begin_252 : decode cX11_begin 252 = .ok (.aload_n 0, 1) := by decide +kernel
theorem dX11_begin_253 : decode cX11_begin 253 = .ok (.getfield 26, 3) := by decide +kernel
theorem dX11_begin_256 : decode cX11_begin 256 = .ok (.idiv, 1) := by decide +kernel
theorem dX11_begin_257 : decode cX11_begin 257 = .ok (.iaload, 1) := by decide +kernel
theorem dX11_begin_258 : decode cX11_begin 258 = .ok (.iconst 2, 1) := by decide +kernel
theorem dX11_begin_259 : decode cX11_begin 259 = .ok (.if_icmp .ne 16, 3) := by decide +kernel
theorem dX11_begin_262 : decode cX11_begin 262 = .ok (.aload_n 0, 1) := by decide +kernel
theorem dX11_begin_263 : decode cX11_begin 263 = .ok (.getfield 21, 3) := by decide +kernel
theorem dX11_begin_266 : decode cX11_begin 266 = .ok (.iload 9, 2) := by decide +kernel
theorem dX11_begin_268 : decode cX11_begin 268 = .ok (.aload_n 0, 1) := by decide +kernel
theorem dX11_begin_269 : decode cX11_begin 269 = .ok (.getfield 26, 3) := by decide +kernel
theorem dX11_begin_272 : decode cX11_begin 272 = .ok (.idiv, 1) := by decide +kernel
theorem dX11_begin_273 : decode cX11_begin 273 = .ok (.iconst 0, 1) := by decide +kernel
theorem dX11_begin_274 : decode cX11_begin 274 = .ok (.iastore, 1) := by decide +kernel
theorem dX11_begin_275 : decode cX11_begin 275 = .ok (.iload 7, 2) := by decide +kernel
theorem dX11_begin_277 : decode cX11_begin 277 = .ok (.bipush 16, 2) := by decide +kernel
theorem dX11_begin_279 : decode cX11_begin 279 = .ok (.iand, 1) := by decide +kernel
theorem dX11_begin_280 : decode cX11_begin 280 = .ok (.ifCond .eq 29, 3) := by decide +kernel
theorem dX11_begin_283 : decode cX11_begin 283 = .ok (.aload 5, 2) := by decide +kernel
theorem dX11_begin_285 : decode cX11_begin 285 = .ok (.arraylength, 1) := by decide +kernel
theorem dX11_begin_286 : decode cX11_begin 286 = .ok (.ifCond .le 23, 3) := by decide +kernel
theorem dX11_begin_289 : decode cX11_begin 289 = .ok (.aload 5, 2) := by decide +kernel
theorem dX11_begin_291 : decode cX11_begin 291 = .ok (.aload 5, 2) := by decide +kernel
theorem dX11_begin_293 : decode cX11_begin 293 = .ok (.arraylength, 1) := by decide +kernel
theorem dX11_begin_294 : decode cX11_begin 294 = .ok (.iconst 1, 1) := by decide +kernel
theorem dX11_begin_295 : decode cX11_begin 295 = .ok (.isub, 1) := by decide +kernel
theorem dX11_begin_296 : decode cX11_begin 296 = .ok (.invokestatic 129, 3) := by decide +kernel
theorem dX11_begin_299 : decode cX11_begin 299 = .ok (.astore 5, 2) := by decide +kernel
theorem dX11_begin_301 : decode cX11_begin 301 = .ok (.aload 4, 2) := by decide +kernel
theorem dX11_begin_303 : decode cX11_begin 303 = .ok (.bipush 41, 2) := by decide +kernel
theorem dX11_begin_305 : decode cX11_begin 305 = .ok (.invokevirtual 138, 3) := by decide +kernel
theorem dX11_begin_308 : decode cX11_begin 308 = .ok (.pop, 1) := by decide +kernel
theorem dX11_begin_309 : decode cX11_begin 309 = .ok (.iinc 6 1, 3) := by decide +kernel
theorem dX11_begin_312 : decode cX11_begin 312 = .ok (.goto (-273), 3) := by decide +kernel
theorem dX11_begin_315 : decode cX11_begin 315 = .ok (.iconst 0, 1) := by decide +kernel
theorem dX11_begin_316 : decode cX11_begin 316 = .ok (.istore 6, 2) := by decide +kernel
theorem dX11_begin_318 : decode cX11_begin 318 = .ok (.iload 6, 2) := by decide +kernel
theorem dX11_begin_320 : decode cX11_begin 320 = .ok (.aload 5, 2) := by decide +kernel
theorem dX11_begin_322 : decode cX11_begin 322 = .ok (.arraylength, 1) := by decide +kernel
theorem dX11_begin_323 : decode cX11_begin 323 = .ok (.if_icmp .ge 17, 3) := by decide +kernel
theorem dX11_begin_326 : decode cX11_begin 326 = .ok (.aload 4, 2) := by decide +kernel
theorem dX11_begin_328 : decode cX11_begin 328 = .ok (.bipush 41, 2) := by decide +kernel
theorem dX11_begin_330 : decode cX11_begin 330 = .ok (.invokevirtual 138, 3) := by decide +kernel
theorem dX11_begin_333 : decode cX11_begin 333 = .ok (.pop, 1) := by decide +kernel
theorem dX11_begin_334 : decode cX11_begin 334 = .ok (.iinc 6 1, 3) := by decide +kernel
theorem dX11_begin_337 : decode cX11_begin 337 = .ok (.goto (-19), 3) := by decide +kernel
theorem dX11_begin_340 : decode cX11_begin 340 = .ok (.aload_n 3, 1) := by decide +kernel
theorem dX11_begin_341 : decode cX11_begin 341 = .ok (.aload 4, 2) := by decide +kernel
theorem dX11_begin_343 : decode cX11_begin 343 = .ok (.invokevirtual 156, 3) := by decide +kernel
theorem dX11_begin_346 : decode cX11_begin 346 = .ok (.putfield 160, 3) := by decide +kernel
theorem dX11_begin_349 : decode cX11_begin 349 = .ok (.aload_n 3, 1) := by decide +kernel
theorem dX11_begin_350 : decode cX11_begin 350 = .ok (.areturn, 1) := by decide +kernel
theorem dL_flush_0 : decode cL_flush 0 = .ok (.aload_n 0, 1) := by decide +kernel
theorem dL_flush_1 : decode cL_flush 1 = .ok (.aload_n 1, 1) := by decide +kernel
theorem dL_flush_2 : decode cL_flush 2 = .ok (.iconst 0, 1) := by decide +kernel
theorem dL_flush_3 : decode cL_flush 3 = .ok (.iaload, 1) := by decide +kernel
theorem dL_flush_4 : decode cL_flush 4 = .ok (.aload_n 1, 1) := by decide +kernel
theorem dL_flush_5 : decode cL_flush 5 = .ok (.iconst 1, 1) := by decide +kernel
theorem dL_flush_6 : decode cL_flush 6 = .ok (.iaload, 1) := by decide +kernel
theorem dL_flush_7 : decode cL_flush 7 = .ok (.aload_n 1, 1) := by decide +kernel
theorem dL_flush_8 : decode cL_flush 8 = .ok (.iconst 2, 1) := by decide +kernel
theorem dL_flush_9 : decode cL_flush 9 = .ok (.iaload, 1) := by decide +kernel
theorem dL_flush_10 : decode cL_flush 10 = .ok (.aload_n 1, 1) := by decide +kernel
theorem dL_flush_11 : decode cL_flush 11 = .ok (.iconst 3, 1) := by decide +kernel
theorem dL_flush_12 : decode cL_flush 12 = .ok (.iaload, 1) := by decide +kernel
theorem dL_flush_13 : decode cL_flush 13 = .ok (.aload_n 1, 1) := by decide +kernel
theorem dL_flush_14 : decode cL_flush 14 = .ok (.iconst 4, 1) := by decide +kernel
theorem dL_flush_15 : decode cL_flush 15 = .ok (.iaload, 1) := by decide +kernel
theorem dL_flush_16 : decode cL_flush 16 = .ok (.invokevirtual 13, 3) := by decide +kernel
theorem dL_flush_19 : decode cL_flush 19 = .ok (.istore_n 2, 1) := by decide +kernel
theorem dL_flush_20 : decode cL_flush 20 = .ok (.aload_n 1, 1) := by decide +kernel
theorem dL_flush_21 : decode cL_flush 21 = .ok (.iconst 5, 1) := by decide +kernel
theorem dL_flush_22 : decode cL_flush 22 = .ok (.iconst 0, 1) := by decide +kernel
theorem dL_flush_23 : decode cL_flush 23 = .ok (.iastore, 1) := by decide +kernel
theorem dL_flush_24 : decode cL_flush 24 = .ok (.return_, 1) := by decide +kernel
theorem dL_put_0 : decode cL_put 0 = .ok (.aload_n 1, 1) := by decide +kernel
theorem dL_put_1 : decode cL_put 1 = .ok (.iconst 5, 1) := by decide +kernel
theorem dL_put_2 : decode cL_put 2 = .ok (.iaload, 1) := by decide +kernel
theorem dL_put_3 : decode cL_put 3 = .ok (.istore_n 3, 1) := by decide +kernel
theorem dL_put_4 : decode cL_put 4 = .ok (.aload_n 1, 1) := by decide +kernel
theorem dL_put_5 : decode cL_put 5 = .ok (.iload_n 3, 1) := by decide +kernel
theorem dL_put_6 : decode cL_put 6 = .ok (.iconst 4, 1) := by decide +kernel
theorem dL_put_7 : decode cL_put 7 = .ok (.idiv, 1) := by decide +kernel
theorem dL_put_8 : decode cL_put 8 = .ok (.aload_n 1, 1) := by decide +kernel
theorem dL_put_9 : decode cL_put 9 = .ok (.iload_n 3, 1) := by decide +kernel
theorem dL_put_10 : decode cL_put 10 = .ok (.iconst 4, 1) := by decide +kernel
theorem dL_put_11 : decode cL_put 11 = .ok (.idiv, 1) := by decide +kernel
theorem dL_put_12 : decode cL_put 12 = .ok (.iaload, 1) := by decide +kernel
theorem dL_put_13 : decode cL_put 13 = .ok (.bipush 8, 2) := by decide +kernel
theorem dL_put_15 : decode cL_put 15 = .ok (.ishl, 1) := by decide +kernel
theorem dL_put_16 : decode cL_put 16 = .ok (.iload_n 2, 1) := by decide +kernel
theorem dL_put_17 : decode cL_put 17 = .ok (.ior, 1) := by decide +kernel
theorem dL_put_18 : decode cL_put 18 = .ok (.iastore, 1) := by decide +kernel
theorem dL_put_19 : decode cL_put 19 = .ok (.aload_n 1, 1) := by decide +kernel
theorem dL_put_20 : decode cL_put 20 = .ok (.iconst 5, 1) := by decide +kernel
theorem dL_put_21 : decode cL_put 21 = .ok (.dup2, 1) := by decide +kernel
theorem dL_put_22 : decode cL_put 22 = .ok (.iaload, 1) := by decide +kernel
theorem dL_put_23 : decode cL_put 23 = .ok (.iconst 1, 1) := by decide +kernel
theorem dL_put_24 : decode cL_put 24 = .ok (.iadd, 1) := by decide +kernel
theorem dL_put_25 : decode cL_put 25 = .ok (.iastore, 1) := by decide +kernel
theorem dL_put_26 : decode cL_put 26 = .ok (.aload_n 1, 1) := by decide +kernel
theorem dL_put_27 : decode cL_put 27 = .ok (.bipush 6, 2) := by decide +kernel
theorem dL_put_29 : decode cL_put 29 = .ok (.dup2, 1) := by decide +kernel
theorem dL_put_30 : decode cL_put 30 = .ok (.iaload, 1) := by decide +kernel
theorem dL_put_31 : decode cL_put 31 = .ok (.iconst 1, 1) := by decide +kernel
theorem dL_put_32 : decode cL_put 32 = .ok (.iadd, 1) := by decide +kernel
theorem dL_put_33 : decode cL_put 33 = .ok (.iastore, 1) := by decide +kernel
theorem dL_put_34 : decode cL_put 34 = .ok (.aload_n 1, 1) := by decide +kernel
theorem dL_put_35 : decode cL_put 35 = .ok (.iconst 5, 1) := by decide +kernel
theorem dL_put_36 : decode cL_put 36 = .ok (.iaload, 1) := by decide +kernel
theorem dL_put_37 : decode cL_put 37 = .ok (.bipush 20, 2) := by decide +kernel
theorem dL_put_39 : decode cL_put 39 = .ok (.if_icmp .ne 8, 3) := by decide +kernel
theorem dL_put_42 : decode cL_put 42 = .ok (.aload_n 0, 1) := by decide +kernel
theorem dL_put_43 : decode cL_put 43 = .ok (.aload_n 1, 1) := by decide +kernel
theorem dL_put_44 : decode cL_put 44 = .ok (.invokestatic 7, 3) := by decide +kernel
theorem dL_put_47 : decode cL_put 47 = .ok (.return_, 1) := by decide +kernel
theorem dL_said_0 : decode cL_said 0 = .ok (.aload_n 1, 1) := by decide +kernel
theorem dL_said_1 : decode cL_said 1 = .ok (.bipush 6, 2) := by decide +kernel
theorem dL_said_3 : decode cL_said 3 = .ok (.iaload, 1) := by decide +kernel
theorem dL_said_4 : decode cL_said 4 = .ok (.istore_n 2, 1) := by decide +kernel
theorem dL_said_5 : decode cL_said 5 = .ok (.aload_n 1, 1) := by decide +kernel
theorem dL_said_6 : decode cL_said 6 = .ok (.iconst 5, 1) := by decide +kernel
theorem dL_said_7 : decode cL_said 7 = .ok (.iaload, 1) := by decide +kernel
theorem dL_said_8 : decode cL_said 8 = .ok (.ifCond .le 13, 3) := by decide +kernel
theorem dL_said_11 : decode cL_said 11 = .ok (.aload_n 0, 1) := by decide +kernel
theorem dL_said_12 : decode cL_said 12 = .ok (.aload_n 1, 1) := by decide +kernel
theorem dL_said_13 : decode cL_said 13 = .ok (.bipush 32, 2) := by decide +kernel
theorem dL_said_15 : decode cL_said 15 = .ok (.invokestatic 21, 3) := by decide +kernel
theorem dL_said_18 : decode cL_said 18 = .ok (.goto (-13), 3) := by decide +kernel
theorem dL_said_21 : decode cL_said 21 = .ok (.aload_n 1, 1) := by decide +kernel
theorem dL_said_22 : decode cL_said 22 = .ok (.bipush 6, 2) := by decide +kernel
theorem dL_said_24 : decode cL_said 24 = .ok (.iconst 0, 1) := by decide +kernel
theorem dL_said_25 : decode cL_said 25 = .ok (.iastore, 1) := by decide +kernel
theorem dL_said_26 : decode cL_said 26 = .ok (.iload_n 2, 1) := by decide +kernel
theorem dL_said_27 : decode cL_said 27 = .ok (.ireturn, 1) := by decide +kernel
theorem dL_cell_0 : decode cL_cell 0 = .ok (.iload_n 1, 1) := by decide +kernel
theorem dL_cell_1 : decode cL_cell 1 = .ok (.aload_n 0, 1) := by decide +kernel
theorem dL_cell_2 : decode cL_cell 2 = .ok (.arraylength, 1) := by decide +kernel
theorem dL_cell_3 : decode cL_cell 3 = .ok (.if_icmp .ge 9, 3) := by decide +kernel
theorem dL_cell_6 : decode cL_cell 6 = .ok (.aload_n 0, 1) := by decide +kernel
theorem dL_cell_7 : decode cL_cell 7 = .ok (.iload_n 1, 1) := by decide +kernel
theorem dL_cell_8 : decode cL_cell 8 = .ok (.iaload, 1) := by decide +kernel
theorem dL_cell_9 : decode cL_cell 9 = .ok (.goto 4, 3) := by decide +kernel
theorem dL_cell_12 : decode cL_cell 12 = .ok (.iconst 0, 1) := by decide +kernel
theorem dL_cell_13 : decode cL_cell 13 = .ok (.ireturn, 1) := by decide +kernel
theorem dL_told_0 : decode cL_told 0 = .ok (.iconst 0, 1) := by decide +kernel
theorem dL_told_1 : decode cL_told 1 = .ok (.istore_n 3, 1) := by decide +kernel
theorem dL_told_2 : decode cL_told 2 = .ok (.iload_n 3, 1) := by decide +kernel
theorem dL_told_3 : decode cL_told 3 = .ok (.aload_n 2, 1) := by decide +kernel
theorem dL_told_4 : decode cL_told 4 = .ok (.invokeinterface 25 1, 5) := by decide +kernel
theorem dL_told_9 : decode cL_told 9 = .ok (.if_icmp .ge 21, 3) := by decide +kernel
theorem dL_told_12 : decode cL_told 12 = .ok (.aload_n 0, 1) := by decide +kernel
theorem dL_told_13 : decode cL_told 13 = .ok (.aload_n 1, 1) := by decide +kernel
theorem dL_told_14 : decode cL_told 14 = .ok (.aload_n 2, 1) := by decide +kernel
theorem dL_told_15 : decode cL_told 15 = .ok (.iload_n 3, 1) := by decide +kernel
theorem dL_told_16 : decode cL_told 16 = .ok (.invokeinterface 31 2, 5) := by decide +kernel
theorem dL_told_21 : decode cL_told 21 = .ok (.invokestatic 21, 3) := by decide +kernel
theorem dL_told_24 : decode cL_told 24 = .ok (.iinc 3 1, 3) := by decide +kernel
theorem dL_told_27 : decode cL_told 27 = .ok (.goto (-25), 3) := by decide +kernel
theorem dL_told_30 : decode cL_told 30 = .ok (.aload_n 0, 1) := by decide +kernel
theorem dL_told_31 : decode cL_told 31 = .ok (.aload_n 1, 1) := by decide +kernel
theorem dL_told_32 : decode cL_told 32 = .ok (.invokestatic 35, 3) := by decide +kernel
theorem dL_told_35 : decode cL_told 35 = .ok (.ireturn, 1) := by decide +kernel
theorem dL_text_0 : decode cL_text 0 = .ok (.aload_n 1, 1) := by decide +kernel
theorem dL_text_1 : decode cL_text 1 = .ok (.iconst 0, 1) := by decide +kernel
theorem dL_text_2 : decode cL_text 2 = .ok (.invokestatic 39, 3) := by decide +kernel
theorem dL_text_5 : decode cL_text 5 = .ok (.istore_n 2, 1) := by decide +kernel
theorem dL_text_6 : decode cL_text 6 = .ok (.aload_n 0, 1) := by decide +kernel
theorem dL_text_7 : decode cL_text 7 = .ok (.iconst 4, 1) := by decide +kernel
theorem dL_text_8 : decode cL_text 8 = .ok (.iload_n 2, 1) := by decide +kernel
theorem dL_text_9 : decode cL_text 9 = .ok (.iconst 1, 1) := by decide +kernel
theorem dL_text_10 : decode cL_text 10 = .ok (.iand, 1) := by decide +kernel
theorem dL_text_11 : decode cL_text 11 = .ok (.iadd, 1) := by decide +kernel
theorem dL_text_12 : decode cL_text 12 = .ok (.putfield 43, 3) := by decide +kernel
theorem dL_text_15 : decode cL_text 15 = .ok (.aload_n 0, 1) := by decide +kernel
theorem dL_text_16 : decode cL_text 16 = .ok (.iload_n 2, 1) := by decide +kernel
theorem dL_text_17 : decode cL_text 17 = .ok (.iconst 1, 1) := by decide +kernel
theorem dL_text_18 : decode cL_text 18 = .ok (.iushr, 1) := by decide +kernel
theorem dL_text_19 : decode cL_text 19 = .ok (.iconst 1, 1) := by decide +kernel
theorem dL_text_20 : decode cL_text 20 = .ok (.iand, 1) := by decide +kernel
theorem dL_text_21 : decode cL_text 21 = .ok (.putfield 49, 3) := by decide +kernel
theorem dL_text_24 : decode cL_text 24 = .ok (.aload_n 0, 1) := by decide +kernel
theorem dL_text_25 : decode cL_text 25 = .ok (.iconst 2, 1) := by decide +kernel
theorem dL_text_26 : decode cL_text 26 = .ok (.iload_n 2, 1) := by decide +kernel
theorem dL_text_27 : decode cL_text 27 = .ok (.iconst 2, 1) := by decide +kernel
theorem dL_text_28 : decode cL_text 28 = .ok (.iushr, 1) := by decide +kernel
theorem dL_text_29 : decode cL_text 29 = .ok (.iconst 3, 1) := by decide +kernel
theorem dL_text_30 : decode cL_text 30 = .ok (.iand, 1) := by decide +kernel
theorem dL_text_31 : decode cL_text 31 = .ok (.iconst 3, 1) := by decide +kernel
theorem dL_text_32 : decode cL_text 32 = .ok (.irem, 1) := by decide +kernel
theorem dL_text_33 : decode cL_text 33 = .ok (.iadd, 1) := by decide +kernel
theorem dL_text_34 : decode cL_text 34 = .ok (.putfield 52, 3) := by decide +kernel
theorem dL_text_37 : decode cL_text 37 = .ok (.new 55, 3) := by decide +kernel
theorem dL_text_40 : decode cL_text 40 = .ok (.dup, 1) := by decide +kernel
theorem dL_text_41 : decode cL_text 41 = .ok (.ldc 57, 2) := by decide +kernel
theorem dL_text_43 : decode cL_text 43 = .ok (.invokespecial 59, 3) := by decide +kernel
theorem dL_text_46 : decode cL_text 46 = .ok (.aload_n 0, 1) := by decide +kernel
theorem dL_text_47 : decode cL_text 47 = .ok (.getfield 43, 3) := by decide +kernel
theorem dL_text_50 : decode cL_text 50 = .ok (.invokevirtual 62, 3) := by decide +kernel
theorem dL_text_53 : decode cL_text 53 = .ok (.bipush 32, 2) := by decide +kernel
theorem dL_text_55 : decode cL_text 55 = .ok (.invokevirtual 65, 3) := by decide +kernel
theorem dL_text_58 : decode cL_text 58 = .ok (.aload_n 0, 1) := by decide +kernel
theorem dL_text_59 : decode cL_text 59 = .ok (.getfield 49, 3) := by decide +kernel
theorem dL_text_62 : decode cL_text 62 = .ok (.invokevirtual 62, 3) := by decide +kernel
theorem dL_text_65 : decode cL_text 65 = .ok (.bipush 32, 2) := by decide +kernel
theorem dL_text_67 : decode cL_text 67 = .ok (.invokevirtual 65, 3) := by decide +kernel
theorem dL_text_70 : decode cL_text 70 = .ok (.aload_n 0, 1) := by decide +kernel
theorem dL_text_71 : decode cL_text 71 = .ok (.getfield 52, 3) := by decide +kernel
theorem dL_text_74 : decode cL_text 74 = .ok (.invokevirtual 62, 3) := by decide +kernel
theorem dL_text_77 : decode cL_text 77 = .ok (.astore_n 3, 1) := by decide +kernel
theorem dL_text_78 : decode cL_text 78 = .ok (.iload_n 2, 1) := by decide +kernel
theorem dL_text_79 : decode cL_text 79 = .ok (.iconst 4, 1) := by decide +kernel
theorem dL_text_80 : decode cL_text 80 = .ok (.iushr, 1) := by decide +kernel
theorem dL_text_81 : decode cL_text 81 = .ok (.iconst 3, 1) := by decide +kernel
theorem dL_text_82 : decode cL_text 82 = .ok (.iand, 1) := by decide +kernel
theorem dL_text_83 : decode cL_text 83 = .ok (.iconst 3, 1) := by decide +kernel
theorem dL_text_84 : decode cL_text 84 = .ok (.irem, 1) := by decide +kernel
theorem dL_text_85 : decode cL_text 85 = .ok (.istore 4, 2) := by decide +kernel
theorem dL_text_87 : decode cL_text 87 = .ok (.aload_n 0, 1) := by decide +kernel
theorem dL_text_88 : decode cL_text 88 = .ok (.iload 4, 2) := by decide +kernel
theorem dL_text_90 : decode cL_text 90 = .ok (.aload_n 1, 1) := by decide +kernel
theorem dL_text_91 : decode cL_text 91 = .ok (.iconst 1, 1) := by decide +kernel
theorem dL_text_92 : decode cL_text 92 = .ok (.invokestatic 39, 3) := by decide +kernel
theorem dL_text_95 : decode cL_text 95 = .ok (.invokevirtual 68, 3) := by decide +kernel
theorem dL_text_98 : decode cL_text 98 = .ok (.astore 5, 2) := by decide +kernel
theorem dL_text_100 : decode cL_text 100 = .ok (.aload_n 3, 1) := by decide +kernel
theorem dL_text_101 : decode cL_text 101 = .ok (.ldc 72, 2) := by decide +kernel
theorem dL_text_103 : decode cL_text 103 = .ok (.invokevirtual 74, 3) := by decide +kernel
theorem dL_text_106 : decode cL_text 106 = .ok (.ldc 77, 2) := by decide +kernel
theorem dL_text_108 : decode cL_text 108 = .ok (.iconst 4, 1) := by decide +kernel
theorem dL_text_109 : decode cL_text 109 = .ok (.iload 4, 2) := by decide +kernel
theorem dL_text_111 : decode cL_text 111 = .ok (.imul, 1) := by decide +kernel
theorem dL_text_112 : decode cL_text 112 = .ok (.iconst 4, 1) := by decide +kernel
theorem dL_text_113 : decode cL_text 113 = .ok (.iload 4, 2) := by decide +kernel
theorem dL_text_115 : decode cL_text 115 = .ok (.imul, 1) := by decide +kernel
theorem dL_text_116 : decode cL_text 116 = .ok (.iconst 4, 1) := by decide +kernel
theorem dL_text_117 : decode cL_text 117 = .ok (.iadd, 1) := by decide +kernel
theorem dL_text_118 : decode cL_text 118 = .ok (.invokevirtual 79, 3) := by decide +kernel
theorem dL_text_121 : decode cL_text 121 = .ok (.invokevirtual 74, 3) := by decide +kernel
theorem dL_text_124 : decode cL_text 124 = .ok (.bipush 32, 2) := by decide +kernel
theorem dL_text_126 : decode cL_text 126 = .ok (.invokevirtual 65, 3) := by decide +kernel
theorem dL_text_129 : decode cL_text 129 = .ok (.aload 5, 2) := by decide +kernel
theorem dL_text_131 : decode cL_text 131 = .ok (.getfield 85, 3) := by decide +kernel
theorem dL_text_134 : decode cL_text 134 = .ok (.invokevirtual 74, 3) := by decide +kernel
theorem dL_text_137 : decode cL_text 137 = .ok (.pop, 1) := by decide +kernel
theorem dL_text_138 : decode cL_text 138 = .ok (.iload_n 2, 1) := by decide +kernel
theorem dL_text_139 : decode cL_text 139 = .ok (.bipush 6, 2) := by decide +kernel
theorem dL_text_141 : decode cL_text 141 = .ok (.iushr, 1) := by decide +kernel
theorem dL_text_142 : decode cL_text 142 = .ok (.iconst 1, 1) := by decide +kernel
theorem dL_text_143 : decode cL_text 143 = .ok (.iand, 1) := by decide +kernel
theorem dL_text_144 : decode cL_text 144 = .ok (.iconst 1, 1) := by decide +kernel
theorem dL_text_145 : decode cL_text 145 = .ok (.if_icmp .ne 37, 3) := by decide +kernel
theorem dL_text_148 : decode cL_text 148 = .ok (.aload 5, 2) := by decide +kernel
theorem dL_text_150 : decode cL_text 150 = .ok (.getfield 91, 3) := by decide +kernel
theorem dL_text_153 : decode cL_text 153 = .ok (.iconst 0, 1) := by decide +kernel
theorem dL_text_154 : decode cL_text 154 = .ok (.invokevirtual 95, 3) := by decide +kernel
theorem dL_text_157 : decode cL_text 157 = .ok (.checkcast 101, 3) := by decide +kernel
theorem dL_text_160 : decode cL_text 160 = .ok (.iconst 1, 1) := by decide +kernel
theorem dL_text_161 : decode cL_text 161 = .ok (.putfield 103, 3) := by decide +kernel
theorem dL_text_164 : decode cL_text 164 = .ok (.aload 5, 2) := by decide +kernel
theorem dL_text_166 : decode cL_text 166 = .ok (.dup, 1) := by decide +kernel
theorem dL_text_167 : decode cL_text 167 = .ok (.getfield 107, 3) := by decide +kernel
theorem dL_text_170 : decode cL_text 170 = .ok (.iconst 1, 1) := by decide +kernel
theorem dL_text_171 : decode cL_text 171 = .ok (.iadd, 1) := by decide +kernel
theorem dL_text_172 : decode cL_text 172 = .ok (.putfield 107, 3) := by decide +kernel
theorem dL_text_175 : decode cL_text 175 = .ok (.aload_n 3, 1) := by decide +kernel
theorem dL_text_176 : decode cL_text 176 = .ok (.ldc 110, 2) := by decide +kernel
theorem dL_text_178 : decode cL_text 178 = .ok (.invokevirtual 74, 3) := by decide +kernel
theorem dL_text_181 : decode cL_text 181 = .ok (.pop, 1) := by decide +kernel
theorem dL_text_182 : decode cL_text 182 = .ok (.aload 5, 2) := by decide +kernel
theorem dL_text_184 : decode cL_text 184 = .ok (.getfield 91, 3) := by decide +kernel
theorem dL_text_187 : decode cL_text 187 = .ok (.iconst 1, 1) := by decide +kernel
theorem dL_text_188 : decode cL_text 188 = .ok (.invokevirtual 95, 3) := by decide +kernel
theorem dL_text_191 : decode cL_text 191 = .ok (.checkcast 101, 3) := by decide +kernel
theorem dL_text_194 : decode cL_text 194 = .ok (.ldc 112, 2) := by decide +kernel
theorem dL_text_196 : decode cL_text 196 = .ok (.putfield 114, 3) := by decide +kernel
theorem dL_text_199 : decode cL_text 199 = .ok (.aload 5, 2) := by decide +kernel
theorem dL_text_201 : decode cL_text 201 = .ok (.dup, 1) := by decide +kernel
theorem dL_text_202 : decode cL_text 202 = .ok (.getfield 107, 3) := by decide +kernel
theorem dL_text_205 : decode cL_text 205 = .ok (.iconst 1, 1) := by decide +kernel
theorem dL_text_206 : decode cL_text 206 = .ok (.iadd, 1) := by decide +kernel
theorem dL_text_207 : decode cL_text 207 = .ok (.putfield 107, 3) := by decide +kernel
theorem dL_text_210 : decode cL_text 210 = .ok (.aload_n 3, 1) := by decide +kernel
theorem dL_text_211 : decode cL_text 211 = .ok (.ldc 117, 2) := by decide +kernel
theorem dL_text_213 : decode cL_text 213 = .ok (.invokevirtual 74, 3) := by decide +kernel
theorem dL_text_216 : decode cL_text 216 = .ok (.aload 5, 2) := by decide +kernel
theorem dL_text_218 : decode cL_text 218 = .ok (.getfield 107, 3) := by decide +kernel
theorem dL_text_221 : decode cL_text 221 = .ok (.invokevirtual 62, 3) := by decide +kernel
theorem dL_text_224 : decode cL_text 224 = .ok (.pop, 1) := by decide +kernel
theorem dL_text_225 : decode cL_text 225 = .ok (.aload 5, 2) := by decide +kernel
theorem dL_text_227 : decode cL_text 227 = .ok (.iconst 1, 1) := by decide +kernel
theorem dL_text_228 : decode cL_text 228 = .ok (.putfield 119, 3) := by decide +kernel
theorem dL_text_231 : decode cL_text 231 = .ok (.aload 5, 2) := by decide +kernel
theorem dL_text_233 : decode cL_text 233 = .ok (.iconst 1, 1) := by decide +kernel
theorem dL_text_234 : decode cL_text 234 = .ok (.putfield 122, 3) := by decide +kernel
theorem dL_text_237 : decode cL_text 237 = .ok (.aload 5, 2) := by decide +kernel
theorem dL_text_239 : decode cL_text 239 = .ok (.iload 4, 2) := by decide +kernel
theorem dL_text_241 : decode cL_text 241 = .ok (.ifCond .ne 7, 3) := by decide +kernel
theorem dL_text_244 : decode cL_text 244 = .ok (.iconst 5, 1) := by decide +kernel
theorem dL_text_245 : decode cL_text 245 = .ok (.goto 14, 3) := by decide +kernel
theorem dL_text_248 : decode cL_text 248 = .ok (.iload 4, 2) := by decide +kernel
theorem dL_text_250 : decode cL_text 250 = .ok (.iconst 1, 1) := by decide +kernel
theorem dL_text_251 : decode cL_text 251 = .ok (.if_icmp .ne 7, 3) := by decide +kernel
theorem dL_text_254 : decode cL_text 254 = .ok (.iconst 3, 1) := by decide +kernel
theorem dL_text_255 : decode cL_text 255 = .ok (.goto 4, 3) := by decide +kernel
theorem dL_text_258 : decode cL_text 258 = .ok (.iconst 4, 1) := by decide +kernel
theorem dL_text_259 : decode cL_text 259 = .ok (.aload 5, 2) := by decide +kernel
theorem dL_text_261 : decode cL_text 261 = .ok (.invokevirtual 125, 3) := by decide +kernel
theorem dL_text_264 : decode cL_text 264 = .ok (.iadd, 1) := by decide +kernel
theorem dL_text_265 : decode cL_text 265 = .ok (.putfield 128, 3) := by decide +kernel
theorem dL_text_268 : decode cL_text 268 = .ok (.aload_n 0, 1) := by decide +kernel
theorem dL_text_269 : decode cL_text 269 = .ok (.dup, 1) := by decide +kernel
theorem dL_text_270 : decode cL_text 270 = .ok (.getfield 131, 3) := by decide +kernel
theorem dL_text_273 : decode cL_text 273 = .ok (.aload 5, 2) := by decide +kernel
theorem dL_text_275 : decode cL_text 275 = .ok (.getfield 128, 3) := by decide +kernel
theorem dL_text_278 : decode cL_text 278 = .ok (.iadd, 1) := by decide +kernel
theorem dL_text_279 : decode cL_text 279 = .ok (.putfield 131, 3) := by decide +kernel
theorem dL_text_282 : decode cL_text 282 = .ok (.aload_n 0, 1) := by decide +kernel
theorem dL_text_283 : decode cL_text 283 = .ok (.iconst 2, 1) := by decide +kernel
theorem dL_text_284 : decode cL_text 284 = .ok (.aload_n 1, 1) := by decide +kernel
theorem dL_text_285 : decode cL_text 285 = .ok (.iconst 2, 1) := by decide +kernel
theorem dL_text_286 : decode cL_text 286 = .ok (.invokestatic 39, 3) := by decide +kernel
theorem dL_text_289 : decode cL_text 289 = .ok (.invokevirtual 68, 3) := by decide +kernel
theorem dL_text_292 : decode cL_text 292 = .ok (.astore 6, 2) := by decide +kernel
theorem dL_text_294 : decode cL_text 294 = .ok (.aload_n 3, 1) := by decide +kernel
theorem dL_text_295 : decode cL_text 295 = .ok (.ldc 134, 2) := by decide +kernel
theorem dL_text_297 : decode cL_text 297 = .ok (.invokevirtual 74, 3) := by decide +kernel
theorem dL_text_300 : decode cL_text 300 = .ok (.aload 6, 2) := by decide +kernel
theorem dL_text_302 : decode cL_text 302 = .ok (.getfield 85, 3) := by decide +kernel
theorem dL_text_305 : decode cL_text 305 = .ok (.invokevirtual 74, 3) := by decide +kernel
theorem dL_text_308 : decode cL_text 308 = .ok (.pop, 1) := by decide +kernel
theorem dL_text_309 : decode cL_text 309 = .ok (.aload_n 3, 1) := by decide +kernel
theorem dL_text_310 : decode cL_text 310 = .ok (.invokevirtual 136, 3) := by decide +kernel
theorem dL_text_313 : decode cL_text 313 = .ok (.areturn, 1) := by decide +kernel
theorem dL_areKnown_0 : decode cL_areKnown 0 = .ok (.iconst 0, 1) := by decide +kernel
theorem dL_areKnown_1 : decode cL_areKnown 1 = .ok (.istore_n 1, 1) := by decide +kernel
theorem dL_areKnown_2 : decode cL_areKnown 2 = .ok (.iload_n 1, 1) := by decide +kernel
theorem dL_areKnown_3 : decode cL_areKnown 3 = .ok (.aload_n 0, 1) := by decide +kernel
theorem dL_areKnown_4 : decode cL_areKnown 4 = .ok (.bipush 8, 2) := by decide +kernel
theorem dL_areKnown_6 : decode cL_areKnown 6 = .ok (.invokevirtual 206, 3) := by decide +kernel
theorem dL_areKnown_9 : decode cL_areKnown 9 = .ok (.if_icmp .ge 56, 3) := by decide +kernel
theorem dL_areKnown_12 : decode cL_areKnown 12 = .ok (.aload_n 0, 1) := by decide +kernel
theorem dL_areKnown_13 : decode cL_areKnown 13 = .ok (.iload_n 1, 1) := by decide +kernel
theorem dL_areKnown_14 : decode cL_areKnown 14 = .ok (.iconst 0, 1) := by decide +kernel
theorem dL_areKnown_15 : decode cL_areKnown 15 = .ok (.invokevirtual 189, 3) := by decide +kernel
theorem dL_areKnown_18 : decode cL_areKnown 18 = .ok (.istore_n 2, 1) := by decide +kernel
theorem dL_areKnown_19 : decode cL_areKnown 19 = .ok (.iconst 0, 1) := by decide +kernel
theorem dL_areKnown_20 : decode cL_areKnown 20 = .ok (.istore_n 3, 1) := by decide +kernel
theorem dL_areKnown_21 : decode cL_areKnown 21 = .ok (.iload_n 3, 1) := by decide +kernel
theorem dL_areKnown_22 : decode cL_areKnown 22 = .ok (.aload_n 0, 1) := by decide +kernel
theorem dL_areKnown_23 : decode cL_areKnown 23 = .ok (.iload_n 2, 1) := by decide +kernel
theorem dL_areKnown_24 : decode cL_areKnown 24 = .ok (.iconst 4, 1) := by decide +kernel
theorem dL_areKnown_25 : decode cL_areKnown 25 = .ok (.invokevirtual 152, 3) := by decide +kernel
theorem dL_areKnown_28 : decode cL_areKnown 28 = .ok (.if_icmp .ge 31, 3) := by decide +kernel
theorem dL_areKnown_31 : decode cL_areKnown 31 = .ok (.aload_n 0, 1) := by decide +kernel
theorem dL_areKnown_32 : decode cL_areKnown 32 = .ok (.iload_n 1, 1) := by decide +kernel
theorem dL_areKnown_33 : decode cL_areKnown 33 = .ok (.iload_n 3, 1) := by decide +kernel
theorem dL_areKnown_34 : decode cL_areKnown 34 = .ok (.invokevirtual 300, 3) := by decide +kernel
theorem dL_areKnown_37 : decode cL_areKnown 37 = .ok (.ifCond .eq 16, 3) := by decide +kernel
theorem dL_areKnown_40 : decode cL_areKnown 40 = .ok (.aload_n 0, 1) := by decide +kernel
theorem dL_areKnown_41 : decode cL_areKnown 41 = .ok (.iload_n 2, 1) := by decide +kernel
theorem dL_areKnown_42 : decode cL_areKnown 42 = .ok (.iload_n 3, 1) := by decide +kernel
theorem dL_areKnown_43 : decode cL_areKnown 43 = .ok (.iconst 5, 1) := by decide +kernel
theorem dL_areKnown_44 : decode cL_areKnown 44 = .ok (.invokevirtual 156, 3) := by decide +kernel
theorem dL_areKnown_47 : decode cL_areKnown 47 = .ok (.iconst 1, 1) := by decide +kernel
theorem dL_areKnown_48 : decode cL_areKnown 48 = .ok (.if_icmp .eq 5, 3) := by decide +kernel
theorem dL_areKnown_51 : decode cL_areKnown 51 = .ok (.iconst 0, 1) := by decide +kernel
theorem dL_areKnown_52 : decode cL_areKnown 52 = .ok (.ireturn, 1) := by decide +kernel
theorem dL_areKnown_53 : decode cL_areKnown 53 = .ok (.iinc 3 1, 3) := by decide +kernel
theorem dL_areKnown_56 : decode cL_areKnown 56 = .ok (.goto (-35), 3) := by decide +kernel
theorem dL_areKnown_59 : decode cL_areKnown 59 = .ok (.iinc 1 1, 3) := by decide +kernel
theorem dL_areKnown_62 : decode cL_areKnown 62 = .ok (.goto (-60), 3) := by decide +kernel
theorem dL_areKnown_65 : decode cL_areKnown 65 = .ok (.iconst 1, 1) := by decide +kernel
theorem dL_areKnown_66 : decode cL_areKnown 66 = .ok (.ireturn, 1) := by decide +kernel
set_option maxRecDepth 100000 in
set_option maxHeartbeats 4000000 in
theorem cX10_initc {l : Launch} {v0 : Option Nat} {σ : HpT} {o : Except Nat (Unit)} {σ' : HpT} {a b : Nat} (h : fX10_init v0 σ = some (o, σ', a, b)) : IsK σ v0 10 ∧ Ct l yX10_init cX10_init 1 none 4 81 [va_rf v0] σ (oU o) σ' a b := by
  unfold fX10_init at h
  replace h := bnP_s h
  obtain ⟨u, hk, h⟩ := h
  replace hk := isK_s hk
  refine ⟨hk, ?_⟩
  refine ct_start mi_X10_init.1 rfl (al_le (al_1 (rf_cat _) al_n) (Nat.le_of_ble_eq_true rfl)) (ag_1 (rf_cat _) ag_n) (fun Δ Γ B hE hnm => ?_)
  have hka : 0 + a = a := Nat.zero_add a
  have hkb : 0 + b = b := Nat.zero_add b
  have hla : a ≤ a := Nat.le_refl a
  have hlb : b ≤ b := Nat.le_refl b
  refine g_aload_n B 0 dX10_init_0 rfl rfl ?_
  refine g_objInit9 B hk obj_RX10_1 (by decide) (Nat.le_of_ble_eq_true rfl) dX10_init_1 ?_
  refine g_aload_n B 0 dX10_init_4 rfl rfl ?_
  replace h := bnA_s h
  rcases h with ⟨e9, h2, e8⟩ | ⟨x1, s3, a4, b5, a6, b7, h2, h, ea, eb⟩
  · exact absurd h2 (by simp [nwA, nwR]; try (split <;> simp))
  · subst ea; subst eb
    have hka := bk hka
    have hkb := bk hkb
    refine g_new B nw_RX10_7 dX10_init_5 h2 (Nat.le_trans (bm hka) hla) (Nat.le_trans (bm hkb) hlb) ?_
    refine g_dup B dX10_init_8 (rf_cat _) ?_
    replace h := bnP_s h
    obtain ⟨s10, h9, h⟩ := h
    refine g_callIv0 (st := [va_rf x1, va_rf v0]) B (cJx4a65c_init_da8c8c h9) mi_Jx4a65c_init_da8c8 lk_RX10_9 ⟨Nat.le_of_ble_eq_true rfl, Nat.le_of_ble_eq_true rfl⟩ rfl rfl (Nat.le_of_ble_eq_true rfl) dX10_init_9 (Nat.le_trans (bm hka) hla) (Nat.le_trans (bm hkb) hlb) ?_
    replace h := bnP_s h
    obtain ⟨s13, h12, h⟩ := h
    refine g_putRF B fl_RX10_10 (by decide) (Or.inl ⟨_, rfl⟩) hnm dX10_init_12 h12 ?_
    refine g_aload_n B 0 dX10_init_15 rfl rfl ?_
    refine g_ldcS B (j := 35) rfl dX10_init_16 ?_
    replace h := bnP_s h
    obtain ⟨s16, h15, h⟩ := h
    refine g_putR B fl_RX10_18 (by decide) (Or.inl ⟨_, rfl⟩) dX10_init_18 h15 ?_
    obtain ⟨w1, w2, w3, w4⟩ := inA h
    clear h
    subst w1
    subst w2
    subst w3
    subst w4
    exact g_vret B hE (Nat.le_trans (Nat.le_of_eq hka) hla) (Nat.le_trans (Nat.le_of_eq hkb) hlb) dX10_init_21
set_option maxRecDepth 100000 in
set_option maxHeartbeats 4000000 in
theorem cX12_innersc {l : Launch} {v0 : Option Nat} {σ : HpT} {r : Int32} (h : fX12_inners v0 σ = some r) : IsK σ v0 14 ∧ Ct l yX12_inners cX12_inners 3 (some .int) 4 85 [va_rf v0] σ (.ok (some (.int r))) σ 0 0 := by
  unfold fX12_inners at h
  replace h := bnP_s h
  obtain ⟨u, hk, h⟩ := h
  replace hk := isK_s hk
  refine ⟨hk, ?_⟩
  refine ct_start mi_X12_inners.1 rfl (al_le (al_1 (rf_cat _) al_n) (Nat.le_of_ble_eq_true rfl)) (ag_1 (rf_cat _) ag_n) (fun Δ Γ B hE hnm => ?_)
  refine g_iconst (v := 0) B dX12_inners_0 (by decide) ?_
  refine g_istore_n B dX12_inners_1 rfl (Nat.le_of_ble_eq_true rfl) (s1_c (f1_1 rfl (rf_cat _) f1_n)) ?_
  refine g_iconst (v := 0) B dX12_inners_2 (by decide) ?_
  refine g_istore_n B dX12_inners_3 rfl (Nat.le_of_ble_eq_true rfl) (s1_c (f1_1 rfl rfl (f1_k rfl f1_n))) ?_
  replace h := bnP_s h
  obtain ⟨r2, h3, h⟩ := h
  have kE4 : GW Δ Γ (0) (0) 37 [(1, .int r2)] [] σ := by
    refine g_iload_n B 0 dX12_inners_37 rfl rfl ?_
    replace h := Option.some.inj h
    subst h
    exact g_iret B hE (Nat.zero_le _) (Nat.zero_le _) dX12_inners_38
  clear h
  refine g_sub [2, 1, 0] rfl ?_
  refine lpP_w (I := fun q1 => GW Δ Γ (0) (0) 4 [(0, va_rf v0), (1, .int q1.1), (2, .int q1.2)] [] σ) (r := r2) ?_ FUEL (0, 0) h3
  intro q1 x8 h hI6 hR7
  unfold fX12_inners_l1 at h
  obtain ⟨qv10, qv11⟩ := q1
  show GW Δ Γ (0) (0) 4 [(0, va_rf v0), (1, .int qv10), (2, .int qv11)] [] σ
  dsimp only at h
  refine g_iload_n B 2 dX12_inners_4 rfl rfl ?_
  refine g_aload_n B 0 dX12_inners_5 rfl rfl ?_
  replace h := bnP_s h
  obtain ⟨x12, h13, h⟩ := h
  refine g_getR B fl_RX12_9 (by decide) dX12_inners_6 h13 ?_
  replace h := bnP_s h
  obtain ⟨x14, h15, h⟩ := h
  refine g_callQs0 (st := [.int qv11]) B (cJ0_length_8abf5c h15) rfl mi_J0_length_8abf5 lk_RX12_29 ⟨Nat.le_of_ble_eq_true rfl, Nat.le_of_ble_eq_true rfl⟩ rfl rfl (Nat.le_of_ble_eq_true rfl) dX12_inners_9 (Nat.zero_le _) (Nat.zero_le _) ?_
  refine g_icmp_ge B 37 dX12_inners_12 (by decide) (fun hc => ?_) (fun hc => ?_)
  · replace h := ifp hc h
    replace h := Option.some.inj h
    subst h
    have e8 := hR7 _ rfl
    subst e8
    exact g_sub [1] rfl kE4
  · replace h := ifn hc h
    refine g_aload_n B 0 dX12_inners_15 rfl rfl ?_
    replace h := bnP_s h
    obtain ⟨x16, h17, h⟩ := h
    refine g_getR B fl_RX12_9 (by decide) dX12_inners_16 h17 ?_
    refine g_iload_n B 2 dX12_inners_19 rfl rfl ?_
    replace h := bnP_s h
    obtain ⟨x18, h19, h⟩ := h
    refine g_callQs0 (st := []) B (cJ0_charAt_5068ec h19) rfl mi_J0_charAt_5068e lk_RX12_35 ⟨Nat.le_of_ble_eq_true rfl, Nat.le_of_ble_eq_true rfl⟩ rfl rfl (Nat.le_of_ble_eq_true rfl) dX12_inners_20 (Nat.zero_le _) (Nat.zero_le _) ?_
    refine g_bipush (v := 94) B dX12_inners_23 (by decide) ?_
    refine g_icmp_ne B 31 dX12_inners_25 (by decide) (fun hc => ?_) (fun hc => ?_)
    · replace h := ifn hc h
      refine g_iinc (v := (qv11 + 1)) B 2 dX12_inners_31 rfl (by first | rfl | (congr 1; decide)) (Nat.le_of_ble_eq_true rfl) (s1_c (f1_k rfl (f1_1 rfl rfl (f1_x f1_n)))) ?_
      refine g_goto B 4 dX12_inners_34 (by decide) ?_
      replace h := Option.some.inj h
      subst h
      exact g_sub [1, 2, 0] rfl (hI6 (qv10, (qv11 + 1)) rfl)
    · replace h := ifp hc h
      refine g_iinc (v := (qv10 + 1)) B 1 dX12_inners_28 rfl (by first | rfl | (congr 1; decide)) (Nat.le_of_ble_eq_true rfl) (s1_c (f1_1 rfl (rf_cat _) (f1_x (f1_k rfl f1_n)))) ?_
      refine g_iinc (v := (qv11 + 1)) B 2 dX12_inners_31 rfl (by first | rfl | (congr 1; decide)) (Nat.le_of_ble_eq_true rfl) (s1_c (f1_1 rfl rfl (f1_k rfl (f1_x f1_n)))) ?_
      refine g_goto B 4 dX12_inners_34 (by decide) ?_
      replace h := Option.some.inj h
      subst h
      exact g_sub [2, 1, 0] rfl (hI6 ((qv10 + 1), (qv11 + 1)) rfl)
set_option maxRecDepth 100000 in
set_option maxHeartbeats 4000000 in
theorem cX10_standingc {l : Launch} {v0 : Option Nat} {σ : HpT} {r : Int32} (h : fX10_standing v0 σ = some r) : IsK σ v0 10 ∧ Ct l yX10_standing cX10_standing 3 (some .int) 5 107 [va_rf v0] σ (.ok (some (.int r))) σ 0 0 := by
  unfold fX10_standing at h
  replace h := bnP_s h
  obtain ⟨u, hk, h⟩ := h
  replace hk := isK_s hk
  refine ⟨hk, ?_⟩
  refine ct_start mi_X10_standing.1 rfl (al_le (al_1 (rf_cat _) al_n) (Nat.le_of_ble_eq_true rfl)) (ag_1 (rf_cat _) ag_n) (fun Δ Γ B hE hnm => ?_)
  refine g_iconst (v := 0) B dX10_standing_0 (by decide) ?_
  refine g_istore_n B dX10_standing_1 rfl (Nat.le_of_ble_eq_true rfl) (s1_c (f1_1 rfl (rf_cat _) f1_n)) ?_
  refine g_iconst (v := 0) B dX10_standing_2 (by decide) ?_
  refine g_istore_n B dX10_standing_3 rfl (Nat.le_of_ble_eq_true rfl) (s1_c (f1_1 rfl rfl (f1_k rfl f1_n))) ?_
  replace h := bnP_s h
  obtain ⟨r2, h3, h⟩ := h
  have kE4 : GW Δ Γ (0) (0) 61 [(1, .int r2)] [] σ := by
    refine g_iload_n B 0 dX10_standing_61 rfl rfl ?_
    replace h := Option.some.inj h
    subst h
    exact g_iret B hE (Nat.zero_le _) (Nat.zero_le _) dX10_standing_62
  clear h
  refine g_sub [2, 1, 0] rfl ?_
  refine lpP_w (I := fun q1 => GW Δ Γ (0) (0) 4 [(0, va_rf v0), (1, .int q1.1), (2, .int q1.2)] [] σ) (r := r2) ?_ FUEL (0, 0) h3
  intro q1 x8 h hI6 hR7
  unfold fX10_standing_l1 at h
  refine g_iload_n B 2 dX10_standing_4 rfl rfl ?_
  refine g_aload_n B 0 dX10_standing_5 rfl rfl ?_
  replace h := bnP_s h
  obtain ⟨x10, h11, h⟩ := h
  refine g_getR B fl_RX10_10 (by decide) dX10_standing_6 h11 ?_
  replace h := bnP_s h
  obtain ⟨x12, h13, h⟩ := h
  refine g_callVs0 (st := [.int q1.2]) B (cJx4a65c_size_8abf5c h13) (Nat.le_of_ble_eq_true rfl) rfl rfl mi_Jx4a65c_size_8abf5 lk_RX10_23 ⟨Nat.le_of_ble_eq_true rfl, Nat.le_of_ble_eq_true rfl⟩ rfl rfl (Nat.le_of_ble_eq_true rfl) dX10_standing_9 (Nat.zero_le _) (Nat.zero_le _) ?_
  refine g_icmp_ge B 61 dX10_standing_12 (by decide) (fun hc => ?_) (fun hc => ?_)
  · replace h := ifp hc h
    replace h := Option.some.inj h
    subst h
    have e8 := hR7 _ rfl
    subst e8
    exact g_sub [1] rfl kE4
  · replace h := ifn hc h
    refine g_iload_n B 1 dX10_standing_15 rfl rfl ?_
    refine g_aload_n B 0 dX10_standing_16 rfl rfl ?_
    replace h := bnP_s h
    obtain ⟨x14, h15, h⟩ := h
    refine g_getR B fl_RX10_10 (by decide) dX10_standing_17 h15 ?_
    refine g_iload_n B 2 dX10_standing_20 rfl rfl ?_
    replace h := bnP_s h
    obtain ⟨x16, h17, h⟩ := h
    refine g_callVs0 (st := [.int q1.1]) B (cJx4a65c_get_915e3c h17) (Nat.le_of_ble_eq_true rfl) rfl rfl mi_Jx4a65c_get_915e3 lk_RX10_27 ⟨Nat.le_of_ble_eq_true rfl, Nat.le_of_ble_eq_true rfl⟩ rfl rfl (Nat.le_of_ble_eq_true rfl) dX10_standing_21 (Nat.zero_le _) (Nat.zero_le _) ?_
    replace h := bnP_s h
    obtain ⟨u18, h19, h⟩ := h
    refine g_cast B (κ := 14) (by decide) rfl cc_RX10_31 dX10_standing_24 h19 ?_
    replace h := bnP_s h
    obtain ⟨x20, h21, h⟩ := h
    refine g_getNI B fn_RX10_60 (by decide) dX10_standing_27 h21 ?_
    replace h := bnP_s h
    obtain ⟨j22, h23, h⟩ := h
    have k25 : GW Δ Γ (0) (0) 38 [(0, va_rf v0), (2, .int q1.2)] [.int j22.2, .int j22.1] σ := by
      refine g_aload_n B 0 dX10_standing_38 rfl rfl ?_
      replace h := bnP_s h
      obtain ⟨x27, h28, h⟩ := h
      refine g_getR B fl_RX10_10 (by decide) dX10_standing_39 h28 ?_
      refine g_iload_n B 1 dX10_standing_42 rfl rfl ?_
      replace h := bnP_s h
      obtain ⟨x29, h30, h⟩ := h
      refine g_callVs0 (st := [.int j22.2, .int j22.1]) B (cJx4a65c_get_915e3c h30) (Nat.le_of_ble_eq_true rfl) rfl rfl mi_Jx4a65c_get_915e3 lk_RX10_27 ⟨Nat.le_of_ble_eq_true rfl, Nat.le_of_ble_eq_true rfl⟩ rfl rfl (Nat.le_of_ble_eq_true rfl) dX10_standing_43 (Nat.zero_le _) (Nat.zero_le _) ?_
      replace h := bnP_s h
      obtain ⟨u31, h32, h⟩ := h
      refine g_cast B (κ := 14) (by decide) rfl cc_RX10_31 dX10_standing_46 h32 ?_
      replace h := bnP_s h
      obtain ⟨x33, h34, h⟩ := h
      refine g_callVs0 (st := [.int j22.2, .int j22.1]) B (cX12_innersc h34) (Nat.le_of_ble_eq_true rfl) rfl rfl mi_X12_inners lk_RX10_64 ⟨Nat.le_of_ble_eq_true rfl, Nat.le_of_ble_eq_true rfl⟩ rfl rfl (Nat.le_of_ble_eq_true rfl) dX10_standing_49 (Nat.zero_le _) (Nat.zero_le _) ?_
      refine g_iadd B dX10_standing_52 ?_
      refine g_iadd B dX10_standing_53 ?_
      refine g_istore_n B dX10_standing_54 rfl (Nat.le_of_ble_eq_true rfl) (s1_c (f1_1 rfl (rf_cat _) (f1_k rfl f1_n))) ?_
      refine g_iinc (v := (q1.2 + 1)) B 2 dX10_standing_55 rfl (by first | rfl | (congr 1; decide)) (Nat.le_of_ble_eq_true rfl) (s1_c (f1_1 rfl rfl (f1_k rfl (f1_x f1_n)))) ?_
      refine g_goto B 4 dX10_standing_58 (by decide) ?_
      replace h := Option.some.inj h
      subst h
      exact g_sub [2, 1, 0] rfl (hI6 _ rfl)
    clear h
    have h := h23
    clear h23
    refine g_if_eq B 37 dX10_standing_30 (by decide) (fun hc => ?_) (fun hc => ?_)
    · replace h := ifp hc h
      refine g_iconst (v := 1) B dX10_standing_37 (by decide) ?_
      replace h := Option.some.inj h
      subst h
      exact g_sub [0, 2] rfl k25
    · replace h := ifn hc h
      refine g_iconst (v := 0) B dX10_standing_33 (by decide) ?_
      refine g_goto B 38 dX10_standing_34 (by decide) ?_
      replace h := Option.some.inj h
      subst h
      exact g_sub [0, 2] rfl k25
set_option maxRecDepth 100000 in
set_option maxHeartbeats 4000000 in
theorem cX11_initc {l : Launch} {v0 : Option Nat} {σ : HpT} {o : Except Nat (Unit)} {σ' : HpT} {a b : Nat} (h : fX11_init v0 σ = some (o, σ', a, b)) : IsK σ v0 13 ∧ Ct l yX11_init cX11_init 1 none 4 81 [va_rf v0] σ (oU o) σ' a b := by
  unfold fX11_init at h
  replace h := bnP_s h
  obtain ⟨u, hk, h⟩ := h
  replace hk := isK_s hk
  refine ⟨hk, ?_⟩
  refine ct_start mi_X11_init.1 rfl (al_le (al_1 (rf_cat _) al_n) (Nat.le_of_ble_eq_true rfl)) (ag_1 (rf_cat _) ag_n) (fun Δ Γ B hE hnm => ?_)
  have hka : 0 + a = a := Nat.zero_add a
  have hkb : 0 + b = b := Nat.zero_add b
  have hla : a ≤ a := Nat.le_refl a
  have hlb : b ≤ b := Nat.le_refl b
  refine g_aload_n B 0 dX11_init_0 rfl rfl ?_
  refine g_objInit9 B hk obj_RX11_3 (by decide) (Nat.le_of_ble_eq_true rfl) dX11_init_1 ?_
  refine g_aload_n B 0 dX11_init_4 rfl rfl ?_
  replace h := bnA_s h
  rcases h with ⟨e9, h2, e8⟩ | ⟨x1, s3, a4, b5, a6, b7, h2, h, ea, eb⟩
  · exact absurd h2 (by simp [nwA, nwR]; try (split <;> simp))
  · subst ea; subst eb
    have hka := bk hka
    have hkb := bk hkb
    refine g_new B nw_RX11_9 dX11_init_5 h2 (Nat.le_trans (bm hka) hla) (Nat.le_trans (bm hkb) hlb) ?_
    refine g_dup B dX11_init_8 (rf_cat _) ?_
    replace h := bnP_s h
    obtain ⟨s10, h9, h⟩ := h
    refine g_callIv0 (st := [va_rf x1, va_rf v0]) B (cJx4a65c_init_da8c8c h9) mi_Jx4a65c_init_da8c8 lk_RX11_11 ⟨Nat.le_of_ble_eq_true rfl, Nat.le_of_ble_eq_true rfl⟩ rfl rfl (Nat.le_of_ble_eq_true rfl) dX11_init_9 (Nat.le_trans (bm hka) hla) (Nat.le_trans (bm hkb) hlb) ?_
    replace h := bnP_s h
    obtain ⟨s13, h12, h⟩ := h
    refine g_putRF B fl_RX11_12 (by decide) (Or.inl ⟨_, rfl⟩) hnm dX11_init_12 h12 ?_
    refine g_aload_n B 0 dX11_init_15 rfl rfl ?_
    replace h := bnA_s h
    rcases h with ⟨e9, h15, e8⟩ | ⟨x14, s16, a17, b18, a19, b20, h15, h, ea, eb⟩
    · exact absurd h15 (by simp [nwA, nwR]; try (split <;> simp))
    · subst ea; subst eb
      have hka := bk hka
      have hkb := bk hkb
      refine g_new B nw_RX11_9 dX11_init_16 h15 (Nat.le_trans (bm hka) hla) (Nat.le_trans (bm hkb) hlb) ?_
      refine g_dup B dX11_init_19 (rf_cat _) ?_
      replace h := bnP_s h
      obtain ⟨s23, h22, h⟩ := h
      refine g_callIv0 (st := [va_rf x14, va_rf v0]) B (cJx4a65c_init_da8c8c h22) mi_Jx4a65c_init_da8c8 lk_RX11_11 ⟨Nat.le_of_ble_eq_true rfl, Nat.le_of_ble_eq_true rfl⟩ rfl rfl (Nat.le_of_ble_eq_true rfl) dX11_init_20 (Nat.le_trans (bm hka) hla) (Nat.le_trans (bm hkb) hlb) ?_
      replace h := bnP_s h
      obtain ⟨s26, h25, h⟩ := h
      refine g_putRF B fl_RX11_18 (by decide) (Or.inl ⟨_, rfl⟩) hnm dX11_init_23 h25 ?_
      refine g_aload_n B 0 dX11_init_26 rfl rfl ?_
      refine g_bipush (v := 12) B dX11_init_27 (by decide) ?_
      replace h := bnA_s h
      rcases h with ⟨e9, h28, e8⟩ | ⟨x27, s29, a30, b31, a32, b33, h28, h, ea, eb⟩
      · exact absurd h28 (by simp [nwA, nwR]; try (split <;> simp))
      · subst ea; subst eb
        have hka := bk hka
        have hkb := bk hkb
        refine g_newarr B (Or.inl ⟨rfl, rfl⟩) na_int dX11_init_29 h28 (Nat.le_trans (bm hka) hla) (Nat.le_trans (bm hkb) hlb) ?_
        replace h := bnP_s h
        obtain ⟨s36, h35, h⟩ := h
        refine g_putRF B fl_RX11_21 (by decide) (Or.inr ⟨_, rfl⟩) hnm dX11_init_31 h35 ?_
        obtain ⟨w1, w2, w3, w4⟩ := inA h
        clear h
        subst w1
        subst w2
        subst w3
        subst w4
        exact g_vret B hE (Nat.le_trans (Nat.le_of_eq hka) hla) (Nat.le_trans (Nat.le_of_eq hkb) hlb) dX11_init_34
set_option maxRecDepth 100000 in
set_option maxHeartbeats 4000000 in
theorem cX11_wordsc {l : Launch} {v0 : Option Nat} {σ : HpT} {r : Int32} (h : fX11_words v0 σ = some r) : IsK σ v0 13 ∧ Ct l yX11_words cX11_words 3 (some .int) 3 64 [va_rf v0] σ (.ok (some (.int r))) σ 0 0 := by
  unfold fX11_words at h
  replace h := bnP_s h
  obtain ⟨u, hk, h⟩ := h
  replace hk := isK_s hk
  refine ⟨hk, ?_⟩
  refine ct_start mi_X11_words.1 rfl (al_le (al_1 (rf_cat _) al_n) (Nat.le_of_ble_eq_true rfl)) (ag_1 (rf_cat _) ag_n) (fun Δ Γ B hE hnm => ?_)
  refine g_iconst (v := 0) B dX11_words_0 (by decide) ?_
  refine g_istore_n B dX11_words_1 rfl (Nat.le_of_ble_eq_true rfl) (s1_c (f1_1 rfl (rf_cat _) f1_n)) ?_
  refine g_iconst (v := 0) B dX11_words_2 (by decide) ?_
  refine g_istore_n B dX11_words_3 rfl (Nat.le_of_ble_eq_true rfl) (s1_c (f1_1 rfl rfl (f1_k rfl f1_n))) ?_
  replace h := bnP_s h
  obtain ⟨r2, h3, h⟩ := h
  have kE4 : GW Δ Γ (0) (0) 41 [(1, .int r2)] [] σ := by
    refine g_iload_n B 0 dX11_words_41 rfl rfl ?_
    replace h := Option.some.inj h
    subst h
    exact g_iret B hE (Nat.zero_le _) (Nat.zero_le _) dX11_words_42
  clear h
  refine g_sub [2, 1, 0] rfl ?_
  refine lpP_w (I := fun q1 => GW Δ Γ (0) (0) 4 [(0, va_rf v0), (1, .int q1.1), (2, .int q1.2)] [] σ) (r := r2) ?_ FUEL (0, 0) h3
  intro q1 x8 h hI6 hR7
  unfold fX11_words_l1 at h
  refine g_iload_n B 2 dX11_words_4 rfl rfl ?_
  refine g_aload_n B 0 dX11_words_5 rfl rfl ?_
  replace h := bnP_s h
  obtain ⟨x10, h11, h⟩ := h
  refine g_getR B fl_RX11_12 (by decide) dX11_words_6 h11 ?_
  replace h := bnP_s h
  obtain ⟨x12, h13, h⟩ := h
  refine g_callVs0 (st := [.int q1.2]) B (cJx4a65c_size_8abf5c h13) (Nat.le_of_ble_eq_true rfl) rfl rfl mi_Jx4a65c_size_8abf5 lk_RX11_39 ⟨Nat.le_of_ble_eq_true rfl, Nat.le_of_ble_eq_true rfl⟩ rfl rfl (Nat.le_of_ble_eq_true rfl) dX11_words_9 (Nat.zero_le _) (Nat.zero_le _) ?_
  refine g_icmp_ge B 41 dX11_words_12 (by decide) (fun hc => ?_) (fun hc => ?_)
  · replace h := ifp hc h
    replace h := Option.some.inj h
    subst h
    have e8 := hR7 _ rfl
    subst e8
    exact g_sub [1] rfl kE4
  · replace h := ifn hc h
    refine g_iload_n B 1 dX11_words_15 rfl rfl ?_
    refine g_aload_n B 0 dX11_words_16 rfl rfl ?_
    replace h := bnP_s h
    obtain ⟨x14, h15, h⟩ := h
    refine g_getR B fl_RX11_12 (by decide) dX11_words_17 h15 ?_
    refine g_iload_n B 2 dX11_words_20 rfl rfl ?_
    replace h := bnP_s h
    obtain ⟨x16, h17, h⟩ := h
    refine g_callVs0 (st := [.int q1.1]) B (cJx4a65c_get_915e3c h17) (Nat.le_of_ble_eq_true rfl) rfl rfl mi_Jx4a65c_get_915e3 lk_RX11_43 ⟨Nat.le_of_ble_eq_true rfl, Nat.le_of_ble_eq_true rfl⟩ rfl rfl (Nat.le_of_ble_eq_true rfl) dX11_words_21 (Nat.zero_le _) (Nat.zero_le _) ?_
    replace h := bnP_s h
    obtain ⟨u18, h19, h⟩ := h
    refine g_cast B (κ := 10) (by decide) rfl cc_RX11_47 dX11_words_24 h19 ?_
    replace h := bnP_s h
    obtain ⟨x20, h21, h⟩ := h
    refine g_getNR B fn_RX11_64 (by decide) dX11_words_27 h21 ?_
    replace h := bnP_s h
    obtain ⟨x22, h23, h⟩ := h
    refine g_callVs0 (st := [.int q1.1]) B (cJx4a65c_size_8abf5c h23) (Nat.le_of_ble_eq_true rfl) rfl rfl mi_Jx4a65c_size_8abf5 lk_RX11_39 ⟨Nat.le_of_ble_eq_true rfl, Nat.le_of_ble_eq_true rfl⟩ rfl rfl (Nat.le_of_ble_eq_true rfl) dX11_words_30 (Nat.zero_le _) (Nat.zero_le _) ?_
    refine g_iadd B dX11_words_33 ?_
    refine g_istore_n B dX11_words_34 rfl (Nat.le_of_ble_eq_true rfl) (s1_c (f1_1 rfl (rf_cat _) (f1_x (f1_k rfl f1_n)))) ?_
    refine g_iinc (v := (q1.2 + 1)) B 2 dX11_words_35 rfl (by first | rfl | (congr 1; decide)) (Nat.le_of_ble_eq_true rfl) (s1_c (f1_1 rfl rfl (f1_k rfl (f1_x f1_n)))) ?_
    refine g_goto B 4 dX11_words_38 (by decide) ?_
    replace h := Option.some.inj h
    subst h
    exact g_sub [2, 1, 0] rfl (hI6 _ rfl)
set_option maxRecDepth 100000 in
set_option maxHeartbeats 4000000 in
theorem cX11_manyc {l : Launch} {v0 : Option Nat} {σ : HpT} {r : Int32} (h : fX11_many v0 σ = some r) : IsK σ v0 13 ∧ Ct l yX11_many cX11_many 1 (some .int) 4 86 [va_rf v0] σ (.ok (some (.int r))) σ 0 0 := by
  unfold fX11_many at h
  replace h := bnP_s h
  obtain ⟨u, hk, h⟩ := h
  replace hk := isK_s hk
  refine ⟨hk, ?_⟩
  refine ct_start mi_X11_many.1 rfl (al_le (al_1 (rf_cat _) al_n) (Nat.le_of_ble_eq_true rfl)) (ag_1 (rf_cat _) ag_n) (fun Δ Γ B hE hnm => ?_)
  refine g_aload_n B 0 dX11_many_0 rfl rfl ?_
  replace h := bnP_s h
  obtain ⟨x1, h2, h⟩ := h
  refine g_callVs0 (st := []) B (cX11_wordsc h2) (Nat.le_of_ble_eq_true rfl) rfl rfl mi_X11_words lk_RX11_67 ⟨Nat.le_of_ble_eq_true rfl, Nat.le_of_ble_eq_true rfl⟩ rfl rfl (Nat.le_of_ble_eq_true rfl) dX11_many_1 (Nat.zero_le _) (Nat.zero_le _) ?_
  refine g_aload_n B 0 dX11_many_4 rfl rfl ?_
  replace h := bnP_s h
  obtain ⟨x3, h4, h⟩ := h
  refine g_getI B fl_RX11_26 (by decide) dX11_many_5 h4 ?_
  refine g_iadd B dX11_many_8 ?_
  refine g_iconst (v := 1) B dX11_many_9 (by decide) ?_
  refine g_isub B dX11_many_10 ?_
  refine g_aload_n B 0 dX11_many_11 rfl rfl ?_
  replace h := bnP_s h
  obtain ⟨x5, h6, h⟩ := h
  refine g_getI B fl_RX11_26 (by decide) dX11_many_12 h6 ?_
  replace h := bnP_s h
  obtain ⟨u7, h8, h⟩ := h
  refine g_idiv B dX11_many_15 (nz_s h8) ?_
  replace h := Option.some.inj h
  subst h
  exact g_iret B hE (Nat.zero_le _) (Nat.zero_le _) dX11_many_16
set_option maxRecDepth 100000 in
set_option maxHeartbeats 4000000 in
theorem cX11_matec {l : Launch} {v0 : Option Nat} {v1 : Int32} {σ : HpT} {r : Int32} (h : fX11_mate v0 v1 σ = some r) : IsK σ v0 13 ∧ Ct l yX11_mate cX11_mate 3 (some .int) 5 106 [va_rf v0, .int v1] σ (.ok (some (.int r))) σ 0 0 := by
  unfold fX11_mate at h
  replace h := bnP_s h
  obtain ⟨u, hk, h⟩ := h
  replace hk := isK_s hk
  refine ⟨hk, ?_⟩
  refine ct_start mi_X11_mate.1 rfl (al_le (al_1 (rf_cat _) (al_1 rfl al_n)) (Nat.le_of_ble_eq_true rfl)) (ag_1 (rf_cat _) (ag_1 rfl ag_n)) (fun Δ Γ B hE hnm => ?_)
  refine g_iload_n B 1 dX11_mate_0 rfl rfl ?_
  refine g_iload_n B 1 dX11_mate_1 rfl rfl ?_
  refine g_aload_n B 0 dX11_mate_2 rfl rfl ?_
  replace h := bnP_s h
  obtain ⟨x1, h2, h⟩ := h
  refine g_getI B fl_RX11_33 (by decide) dX11_mate_3 h2 ?_
  replace h := bnP_s h
  obtain ⟨u3, h4, h⟩ := h
  refine g_irem B dX11_mate_6 (nz_s h4) ?_
  refine g_isub B dX11_mate_7 ?_
  refine g_aload_n B 0 dX11_mate_8 rfl rfl ?_
  replace h := bnP_s h
  obtain ⟨x5, h6, h⟩ := h
  refine g_getI B fl_RX11_33 (by decide) dX11_mate_9 h6 ?_
  refine g_iadd B dX11_mate_12 ?_
  refine g_iconst (v := 1) B dX11_mate_13 (by decide) ?_
  refine g_isub B dX11_mate_14 ?_
  refine g_iload_n B 1 dX11_mate_15 rfl rfl ?_
  refine g_aload_n B 0 dX11_mate_16 rfl rfl ?_
  replace h := bnP_s h
  obtain ⟨x7, h8, h⟩ := h
  refine g_getI B fl_RX11_33 (by decide) dX11_mate_17 h8 ?_
  replace h := bnP_s h
  obtain ⟨u9, h10, h⟩ := h
  refine g_irem B dX11_mate_20 (nz_s h10) ?_
  refine g_isub B dX11_mate_21 ?_
  refine g_istore_n B dX11_mate_22 rfl (Nat.le_of_ble_eq_true rfl) (s1_c (f1_k rfl (f1_1 rfl rfl f1_n))) ?_
  refine g_iload_n B 0 dX11_mate_23 rfl rfl ?_
  refine g_iload_n B 2 dX11_mate_24 rfl rfl ?_
  refine g_icmp_eq B 36 dX11_mate_25 (by decide) (fun hc => ?_) (fun hc => ?_)
  · replace h := ifp hc h
    refine g_iconst (v := (-1)) B dX11_mate_36 (by decide) ?_
    refine g_goto B 41 dX11_mate_37 (by decide) ?_
    replace h := Option.some.inj h
    subst h
    exact g_iret B hE (Nat.zero_le _) (Nat.zero_le _) dX11_mate_41
  · replace h := ifn hc h
    refine g_iload_n B 0 dX11_mate_28 rfl rfl ?_
    refine g_aload_n B 1 dX11_mate_29 rfl rfl ?_
    replace h := bnP_s h
    obtain ⟨x11, h12, h⟩ := h
    refine g_callVs0 (st := [.int ((((v1 - (v1 - v1 / x1 * x1)) + x5) - 1) - (v1 - v1 / x7 * x7))]) B (cX11_manyc h12) (Nat.le_of_ble_eq_true rfl) rfl rfl mi_X11_many lk_RX11_73 ⟨Nat.le_of_ble_eq_true rfl, Nat.le_of_ble_eq_true rfl⟩ rfl rfl (Nat.le_of_ble_eq_true rfl) dX11_mate_30 (Nat.zero_le _) (Nat.zero_le _) ?_
    refine g_icmp_lt B 40 dX11_mate_33 (by decide) (fun hc => ?_) (fun hc => ?_)
    · replace h := ifp hc h
      refine g_iload_n B 0 dX11_mate_40 rfl rfl ?_
      replace h := Option.some.inj h
      subst h
      exact g_iret B hE (Nat.zero_le _) (Nat.zero_le _) dX11_mate_41
    · replace h := ifn hc h
      refine g_iconst (v := (-1)) B dX11_mate_36 (by decide) ?_
      refine g_goto B 41 dX11_mate_37 (by decide) ?_
      replace h := Option.some.inj h
      subst h
      exact g_iret B hE (Nat.zero_le _) (Nat.zero_le _) dX11_mate_41
set_option maxRecDepth 100000 in
set_option maxHeartbeats 4000000 in
theorem cX12_initc {l : Launch} {v0 : Option Nat} {v1 : Option Nat} {v2 : Option Nat} {σ : HpT} {σ' : HpT} (h : fX12_init v0 v1 v2 σ = some σ') : IsK σ v0 14 ∧ Ct l yX12_init cX12_init 3 none 1 21 [va_rf v0, va_rf v1, va_rf v2] σ (.ok none) σ' 0 0 := by
  unfold fX12_init at h
  replace h := bnP_s h
  obtain ⟨u, hk, h⟩ := h
  replace hk := isK_s hk
  refine ⟨hk, ?_⟩
  refine ct_start mi_X12_init.1 rfl (al_le (al_1 (rf_cat _) (al_1 (rf_cat _) (al_1 (rf_cat _) al_n))) (Nat.le_of_ble_eq_true rfl)) (ag_1 (rf_cat _) (ag_1 (rf_cat _) (ag_1 (rf_cat _) ag_n))) (fun Δ Γ B hE hnm => ?_)
  refine g_aload_n B 0 dX12_init_0 rfl rfl ?_
  refine g_objInit9 B hk obj_RX12_1 (by decide) (Nat.le_of_ble_eq_true rfl) dX12_init_1 ?_
  refine g_aload_n B 0 dX12_init_4 rfl rfl ?_
  refine g_ldcS B (j := 39) rfl dX12_init_5 ?_
  replace h := bnP_s h
  obtain ⟨s3, h2, h⟩ := h
  refine g_putR B fl_RX12_9 (by decide) (Or.inl ⟨_, rfl⟩) dX12_init_7 h2 ?_
  refine g_aload_n B 0 dX12_init_10 rfl rfl ?_
  refine g_aload_n B 1 dX12_init_11 rfl rfl ?_
  replace h := bnP_s h
  obtain ⟨s6, h5, h⟩ := h
  refine g_putRF B fl_RX12_15 (by decide) (Or.inl ⟨_, rfl⟩) hnm dX12_init_12 h5 ?_
  refine g_aload_n B 0 dX12_init_15 rfl rfl ?_
  refine g_aload_n B 2 dX12_init_16 rfl rfl ?_
  replace h := bnP_s h
  obtain ⟨s9, h8, h⟩ := h
  refine g_putRF B fl_RX12_18 (by decide) (Or.inr ⟨_, rfl⟩) hnm dX12_init_17 h8 ?_
  replace h := Option.some.inj h
  subst h
  exact g_vret B hE (Nat.zero_le _) (Nat.zero_le _) dX12_init_20
set_option maxRecDepth 100000 in
set_option maxHeartbeats 4000000 in
theorem cX11_beginc {l : Launch} {v0 : Option Nat} {v1 : Int32} {v2 : Int32} {σ : HpT} {o : Except Nat (Option Nat)} {σ' : HpT} {a b : Nat} (h : fX11_begin v0 v1 v2 σ = some (o, σ', a, b)) : IsK σ v0 13 ∧ Ct l yX11_begin cX11_begin 11 (some (.object "NotaryBookLaw$Act")) 6 171 [va_rf v0, .int v1, .int v2] σ (oA o) σ' a b := by
  unfold fX11_begin at h
  replace h := bnP_s h
  obtain ⟨u, hk, h⟩ := h
  replace hk := isK_s hk
  refine ⟨hk, ?_⟩
  refine ct_start mi_X11_begin.1 rfl (al_le (al_1 (rf_cat _) (al_1 rfl (al_1 rfl al_n))) (Nat.le_of_ble_eq_true rfl)) (ag_1 (rf_cat _) (ag_1 rfl (ag_1 rfl ag_n))) (fun Δ Γ B hE hnm => ?_)
  have hka : 0 + a = a := Nat.zero_add a
  have hkb : 0 + b = b := Nat.zero_add b
  have hla : a ≤ a := Nat.le_refl a
  have hlb : b ≤ b := Nat.le_refl b
  replace h := bnA_s h
  rcases h with ⟨e9, h2, e8⟩ | ⟨x1, s3, a4, b5, a6, b7, h2, h, ea, eb⟩
  · exact absurd h2 (by simp [nwA, nwR]; try (split <;> simp))
  · subst ea; subst eb
    have hka := bk hka
    have hkb := bk hkb
    refine g_new B nw_RX11_47 dX11_begin_0 h2 (Nat.le_trans (bm hka) hla) (Nat.le_trans (bm hkb) hlb) ?_
    refine g_dup B dX11_begin_3 (rf_cat _) ?_
    replace h := bnO_s h
    obtain ⟨x8, s10, a11, b12, a13, b14, h9, h, ea, eb⟩ := h
    subst ea; subst eb
    have hka := bk hka
    have hkb := bk hkb
    refine g_callNIvA (st := [va_rf x1]) B (cX10_initc (o := .ok x8) h9) mi_X10_init lk_RX11_122 ⟨Nat.le_of_ble_eq_true rfl, Nat.le_of_ble_eq_true rfl⟩ rfl rfl (Nat.le_of_ble_eq_true rfl) dX11_begin_4 (Nat.le_trans (bm hka) hla) (Nat.le_trans (bm hkb) hlb) ?_
    refine g_astore_n B dX11_begin_7 rfl (Nat.le_of_ble_eq_true rfl) (s1_c (f1_k rfl (f1_k rfl (f1_1 rfl rfl f1_n)))) ?_
    refine g_aload_n B 0 dX11_begin_8 rfl rfl ?_
    refine g_iload_n B 2 dX11_begin_9 rfl rfl ?_
    replace h := bnP_s h
    obtain ⟨s17, h16, h⟩ := h
    refine g_putNI B fn_RX11_123 (by decide) dX11_begin_10 h16 ?_
    replace h := bnA_s h
    rcases h with ⟨e9, h19, e8⟩ | ⟨x18, s20, a21, b22, a23, b24, h19, h, ea, eb⟩
    · exact absurd h19 (by simp [nwA, nwR]; try (split <;> simp))
    · subst ea; subst eb
      have hka := bk hka
      have hkb := bk hkb
      refine g_new B nw_RX11_126 dX11_begin_13 h19 (Nat.le_trans (bm hka) hla) (Nat.le_trans (bm hkb) hlb) ?_
      refine g_dup B dX11_begin_16 (rf_cat _) ?_
      replace h := bnO_s h
      obtain ⟨x25, s27, a28, b29, a30, b31, h26, h, ea, eb⟩ := h
      subst ea; subst eb
      have hka := bk hka
      have hkb := bk hkb
      refine g_callIvA (st := [va_rf x18]) B (cJ4_init_da8c8c (o := .ok x25) h26) mi_J4_init_da8c8 lk_RX11_128 ⟨Nat.le_of_ble_eq_true rfl, Nat.le_of_ble_eq_true rfl⟩ rfl rfl (Nat.le_of_ble_eq_true rfl) dX11_begin_17 (Nat.le_trans (bm hka) hla) (Nat.le_trans (bm hkb) hlb) ?_
      refine g_astore B dX11_begin_20 (Nat.le_of_ble_eq_true rfl) (s1_c (f1_1 rfl (rf_cat _) (f1_k rfl (f1_k rfl (f1_k rfl f1_n))))) ?_
      refine g_iconst (v := 0) B dX11_begin_22 (by decide) ?_
      replace h := bnA_s h
      rcases h with ⟨e9, h33, e8⟩ | ⟨x32, s34, a35, b36, a37, b38, h33, h, ea, eb⟩
      · exact absurd h33 (by simp [nwA, nwR]; try (split <;> simp))
      · subst ea; subst eb
        have hka := bk hka
        have hkb := bk hkb
        refine g_newarr B (Or.inl ⟨rfl, rfl⟩) na_int dX11_begin_23 h33 (Nat.le_trans (bm hka) hla) (Nat.le_trans (bm hkb) hlb) ?_
        refine g_astore B dX11_begin_25 (Nat.le_of_ble_eq_true rfl) (s1_c (f1_1 rfl (rf_cat _) (f1_k rfl (f1_k rfl (f1_k rfl (f1_k rfl f1_n)))))) ?_
        refine g_aload_n B 3 dX11_begin_27 rfl rfl ?_
        replace h := bnP_s h
        obtain ⟨x39, h40, h⟩ := h
        refine g_getR B fl_RX11_12 (by decide) dX11_begin_28 h40 ?_
        refine g_aload_n B 2 dX11_begin_31 rfl rfl ?_
        replace h := bnO_s h
        obtain ⟨x41, s43, a44, b45, a46, b47, h42, h, ea, eb⟩ := h
        subst ea; subst eb
        have hka := bk hka
        have hkb := bk hkb
        refine g_callVsA (st := []) B (cJx4a65c_add_9ea2dc (o := .ok x41) h42) (Nat.le_of_ble_eq_true rfl) rfl rfl mi_Jx4a65c_add_9ea2d lk_RX11_53 ⟨Nat.le_of_ble_eq_true rfl, Nat.le_of_ble_eq_true rfl⟩ rfl rfl (Nat.le_of_ble_eq_true rfl) dX11_begin_32 (Nat.le_trans (bm hka) hla) (Nat.le_trans (bm hkb) hlb) ?_
        refine g_pop B dX11_begin_35 rfl ?_
        refine g_iconst (v := 0) B dX11_begin_36 (by decide) ?_
        refine g_istore B dX11_begin_37 (Nat.le_of_ble_eq_true rfl) (s1_c (f1_1 rfl (rf_cat _) (f1_k rfl (f1_k rfl (f1_k rfl (f1_k rfl (f1_k rfl f1_n))))))) ?_
        replace h := bnA_o h
        obtain ⟨z252, s210, a211, b212, h50, er56o, h, la, lb⟩ := h
        have kE51 : ∀ r49, z252 = .ok r49 → GW Δ Γ (0 + a4 + a11 + a21 + a28 + a35 + a44 + a211) (0 + b5 + b12 + b22 + b29 + b36 + b45 + b212) 315 [(3, va_rf x1), (4, va_rf x18), (5, va_rf r49)] [] s210 := by
          intro r49 ej
          replace h := h _ ej
          obtain ⟨a213, b214, h, ea, eb⟩ := h
          subst ea; subst eb
          have hka := bk hka
          have hkb := bk hkb
          refine g_iconst (v := 0) B dX11_begin_315 (by decide) ?_
          refine g_istore B dX11_begin_316 (Nat.le_of_ble_eq_true rfl) (s1_c (f1_k rfl (f1_k rfl (f1_1 rfl (rf_cat _) f1_n)))) ?_
          replace h := bnA_o h
          obtain ⟨z251, s236, a237, b238, h217, er223o, h, la, lb⟩ := h
          have kE218 : ∀ r216, z251 = .ok r216 → GW Δ Γ (0 + a4 + a11 + a21 + a28 + a35 + a44 + a211 + a237) (0 + b5 + b12 + b22 + b29 + b36 + b45 + b212 + b238) 340 [(3, va_rf x1), (4, va_rf x18)] [] s236 := by
            intro r216 ej
            replace h := h _ ej
            obtain ⟨a239, b240, h, ea, eb⟩ := h
            subst ea; subst eb
            have hka := bk hka
            have hkb := bk hkb
            refine g_aload_n B 0 dX11_begin_340 rfl rfl ?_
            refine g_aload B 1 dX11_begin_341 rfl ?_
            replace h := bnO_s h
            obtain ⟨x241, s243, a244, b245, a246, b247, h242, h, ea, eb⟩ := h
            subst ea; subst eb
            have hka := bk hka
            have hkb := bk hkb
            refine g_callVsA (st := [va_rf x1]) B (cJ4_toString_0e30dc (o := .ok x241) h242) (Nat.le_of_ble_eq_true rfl) rfl rfl mi_J4_toString_0e30d lk_RX11_156 ⟨Nat.le_of_ble_eq_true rfl, Nat.le_of_ble_eq_true rfl⟩ rfl rfl (Nat.le_of_ble_eq_true rfl) dX11_begin_343 (Nat.le_trans (bm hka) hla) (Nat.le_trans (bm hkb) hlb) ?_
            replace h := bnP_s h
            obtain ⟨s250, h249, h⟩ := h
            refine g_putNR B fn_RX11_160 (by decide) (Or.inl ⟨_, rfl⟩) dX11_begin_346 h249 ?_
            refine g_aload_n B 0 dX11_begin_349 rfl rfl ?_
            obtain ⟨w1, w2, w3, w4⟩ := inA h
            clear h
            subst w1
            subst w2
            subst w3
            subst w4
            exact g_aret B hE (Or.inl ⟨_, rfl⟩) (Nat.le_trans (Nat.le_of_eq hka) hla) (Nat.le_trans (Nat.le_of_eq hkb) hlb) dX11_begin_350
          clear h
          refine g_sub [1, 2, 3, 0] rfl ?_
          have hla9 := Nat.le_trans (bj hka la) hla
          have hlb9 := Nat.le_trans (bj hkb lb) hlb
          refine lpA_w (I := fun q215 s224 ka225 kb226 => GW Δ Γ (ka225) (kb226) 318 [(3, va_rf x1), (4, va_rf x18), (5, va_rf r49), (6, .int q215)] [] s224) (r := z251) (σr := s236) (A := 0 + a4 + a11 + a21 + a28 + a35 + a44 + a211 + a237) (B := 0 + b5 + b12 + b22 + b29 + b36 + b45 + b212 + b238) ?_ FUEL 0 s210 _ _ _ _ h217 rfl rfl
          intro q215 s224 ka225 kb226 x222 s9 i9 j9 h hI220 hle9 hR221 er223i
          unfold fX11_begin_l2 at h
          have hka : ka225 + i9 = _ := rfl
          have hkb : kb226 + j9 = _ := rfl
          have hlab : ka225 + i9 ≤ 0 + a4 + a11 + a21 + a28 + a35 + a44 + a211 + a237 ∧ kb226 + j9 ≤ 0 + b5 + b12 + b22 + b29 + b36 + b45 + b212 + b238 := by
            rcases x222 with e | (x | x)
            · obtain ⟨-, -, e1, e2⟩ := er223i e rfl; exact ⟨Nat.le_of_eq e1, Nat.le_of_eq e2⟩
            · exact hle9 x rfl
            · obtain ⟨-, -, e1, e2⟩ := hR221 x rfl; exact ⟨Nat.le_of_eq e1, Nat.le_of_eq e2⟩
          have hla := Nat.le_trans hlab.1 hla9
          have hlb := Nat.le_trans hlab.2 hlb9
          have er223n : ∀ e, x222 = .error e → z251 = .error e ∧ s9 = s236 ∧ ka225 + i9 = 0 + a4 + a11 + a21 + a28 + a35 + a44 + a211 + a237 ∧ kb226 + j9 = 0 + b5 + b12 + b22 + b29 + b36 + b45 + b212 + b238 := fun e q => (fun r9 => ⟨r9.1, r9.2.1.symm, r9.2.2.1, r9.2.2.2⟩) (er223i e q)
          refine g_iload B 3 dX11_begin_318 rfl ?_
          refine g_aload B 2 dX11_begin_320 rfl ?_
          replace h := bnP_s h
          obtain ⟨x227, h228, h⟩ := h
          refine g_alen B (κ := 20) (by decide) dX11_begin_322 h228 ?_
          refine g_icmp_ge B 340 dX11_begin_323 (by decide) (fun hc => ?_) (fun hc => ?_)
          · replace h := ifp hc h
            obtain ⟨w1, w2, w3, w4⟩ := inA h
            clear h
            subst w1
            subst w2
            subst w3
            subst w4
            obtain ⟨e8, e7, e6, e5⟩ := hR221 _ rfl
            subst e8
            subst e7
            refine g_cost (by omega) (by omega) ?_
            exact g_sub [0, 1] rfl (kE218 _ rfl)
          · replace h := ifn hc h
            refine g_aload B 1 dX11_begin_326 rfl ?_
            refine g_bipush (v := 41) B dX11_begin_328 (by decide) ?_
            replace h := bnO_s h
            obtain ⟨x229, s231, a232, b233, a234, b235, h230, h, ea, eb⟩ := h
            subst ea; subst eb
            have hka := bk hka
            have hkb := bk hkb
            refine g_callVsA (st := []) B (cJ4_append_cf468c (o := .ok x229) h230) (Nat.le_of_ble_eq_true rfl) rfl rfl mi_J4_append_cf468 lk_RX11_138 ⟨Nat.le_of_ble_eq_true rfl, Nat.le_of_ble_eq_true rfl⟩ rfl rfl (Nat.le_of_ble_eq_true rfl) dX11_begin_330 (Nat.le_trans (bm hka) hla) (Nat.le_trans (bm hkb) hlb) ?_
            refine g_pop B dX11_begin_333 (rf_cat _) ?_
            refine g_iinc (v := (q215 + 1)) B 3 dX11_begin_334 rfl (by first | rfl | (congr 1; decide)) (Nat.le_of_ble_eq_true rfl) (s1_c (f1_k rfl (f1_k rfl (f1_1 rfl (rf_cat _) (f1_x f1_n))))) ?_
            refine g_goto B 318 dX11_begin_337 (by decide) ?_
            obtain ⟨w1, w2, w3, w4⟩ := inA h
            clear h
            subst w1
            subst w2
            subst w3
            subst w4
            refine g_cost (by omega) (by omega) ?_
            exact g_sub [1, 2, 3, 0] rfl (hI220 _ rfl)
        clear h
        refine g_sub [4, 6, 3, 2, 1, 0] rfl ?_
        have hla9 := Nat.le_trans (bj hka la) hla
        have hlb9 := Nat.le_trans (bj hkb lb) hlb
        refine lpA_w (I := fun q48 s57 ka58 kb59 => GW Δ Γ (ka58) (kb59) 39 [(0, va_rf v0), (2, .int v2), (3, va_rf x1), (4, va_rf x18), (5, va_rf q48.1), (6, .int q48.2)] [] s57) (r := z252) (σr := s210) (A := 0 + a4 + a11 + a21 + a28 + a35 + a44 + a211) (B := 0 + b5 + b12 + b22 + b29 + b36 + b45 + b212) ?_ FUEL (x32, 0) s43 _ _ _ _ h50 rfl rfl
        intro q48 s57 ka58 kb59 x55 s9 i9 j9 h hI53 hle9 hR54 er56i
        unfold fX11_begin_l1 at h
        have hka : ka58 + i9 = _ := rfl
        have hkb : kb59 + j9 = _ := rfl
        have hlab : ka58 + i9 ≤ 0 + a4 + a11 + a21 + a28 + a35 + a44 + a211 ∧ kb59 + j9 ≤ 0 + b5 + b12 + b22 + b29 + b36 + b45 + b212 := by
          rcases x55 with e | (x | x)
          · obtain ⟨-, -, e1, e2⟩ := er56i e rfl; exact ⟨Nat.le_of_eq e1, Nat.le_of_eq e2⟩
          · exact hle9 x rfl
          · obtain ⟨-, -, e1, e2⟩ := hR54 x rfl; exact ⟨Nat.le_of_eq e1, Nat.le_of_eq e2⟩
        have hla := Nat.le_trans hlab.1 hla9
        have hlb := Nat.le_trans hlab.2 hlb9
        have er56n : ∀ e, x55 = .error e → z252 = .error e ∧ s9 = s210 ∧ ka58 + i9 = 0 + a4 + a11 + a21 + a28 + a35 + a44 + a211 ∧ kb59 + j9 = 0 + b5 + b12 + b22 + b29 + b36 + b45 + b212 := fun e q => (fun r9 => ⟨r9.1, r9.2.1.symm, r9.2.2.1, r9.2.2.2⟩) (er56i e q)
        refine g_iload B 5 dX11_begin_39 rfl ?_
        refine g_iconst (v := 2) B dX11_begin_41 (by decide) ?_
        refine g_iload_n B 1 dX11_begin_42 rfl rfl ?_
        refine g_iconst (v := 3) B dX11_begin_43 (by decide) ?_
        refine g_iand B dX11_begin_44 ?_
        refine g_iadd B dX11_begin_45 ?_
        refine g_icmp_ge B 315 dX11_begin_46 (by decide) (fun hc => ?_) (fun hc => ?_)
        · replace h := ifp hc h
          obtain ⟨w1, w2, w3, w4⟩ := inA h
          clear h
          subst w1
          subst w2
          subst w3
          subst w4
          obtain ⟨e8, e7, e6, e5⟩ := hR54 _ rfl
          subst e8
          subst e7
          refine g_cost (by omega) (by omega) ?_
          exact g_sub [2, 3, 4] rfl (kE51 _ rfl)
        · replace h := ifn hc h
          refine g_iload_n B 1 dX11_begin_49 rfl rfl ?_
          refine g_iconst (v := 2) B dX11_begin_50 (by decide) ?_
          refine g_iconst (v := 5) B dX11_begin_51 (by decide) ?_
          refine g_iload B 5 dX11_begin_52 rfl ?_
          refine g_imul B dX11_begin_54 ?_
          refine g_iadd B dX11_begin_55 ?_
          refine g_iushr B dX11_begin_56 ?_
          refine g_bipush (v := 31) B dX11_begin_57 (by decide) ?_
          refine g_iand B dX11_begin_59 ?_
          refine g_istore B dX11_begin_60 (Nat.le_of_ble_eq_true rfl) (s1_c (f1_k rfl (f1_k rfl (f1_k rfl (f1_k rfl (f1_k rfl (f1_1 rfl rfl f1_n))))))) ?_
          refine g_iload B 0 dX11_begin_62 rfl ?_
          refine g_iconst (v := 3) B dX11_begin_64 (by decide) ?_
          refine g_iand B dX11_begin_65 ?_
          replace h := bnA_o h
          obtain ⟨z209, s93, a94, b95, h61, er64, h, la, lb⟩ := h
          have k63 : ∀ j60, z209 = .ok j60 → GW Δ Γ (ka58 + a94) (kb59 + b95) 115 [(0, va_rf v0), (2, .int v2), (3, va_rf x1), (4, va_rf x18), (5, va_rf j60), (6, .int q48.2), (7, .int ((Int32.toUInt32 (v2) >>> (Int32.toUInt32 ((2 + (5 * q48.2))) &&& Int32.toUInt32 31)).toInt32 &&& 31))] [] s93 := by
            intro j60 ej
            replace h := h _ ej
            obtain ⟨a96, b97, h, ea, eb⟩ := h
            subst ea; subst eb
            have hka := bk hka
            have hkb := bk hkb
            refine g_ldcS B (j := 36) rfl dX11_begin_115 ?_
            refine g_iconst (v := 4) B dX11_begin_117 (by decide) ?_
            refine g_iload B 6 dX11_begin_118 rfl ?_
            refine g_iconst (v := 2) B dX11_begin_120 (by decide) ?_
            refine g_iushr B dX11_begin_121 ?_
            refine g_iconst (v := 3) B dX11_begin_122 (by decide) ?_
            refine g_iand B dX11_begin_123 ?_
            refine g_imul B dX11_begin_124 ?_
            refine g_iconst (v := 4) B dX11_begin_125 (by decide) ?_
            refine g_iload B 6 dX11_begin_126 rfl ?_
            refine g_iconst (v := 2) B dX11_begin_128 (by decide) ?_
            refine g_iushr B dX11_begin_129 ?_
            refine g_iconst (v := 3) B dX11_begin_130 (by decide) ?_
            refine g_iand B dX11_begin_131 ?_
            refine g_imul B dX11_begin_132 ?_
            refine g_iconst (v := 2) B dX11_begin_133 (by decide) ?_
            refine g_iadd B dX11_begin_134 ?_
            refine g_iload B 6 dX11_begin_135 rfl ?_
            refine g_iconst (v := 2) B dX11_begin_137 (by decide) ?_
            refine g_iushr B dX11_begin_138 ?_
            refine g_iconst (v := 1) B dX11_begin_139 (by decide) ?_
            refine g_iand B dX11_begin_140 ?_
            refine g_iadd B dX11_begin_141 ?_
            replace h := bnO_s h
            obtain ⟨x98, s100, a101, b102, a103, b104, h99, h, ea, eb⟩ := h
            subst ea; subst eb
            have hka := bk hka
            have hkb := bk hkb
            refine g_callQsA (st := []) B (cJ0_substring_37a41c (o := .ok x98) h99) rfl mi_J0_substring_37a41 lk_RX11_144 ⟨Nat.le_of_ble_eq_true rfl, Nat.le_of_ble_eq_true rfl⟩ rfl rfl (Nat.le_of_ble_eq_true rfl) dX11_begin_142 (Nat.le_trans (bm hka) hla) (Nat.le_trans (bm hkb) hlb) ?_
            refine g_astore B dX11_begin_145 (Nat.le_of_ble_eq_true rfl) (s1_c (f1_k rfl (f1_k rfl (f1_k rfl (f1_k rfl (f1_k rfl (f1_k rfl (f1_1 rfl rfl f1_n)))))))) ?_
            refine g_aload_n B 3 dX11_begin_147 rfl rfl ?_
            replace h := bnP_s h
            obtain ⟨x105, h106, h⟩ := h
            refine g_getNR B fn_RX11_64 (by decide) dX11_begin_148 h106 ?_
            replace h := bnA_s h
            rcases h with ⟨e9, h108, e8⟩ | ⟨x107, s109, a110, b111, a112, b113, h108, h, ea, eb⟩
            · exact absurd h108 (by simp [nwA, nwR]; try (split <;> simp))
            · subst ea; subst eb
              have hka := bk hka
              have hkb := bk hkb
              refine g_new B nw_RX11_113 dX11_begin_151 h108 (Nat.le_trans (bm hka) hla) (Nat.le_trans (bm hkb) hlb) ?_
              refine g_dup B dX11_begin_154 (rf_cat _) ?_
              refine g_aload B 0 dX11_begin_155 rfl ?_
              refine g_aload B 5 dX11_begin_157 rfl ?_
              replace h := bnP_s h
              obtain ⟨s116, h115, h⟩ := h
              refine g_callIv0 (st := [va_rf x107, va_rf x105]) B (cX12_initc h115) mi_X12_init lk_RX11_150 ⟨Nat.le_of_ble_eq_true rfl, Nat.le_of_ble_eq_true rfl⟩ rfl rfl (Nat.le_of_ble_eq_true rfl) dX11_begin_159 (Nat.le_trans (bm hka) hla) (Nat.le_trans (bm hkb) hlb) ?_
              replace h := bnO_s h
              obtain ⟨x117, s119, a120, b121, a122, b123, h118, h, ea, eb⟩ := h
              subst ea; subst eb
              have hka := bk hka
              have hkb := bk hkb
              refine g_callVsA (st := []) B (cJx4a65c_add_9ea2dc (o := .ok x117) h118) (Nat.le_of_ble_eq_true rfl) rfl rfl mi_Jx4a65c_add_9ea2d lk_RX11_53 ⟨Nat.le_of_ble_eq_true rfl, Nat.le_of_ble_eq_true rfl⟩ rfl rfl (Nat.le_of_ble_eq_true rfl) dX11_begin_162 (Nat.le_trans (bm hka) hla) (Nat.le_trans (bm hkb) hlb) ?_
              refine g_pop B dX11_begin_165 rfl ?_
              refine g_aload B 4 dX11_begin_166 rfl ?_
              refine g_bipush (v := 32) B dX11_begin_168 (by decide) ?_
              replace h := bnO_s h
              obtain ⟨x124, s126, a127, b128, a129, b130, h125, h, ea, eb⟩ := h
              subst ea; subst eb
              have hka := bk hka
              have hkb := bk hkb
              refine g_callVsA (st := []) B (cJ4_append_cf468c (o := .ok x124) h125) (Nat.le_of_ble_eq_true rfl) rfl rfl mi_J4_append_cf468 lk_RX11_138 ⟨Nat.le_of_ble_eq_true rfl, Nat.le_of_ble_eq_true rfl⟩ rfl rfl (Nat.le_of_ble_eq_true rfl) dX11_begin_170 (Nat.le_trans (bm hka) hla) (Nat.le_trans (bm hkb) hlb) ?_
              refine g_aload B 0 dX11_begin_173 rfl ?_
              replace h := bnO_s h
              obtain ⟨x131, s133, a134, b135, a136, b137, h132, h, ea, eb⟩ := h
              subst ea; subst eb
              have hka := bk hka
              have hkb := bk hkb
              refine g_callVsA (st := []) B (cJ4_append_15ec4c (o := .ok x131) h132) (Nat.le_of_ble_eq_true rfl) rfl rfl mi_J4_append_15ec4 lk_RX11_153 ⟨Nat.le_of_ble_eq_true rfl, Nat.le_of_ble_eq_true rfl⟩ rfl rfl (Nat.le_of_ble_eq_true rfl) dX11_begin_175 (Nat.le_trans (bm hka) hla) (Nat.le_trans (bm hkb) hlb) ?_
              refine g_pop B dX11_begin_178 (rf_cat _) ?_
              refine g_aload_n B 1 dX11_begin_179 rfl rfl ?_
              replace h := bnP_s h
              obtain ⟨x138, h139, h⟩ := h
              refine g_callVs0 (st := []) B (cX11_wordsc h139) (Nat.le_of_ble_eq_true rfl) rfl rfl mi_X11_words lk_RX11_67 ⟨Nat.le_of_ble_eq_true rfl, Nat.le_of_ble_eq_true rfl⟩ rfl rfl (Nat.le_of_ble_eq_true rfl) dX11_begin_180 (Nat.le_trans (bm hka) hla) (Nat.le_trans (bm hkb) hlb) ?_
              refine g_iconst (v := 1) B dX11_begin_183 (by decide) ?_
              refine g_isub B dX11_begin_184 ?_
              refine g_istore B dX11_begin_185 (Nat.le_of_ble_eq_true rfl) (s1_c (f1_1 rfl (rf_cat _) (f1_k rfl (f1_k rfl (f1_k rfl (f1_k rfl (f1_k rfl (f1_k rfl (f1_k rfl f1_n))))))))) ?_
              refine g_iload B 0 dX11_begin_187 rfl ?_
              refine g_aload_n B 2 dX11_begin_189 rfl rfl ?_
              replace h := bnP_s h
              obtain ⟨x140, h141, h⟩ := h
              refine g_getI B fl_RX11_26 (by decide) dX11_begin_190 h141 ?_
              replace h := bnP_s h
              obtain ⟨u142, h143, h⟩ := h
              refine g_irem B dX11_begin_193 (nz_s h143) ?_
              replace h := bnS_s h
              obtain ⟨j144, s190, h145, h⟩ := h
              have k147 : GW Δ Γ (ka58 + a94 + a101 + a110 + a120 + a127 + a134) (kb59 + b95 + b102 + b111 + b121 + b128 + b135) 275 [(0, va_rf v0), (2, .int v2), (3, va_rf x1), (4, va_rf x18), (5, va_rf j60), (6, .int q48.2), (7, .int ((Int32.toUInt32 (v2) >>> (Int32.toUInt32 ((2 + (5 * q48.2))) &&& Int32.toUInt32 31)).toInt32 &&& 31))] [] s190 := by
                refine g_iload B 6 dX11_begin_275 rfl ?_
                refine g_bipush (v := 16) B dX11_begin_277 (by decide) ?_
                refine g_iand B dX11_begin_279 ?_
                refine g_if_eq B 309 dX11_begin_280 (by decide) (fun hc => ?_) (fun hc => ?_)
                · replace h := ifp hc h
                  refine g_iinc (v := (q48.2 + 1)) B 5 dX11_begin_309 rfl (by first | rfl | (congr 1; decide)) (Nat.le_of_ble_eq_true rfl) (s1_c (f1_k rfl (f1_k rfl (f1_k rfl (f1_k rfl (f1_1 rfl (rf_cat _) (f1_x (f1_k rfl f1_n)))))))) ?_
                  refine g_goto B 39 dX11_begin_312 (by decide) ?_
                  obtain ⟨w1, w2, w3, w4⟩ := inA h
                  clear h
                  subst w1
                  subst w2
                  subst w3
                  subst w4
                  refine g_cost (by omega) (by omega) ?_
                  exact g_sub [1, 2, 3, 4, 5, 0] rfl (hI53 _ rfl)
                · replace h := ifn hc h
                  refine g_aload B 4 dX11_begin_283 rfl ?_
                  replace h := bnP_s h
                  obtain ⟨x191, h192, h⟩ := h
                  refine g_alen B (κ := 20) (by decide) dX11_begin_285 h192 ?_
                  refine g_if_le B 309 dX11_begin_286 (by decide) (fun hc => ?_) (fun hc => ?_)
                  · replace h := ifp hc h
                    refine g_iinc (v := (q48.2 + 1)) B 5 dX11_begin_309 rfl (by first | rfl | (congr 1; decide)) (Nat.le_of_ble_eq_true rfl) (s1_c (f1_k rfl (f1_k rfl (f1_k rfl (f1_k rfl (f1_1 rfl (rf_cat _) (f1_x (f1_k rfl f1_n)))))))) ?_
                    refine g_goto B 39 dX11_begin_312 (by decide) ?_
                    obtain ⟨w1, w2, w3, w4⟩ := inA h
                    clear h
                    subst w1
                    subst w2
                    subst w3
                    subst w4
                    refine g_cost (by omega) (by omega) ?_
                    exact g_sub [1, 2, 3, 4, 5, 0] rfl (hI53 _ rfl)
                  · replace h := ifn hc h
                    refine g_aload B 4 dX11_begin_289 rfl ?_
                    refine g_aload B 4 dX11_begin_291 rfl ?_
                    replace h := bnP_s h
                    obtain ⟨x193, h194, h⟩ := h
                    refine g_alen B (κ := 20) (by decide) dX11_begin_293 h194 ?_
                    refine g_iconst (v := 1) B dX11_begin_294 (by decide) ?_
                    refine g_isub B dX11_begin_295 ?_
                    replace h := bnO_s h
                    obtain ⟨x195, s197, a198, b199, a200, b201, h196, h, ea, eb⟩ := h
                    subst ea; subst eb
                    have hka := bk hka
                    have hkb := bk hkb
                    refine g_callSsA (st := []) B (cJ7_copyOf_59c91c (o := .ok x195) h196) mi_J7_copyOf_59c91 lk_RX11_129 ⟨Nat.le_of_ble_eq_true rfl, Nat.le_of_ble_eq_true rfl⟩ rfl rfl (Nat.le_of_ble_eq_true rfl) dX11_begin_296 (Nat.le_trans (bm hka) hla) (Nat.le_trans (bm hkb) hlb) ?_
                    refine g_astore B dX11_begin_299 (Nat.le_of_ble_eq_true rfl) (s1_c (f1_k rfl (f1_k rfl (f1_k rfl (f1_1 rfl (rf_cat _) (f1_x (f1_k rfl (f1_k rfl f1_n)))))))) ?_
                    refine g_aload B 4 dX11_begin_301 rfl ?_
                    refine g_bipush (v := 41) B dX11_begin_303 (by decide) ?_
                    replace h := bnO_s h
                    obtain ⟨x202, s204, a205, b206, a207, b208, h203, h, ea, eb⟩ := h
                    subst ea; subst eb
                    have hka := bk hka
                    have hkb := bk hkb
                    refine g_callVsA (st := []) B (cJ4_append_cf468c (o := .ok x202) h203) (Nat.le_of_ble_eq_true rfl) rfl rfl mi_J4_append_cf468 lk_RX11_138 ⟨Nat.le_of_ble_eq_true rfl, Nat.le_of_ble_eq_true rfl⟩ rfl rfl (Nat.le_of_ble_eq_true rfl) dX11_begin_305 (Nat.le_trans (bm hka) hla) (Nat.le_trans (bm hkb) hlb) ?_
                    refine g_pop B dX11_begin_308 (rf_cat _) ?_
                    refine g_iinc (v := (q48.2 + 1)) B 5 dX11_begin_309 rfl (by first | rfl | (congr 1; decide)) (Nat.le_of_ble_eq_true rfl) (s1_c (f1_1 rfl (rf_cat _) (f1_k rfl (f1_k rfl (f1_k rfl (f1_k rfl (f1_x (f1_k rfl f1_n)))))))) ?_
                    refine g_goto B 39 dX11_begin_312 (by decide) ?_
                    obtain ⟨w1, w2, w3, w4⟩ := inA h
                    clear h
                    subst w1
                    subst w2
                    subst w3
                    subst w4
                    refine g_cost (by omega) (by omega) ?_
                    exact g_sub [2, 3, 4, 5, 1, 0] rfl (hI53 _ rfl)
              clear h
              have h := h145
              clear h145
              refine g_if_ne B 246 dX11_begin_194 (by decide) (fun hc => ?_) (fun hc => ?_)
              · replace h := ifn hc h
                refine g_aload_n B 2 dX11_begin_246 rfl rfl ?_
                replace h := bnP_s h
                obtain ⟨x149, h150, h⟩ := h
                refine g_getR B fl_RX11_21 (by decide) dX11_begin_247 h150 ?_
                refine g_iload B 0 dX11_begin_250 rfl ?_
                refine g_aload_n B 2 dX11_begin_252 rfl rfl ?_
                replace h := bnP_s h
                obtain ⟨x151, h152, h⟩ := h
                refine g_getI B fl_RX11_26 (by decide) dX11_begin_253 h152 ?_
                replace h := bnP_s h
                obtain ⟨u153, h154, h⟩ := h
                refine g_idiv B dX11_begin_256 (nz_s h154) ?_
                replace h := bnP_s h
                obtain ⟨x155, h156, h⟩ := h
                refine g_iald B dX11_begin_257 h156 ?_
                refine g_iconst (v := 2) B dX11_begin_258 (by decide) ?_
                refine g_icmp_ne B 275 dX11_begin_259 (by decide) (fun hc => ?_) (fun hc => ?_)
                · replace h := ifn hc h
                  obtain ⟨w1, w2⟩ := inS h
                  clear h
                  subst w1
                  subst w2
                  exact g_sub [2, 3, 4, 5, 6, 7, 8] rfl k147
                · replace h := ifp hc h
                  refine g_aload_n B 2 dX11_begin_262 rfl rfl ?_
                  replace h := bnP_s h
                  obtain ⟨x157, h158, h⟩ := h
                  refine g_getR B fl_RX11_21 (by decide) dX11_begin_263 h158 ?_
                  refine g_iload B 0 dX11_begin_266 rfl ?_
                  refine g_aload_n B 2 dX11_begin_268 rfl rfl ?_
                  replace h := bnP_s h
                  obtain ⟨x159, h160, h⟩ := h
                  refine g_getI B fl_RX11_26 (by decide) dX11_begin_269 h160 ?_
                  replace h := bnP_s h
                  obtain ⟨u161, h162, h⟩ := h
                  refine g_idiv B dX11_begin_272 (nz_s h162) ?_
                  refine g_iconst (v := 0) B dX11_begin_273 (by decide) ?_
                  replace h := bnP_s h
                  obtain ⟨s165, h164, h⟩ := h
                  refine g_iast B dX11_begin_274 h164 ?_
                  obtain ⟨w1, w2⟩ := inS h
                  clear h
                  subst w1
                  subst w2
                  exact g_sub [2, 3, 4, 5, 6, 7, 8] rfl k147
              · replace h := ifp hc h
                refine g_aload_n B 2 dX11_begin_197 rfl rfl ?_
                refine g_iload B 0 dX11_begin_198 rfl ?_
                refine g_aload_n B 2 dX11_begin_200 rfl rfl ?_
                replace h := bnP_s h
                obtain ⟨x166, h167, h⟩ := h
                refine g_getI B fl_RX11_26 (by decide) dX11_begin_201 h167 ?_
                replace h := bnP_s h
                obtain ⟨u168, h169, h⟩ := h
                refine g_idiv B dX11_begin_204 (nz_s h169) ?_
                replace h := bnP_s h
                obtain ⟨x170, h171, h⟩ := h
                refine g_callVs0 (st := []) B (cX11_matec h171) (Nat.le_of_ble_eq_true rfl) rfl rfl mi_X11_mate lk_RX11_76 ⟨Nat.le_of_ble_eq_true rfl, Nat.le_of_ble_eq_true rfl⟩ rfl rfl (Nat.le_of_ble_eq_true rfl) dX11_begin_205 (Nat.le_trans (bm hka) hla) (Nat.le_trans (bm hkb) hlb) ?_
                refine g_istore B dX11_begin_208 (Nat.le_of_ble_eq_true rfl) (s1_c (f1_1 rfl rfl (f1_k rfl (f1_k rfl (f1_k rfl (f1_k rfl (f1_k rfl (f1_k rfl (f1_k rfl (f1_k rfl f1_n)))))))))) ?_
                refine g_aload_n B 3 dX11_begin_210 rfl rfl ?_
                replace h := bnP_s h
                obtain ⟨x172, h173, h⟩ := h
                refine g_getR B fl_RX11_21 (by decide) dX11_begin_211 h173 ?_
                refine g_iload B 1 dX11_begin_214 rfl ?_
                refine g_aload_n B 3 dX11_begin_216 rfl rfl ?_
                replace h := bnP_s h
                obtain ⟨x174, h175, h⟩ := h
                refine g_getI B fl_RX11_26 (by decide) dX11_begin_217 h175 ?_
                replace h := bnP_s h
                obtain ⟨u176, h177, h⟩ := h
                refine g_idiv B dX11_begin_220 (nz_s h177) ?_
                refine g_iload B 0 dX11_begin_221 rfl ?_
                replace h := bnP_s h
                obtain ⟨j178, h179, h⟩ := h
                have k181 : GW Δ Γ (ka58 + a94 + a101 + a110 + a120 + a127 + a134) (kb59 + b95 + b102 + b111 + b121 + b128 + b135) 242 [(0, va_rf v0), (2, .int v2), (3, va_rf x1), (4, va_rf x18), (5, va_rf j60), (6, .int q48.2), (7, .int ((Int32.toUInt32 (v2) >>> (Int32.toUInt32 ((2 + (5 * q48.2))) &&& Int32.toUInt32 31)).toInt32 &&& 31))] [.int j178.2.2, .int j178.2.1, va_rf j178.1] s133 := by
                  replace h := bnP_s h
                  obtain ⟨s189, h188, h⟩ := h
                  refine g_iast B dX11_begin_242 h188 ?_
                  refine g_goto B 275 dX11_begin_243 (by decide) ?_
                  obtain ⟨w1, w2⟩ := inS h
                  clear h
                  subst w1
                  subst w2
                  exact g_sub [0, 1, 2, 3, 4, 5, 6] rfl k147
                clear h
                have h := h179
                clear h179
                refine g_if_lt B 241 dX11_begin_223 (by decide) (fun hc => ?_) (fun hc => ?_)
                · replace h := ifp hc h
                  refine g_iconst (v := 0) B dX11_begin_241 (by decide) ?_
                  replace h := Option.some.inj h
                  subst h
                  exact g_sub [3, 4, 5, 6, 7, 8, 9] rfl k181
                · replace h := ifn hc h
                  refine g_aload_n B 3 dX11_begin_226 rfl rfl ?_
                  replace h := bnP_s h
                  obtain ⟨x183, h184, h⟩ := h
                  refine g_getR B fl_RX11_21 (by decide) dX11_begin_227 h184 ?_
                  refine g_iload B 0 dX11_begin_230 rfl ?_
                  replace h := bnP_s h
                  obtain ⟨x185, h186, h⟩ := h
                  refine g_iald B dX11_begin_232 h186 ?_
                  refine g_iconst (v := 2) B dX11_begin_233 (by decide) ?_
                  refine g_icmp_ne B 241 dX11_begin_234 (by decide) (fun hc => ?_) (fun hc => ?_)
                  · replace h := ifn hc h
                    refine g_iconst (v := 0) B dX11_begin_241 (by decide) ?_
                    replace h := Option.some.inj h
                    subst h
                    exact g_sub [3, 4, 5, 6, 7, 8, 9] rfl k181
                  · replace h := ifp hc h
                    refine g_iconst (v := 1) B dX11_begin_237 (by decide) ?_
                    refine g_goto B 242 dX11_begin_238 (by decide) ?_
                    replace h := Option.some.inj h
                    subst h
                    exact g_sub [3, 4, 5, 6, 7, 8, 9] rfl k181
          clear h
          have h := h61
          clear h61
          replace hla := Nat.le_trans (bj hka la) hla
          replace hlb := Nat.le_trans (bj hkb lb) hlb
          replace hka : ka58 + a94 = _ := rfl
          replace hkb : kb59 + b95 = _ := rfl
          refine g_if_ne B 115 dX11_begin_66 (by decide) (fun hc => ?_) (fun hc => ?_)
          · replace h := ifn hc h
            obtain ⟨w1, w2, w3, w4⟩ := inA h
            clear h
            subst w1
            subst w2
            subst w3
            subst w4
            refine g_cost hka hkb ?_
            exact g_sub [1, 2, 3, 4, 5, 6, 0] rfl (k63 _ rfl)
          · replace h := ifp hc h
            refine g_aload B 5 dX11_begin_69 rfl ?_
            replace h := bnP_s h
            obtain ⟨x65, h66, h⟩ := h
            refine g_alen B (κ := 20) (by decide) dX11_begin_71 h66 ?_
            refine g_iconst (v := 4) B dX11_begin_72 (by decide) ?_
            refine g_icmp_ge B 115 dX11_begin_73 (by decide) (fun hc => ?_) (fun hc => ?_)
            · replace h := ifp hc h
              obtain ⟨w1, w2, w3, w4⟩ := inA h
              clear h
              subst w1
              subst w2
              subst w3
              subst w4
              refine g_cost hka hkb ?_
              exact g_sub [1, 2, 3, 4, 5, 6, 0] rfl (k63 _ rfl)
            · replace h := ifn hc h
              refine g_aload B 5 dX11_begin_76 rfl ?_
              refine g_aload B 5 dX11_begin_78 rfl ?_
              replace h := bnP_s h
              obtain ⟨x67, h68, h⟩ := h
              refine g_alen B (κ := 20) (by decide) dX11_begin_80 h68 ?_
              refine g_iconst (v := 1) B dX11_begin_81 (by decide) ?_
              refine g_iadd B dX11_begin_82 ?_
              replace h := bnO_s h
              obtain ⟨x69, s71, a72, b73, a74, b75, h70, h, ea, eb⟩ := h
              subst ea; subst eb
              have hka := bk hka
              have hkb := bk hkb
              refine g_callSsA (st := []) B (cJ7_copyOf_59c91c (o := .ok x69) h70) mi_J7_copyOf_59c91 lk_RX11_129 ⟨Nat.le_of_ble_eq_true rfl, Nat.le_of_ble_eq_true rfl⟩ rfl rfl (Nat.le_of_ble_eq_true rfl) dX11_begin_83 (Nat.le_trans (bm hka) hla) (Nat.le_trans (bm hkb) hlb) ?_
              refine g_astore B dX11_begin_86 (Nat.le_of_ble_eq_true rfl) (s1_c (f1_k rfl (f1_k rfl (f1_k rfl (f1_k rfl (f1_1 rfl (rf_cat _) (f1_x (f1_k rfl f1_n)))))))) ?_
              refine g_aload B 0 dX11_begin_88 rfl ?_
              refine g_aload B 0 dX11_begin_90 rfl ?_
              replace h := bnP_s h
              obtain ⟨x76, h77, h⟩ := h
              refine g_alen B (κ := 20) (by decide) dX11_begin_92 h77 ?_
              refine g_iconst (v := 1) B dX11_begin_93 (by decide) ?_
              refine g_isub B dX11_begin_94 ?_
              refine g_aload_n B 4 dX11_begin_95 rfl rfl ?_
              refine g_dup B dX11_begin_96 (rf_cat _) ?_
              replace h := bnP_s h
              obtain ⟨x78, h79, h⟩ := h
              refine g_getNI B fn_RX11_135 (by decide) dX11_begin_97 h79 ?_
              refine g_dup_x1 B dX11_begin_100 rfl (rf_cat _) ?_
              refine g_iconst (v := 1) B dX11_begin_101 (by decide) ?_
              refine g_iadd B dX11_begin_102 ?_
              replace h := bnP_s h
              obtain ⟨s82, h81, h⟩ := h
              refine g_putNI B fn_RX11_135 (by decide) dX11_begin_103 h81 ?_
              replace h := bnP_s h
              obtain ⟨s85, h84, h⟩ := h
              refine g_iast B dX11_begin_106 h84 ?_
              refine g_aload B 5 dX11_begin_107 rfl ?_
              refine g_bipush (v := 40) B dX11_begin_109 (by decide) ?_
              replace h := bnO_s h
              obtain ⟨x86, s88, a89, b90, a91, b92, h87, h, ea, eb⟩ := h
              subst ea; subst eb
              have hka := bk hka
              have hkb := bk hkb
              refine g_callVsA (st := []) B (cJ4_append_cf468c (o := .ok x86) h87) (Nat.le_of_ble_eq_true rfl) rfl rfl mi_J4_append_cf468 lk_RX11_138 ⟨Nat.le_of_ble_eq_true rfl, Nat.le_of_ble_eq_true rfl⟩ rfl rfl (Nat.le_of_ble_eq_true rfl) dX11_begin_111 (Nat.le_trans (bm hka) hla) (Nat.le_trans (bm hkb) hlb) ?_
              refine g_pop B dX11_begin_114 (rf_cat _) ?_
              obtain ⟨w1, w2, w3, w4⟩ := inA h
              clear h
              subst w1
              subst w2
              subst w3
              subst w4
              refine g_cost hka hkb ?_
              exact g_sub [2, 3, 4, 5, 0, 6, 1] rfl (k63 _ rfl)
set_option maxRecDepth 100000 in
set_option maxHeartbeats 4000000 in
theorem cL_flushc {l : Launch} {v0 : Option Nat} {v1 : Option Nat} {σ : HpT} {σ' : HpT} (h : fL_flush v0 v1 σ = some σ') : Ct l yL_flush cL_flush 3 none 2 47 [va_rf v0, va_rf v1] σ (.ok none) σ' 0 0 := by
  unfold fL_flush at h
  refine ct_start mi_L_flush.1 rfl (al_le (al_1 (rf_cat _) (al_1 (rf_cat _) al_n)) (Nat.le_of_ble_eq_true rfl)) (ag_1 (rf_cat _) (ag_1 (rf_cat _) ag_n)) (fun Δ Γ B hE hnm => ?_)
  refine g_aload_n B 0 dL_flush_0 rfl rfl ?_
  refine g_aload_n B 1 dL_flush_1 rfl rfl ?_
  refine g_iconst (v := 0) B dL_flush_2 (by decide) ?_
  replace h := bnP_s h
  obtain ⟨x1, h2, h⟩ := h
  refine g_iald B dL_flush_3 h2 ?_
  refine g_aload_n B 1 dL_flush_4 rfl rfl ?_
  refine g_iconst (v := 1) B dL_flush_5 (by decide) ?_
  replace h := bnP_s h
  obtain ⟨x3, h4, h⟩ := h
  refine g_iald B dL_flush_6 h4 ?_
  refine g_aload_n B 1 dL_flush_7 rfl rfl ?_
  refine g_iconst (v := 2) B dL_flush_8 (by decide) ?_
  replace h := bnP_s h
  obtain ⟨x5, h6, h⟩ := h
  refine g_iald B dL_flush_9 h6 ?_
  refine g_aload_n B 1 dL_flush_10 rfl rfl ?_
  refine g_iconst (v := 3) B dL_flush_11 (by decide) ?_
  replace h := bnP_s h
  obtain ⟨x7, h8, h⟩ := h
  refine g_iald B dL_flush_12 h8 ?_
  refine g_aload_n B 1 dL_flush_13 rfl rfl ?_
  refine g_iconst (v := 4) B dL_flush_14 (by decide) ?_
  replace h := bnP_s h
  obtain ⟨x9, h10, h⟩ := h
  refine g_iald B dL_flush_15 h10 ?_
  replace h := bnS_s h
  obtain ⟨x11, s13, h12, h⟩ := h
  refine g_callVs0 (st := []) B (cX9_appendc h12) (Nat.le_of_ble_eq_true rfl) rfl rfl mi_X9_append lk_RL_13 ⟨Nat.le_of_ble_eq_true rfl, Nat.le_of_ble_eq_true rfl⟩ rfl rfl (Nat.le_of_ble_eq_true rfl) dL_flush_16 (Nat.zero_le _) (Nat.zero_le _) ?_
  refine g_istore_n B dL_flush_19 rfl (Nat.le_of_ble_eq_true rfl) (s1_c (f1_k rfl (f1_1 rfl (rf_cat _) f1_n))) ?_
  refine g_aload_n B 2 dL_flush_20 rfl rfl ?_
  refine g_iconst (v := 5) B dL_flush_21 (by decide) ?_
  refine g_iconst (v := 0) B dL_flush_22 (by decide) ?_
  replace h := bnP_s h
  obtain ⟨s16, h15, h⟩ := h
  refine g_iast B dL_flush_23 h15 ?_
  replace h := Option.some.inj h
  subst h
  exact g_vret B hE (Nat.zero_le _) (Nat.zero_le _) dL_flush_24
set_option maxRecDepth 100000 in
set_option maxHeartbeats 4000000 in
theorem cL_putc {l : Launch} {v0 : Option Nat} {v1 : Option Nat} {v2 : Int32} {σ : HpT} {σ' : HpT} (h : fL_put v0 v1 v2 σ = some σ') : Ct l yL_put cL_put 4 none 3 69 [va_rf v0, va_rf v1, .int v2] σ (.ok none) σ' 0 0 := by
  unfold fL_put at h
  refine ct_start mi_L_put.1 rfl (al_le (al_1 (rf_cat _) (al_1 (rf_cat _) (al_1 rfl al_n))) (Nat.le_of_ble_eq_true rfl)) (ag_1 (rf_cat _) (ag_1 (rf_cat _) (ag_1 rfl ag_n))) (fun Δ Γ B hE hnm => ?_)
  refine g_aload_n B 1 dL_put_0 rfl rfl ?_
  refine g_iconst (v := 5) B dL_put_1 (by decide) ?_
  replace h := bnP_s h
  obtain ⟨x1, h2, h⟩ := h
  refine g_iald B dL_put_2 h2 ?_
  refine g_istore_n B dL_put_3 rfl (Nat.le_of_ble_eq_true rfl) (s1_c (f1_k rfl (f1_k rfl (f1_1 rfl rfl f1_n)))) ?_
  refine g_aload_n B 2 dL_put_4 rfl rfl ?_
  refine g_iload_n B 0 dL_put_5 rfl rfl ?_
  refine g_iconst (v := 4) B dL_put_6 (by decide) ?_
  refine g_idiv B dL_put_7 (by decide) ?_
  refine g_aload_n B 2 dL_put_8 rfl rfl ?_
  refine g_iload_n B 0 dL_put_9 rfl rfl ?_
  refine g_iconst (v := 4) B dL_put_10 (by decide) ?_
  refine g_idiv B dL_put_11 (by decide) ?_
  replace h := bnP_s h
  obtain ⟨x3, h4, h⟩ := h
  refine g_iald B dL_put_12 h4 ?_
  refine g_bipush (v := 8) B dL_put_13 (by decide) ?_
  refine g_ishl B dL_put_15 ?_
  refine g_iload_n B 3 dL_put_16 rfl rfl ?_
  refine g_ior B dL_put_17 ?_
  replace h := bnP_s h
  obtain ⟨s7, h6, h⟩ := h
  refine g_iast B dL_put_18 h6 ?_
  refine g_aload_n B 2 dL_put_19 rfl rfl ?_
  refine g_iconst (v := 5) B dL_put_20 (by decide) ?_
  refine g_dup2 B dL_put_21 rfl (rf_cat _) ?_
  replace h := bnP_s h
  obtain ⟨x8, h9, h⟩ := h
  refine g_iald B dL_put_22 h9 ?_
  refine g_iconst (v := 1) B dL_put_23 (by decide) ?_
  refine g_iadd B dL_put_24 ?_
  replace h := bnP_s h
  obtain ⟨s12, h11, h⟩ := h
  refine g_iast B dL_put_25 h11 ?_
  refine g_aload_n B 2 dL_put_26 rfl rfl ?_
  refine g_bipush (v := 6) B dL_put_27 (by decide) ?_
  refine g_dup2 B dL_put_29 rfl (rf_cat _) ?_
  replace h := bnP_s h
  obtain ⟨x13, h14, h⟩ := h
  refine g_iald B dL_put_30 h14 ?_
  refine g_iconst (v := 1) B dL_put_31 (by decide) ?_
  refine g_iadd B dL_put_32 ?_
  replace h := bnP_s h
  obtain ⟨s17, h16, h⟩ := h
  refine g_iast B dL_put_33 h16 ?_
  refine g_aload_n B 2 dL_put_34 rfl rfl ?_
  refine g_iconst (v := 5) B dL_put_35 (by decide) ?_
  replace h := bnP_s h
  obtain ⟨x18, h19, h⟩ := h
  refine g_iald B dL_put_36 h19 ?_
  refine g_bipush (v := 20) B dL_put_37 (by decide) ?_
  refine g_icmp_ne B 47 dL_put_39 (by decide) (fun hc => ?_) (fun hc => ?_)
  · replace h := ifn hc h
    replace h := Option.some.inj h
    subst h
    exact g_vret B hE (Nat.zero_le _) (Nat.zero_le _) dL_put_47
  · replace h := ifp hc h
    refine g_aload_n B 1 dL_put_42 rfl rfl ?_
    refine g_aload_n B 2 dL_put_43 rfl rfl ?_
    replace h := bnP_s h
    obtain ⟨s22, h21, h⟩ := h
    refine g_callSv0 (st := []) B (cL_flushc h21) mi_L_flush lk_RL_7 ⟨Nat.le_of_ble_eq_true rfl, Nat.le_of_ble_eq_true rfl⟩ rfl rfl (Nat.le_of_ble_eq_true rfl) dL_put_44 (Nat.zero_le _) (Nat.zero_le _) ?_
    replace h := Option.some.inj h
    subst h
    exact g_vret B hE (Nat.zero_le _) (Nat.zero_le _) dL_put_47
set_option maxRecDepth 100000 in
set_option maxHeartbeats 4000000 in
theorem cL_saidc {l : Launch} {v0 : Option Nat} {v1 : Option Nat} {σ : HpT} {r : Int32} {σ' : HpT} (h : fL_said v0 v1 σ = some (r, σ')) : Ct l yL_said cL_said 3 (some .int) 4 92 [va_rf v0, va_rf v1] σ (.ok (some (.int r))) σ' 0 0 := by
  unfold fL_said at h
  refine ct_start mi_L_said.1 rfl (al_le (al_1 (rf_cat _) (al_1 (rf_cat _) al_n)) (Nat.le_of_ble_eq_true rfl)) (ag_1 (rf_cat _) (ag_1 (rf_cat _) ag_n)) (fun Δ Γ B hE hnm => ?_)
  refine g_aload_n B 1 dL_said_0 rfl rfl ?_
  refine g_bipush (v := 6) B dL_said_1 (by decide) ?_
  replace h := bnP_s h
  obtain ⟨x1, h2, h⟩ := h
  refine g_iald B dL_said_3 h2 ?_
  refine g_istore_n B dL_said_4 rfl (Nat.le_of_ble_eq_true rfl) (s1_c (f1_k rfl (f1_1 rfl (rf_cat _) f1_n))) ?_
  replace h := bnS_s h
  obtain ⟨r4, s18, h5, h⟩ := h
  have kE6 : GW Δ Γ (0) (0) 21 [(1, va_rf v1), (2, .int x1)] [] s18 := by
    refine g_aload_n B 0 dL_said_21 rfl rfl ?_
    refine g_bipush (v := 6) B dL_said_22 (by decide) ?_
    refine g_iconst (v := 0) B dL_said_24 (by decide) ?_
    replace h := bnP_s h
    obtain ⟨s21, h20, h⟩ := h
    refine g_iast B dL_said_25 h20 ?_
    refine g_iload_n B 1 dL_said_26 rfl rfl ?_
    obtain ⟨w1, w2⟩ := inS h
    clear h
    subst w1
    subst w2
    exact g_iret B hE (Nat.zero_le _) (Nat.zero_le _) dL_said_27
  clear h
  refine g_sub [1, 2, 0] rfl ?_
  refine lpS_w (I := fun q3 s12 => GW Δ Γ (0) (0) 5 [(0, va_rf v0), (1, va_rf v1), (2, .int x1)] [] s12) (r := r4) (σr := s18) ?_ FUEL () σ h5
  intro q3 s12 x10 s9 h hI8 hR9
  unfold fL_said_l1 at h
  refine g_aload_n B 1 dL_said_5 rfl rfl ?_
  refine g_iconst (v := 5) B dL_said_6 (by decide) ?_
  replace h := bnP_s h
  obtain ⟨x13, h14, h⟩ := h
  refine g_iald B dL_said_7 h14 ?_
  refine g_if_le B 21 dL_said_8 (by decide) (fun hc => ?_) (fun hc => ?_)
  · replace h := ifp hc h
    obtain ⟨w1, w2⟩ := inS h
    clear h
    subst w1
    subst w2
    obtain ⟨e8, e7⟩ := hR9 _ rfl
    subst e8
    subst e7
    exact g_sub [1, 2] rfl kE6
  · replace h := ifn hc h
    refine g_aload_n B 0 dL_said_11 rfl rfl ?_
    refine g_aload_n B 1 dL_said_12 rfl rfl ?_
    refine g_bipush (v := 32) B dL_said_13 (by decide) ?_
    replace h := bnP_s h
    obtain ⟨s17, h16, h⟩ := h
    refine g_callSv0 (st := []) B (cL_putc h16) mi_L_put lk_RL_21 ⟨Nat.le_of_ble_eq_true rfl, Nat.le_of_ble_eq_true rfl⟩ rfl rfl (Nat.le_of_ble_eq_true rfl) dL_said_15 (Nat.zero_le _) (Nat.zero_le _) ?_
    refine g_goto B 5 dL_said_18 (by decide) ?_
    obtain ⟨w1, w2⟩ := inS h
    clear h
    subst w1
    subst w2
    exact g_sub [0, 1, 2] rfl (hI8 _ rfl)
set_option maxRecDepth 100000 in
set_option maxHeartbeats 4000000 in
theorem cL_cellc {l : Launch} {v0 : Option Nat} {v1 : Int32} {σ : HpT} {r : Int32} (h : fL_cell v0 v1 σ = some r) : Ct l yL_cell cL_cell 2 (some .int) 0 0 [va_rf v0, .int v1] σ (.ok (some (.int r))) σ 0 0 := by
  unfold fL_cell at h
  refine ct_start mi_L_cell.1 rfl (al_le (al_1 (rf_cat _) (al_1 rfl al_n)) (Nat.le_of_ble_eq_true rfl)) (ag_1 (rf_cat _) (ag_1 rfl ag_n)) (fun Δ Γ B hE hnm => ?_)
  refine g_iload_n B 1 dL_cell_0 rfl rfl ?_
  refine g_aload_n B 0 dL_cell_1 rfl rfl ?_
  replace h := bnP_s h
  obtain ⟨x1, h2, h⟩ := h
  refine g_alen B (κ := 20) (by decide) dL_cell_2 h2 ?_
  refine g_icmp_ge B 12 dL_cell_3 (by decide) (fun hc => ?_) (fun hc => ?_)
  · replace h := ifp hc h
    refine g_iconst (v := 0) B dL_cell_12 (by decide) ?_
    replace h := Option.some.inj h
    subst h
    exact g_iret B hE (Nat.zero_le _) (Nat.zero_le _) dL_cell_13
  · replace h := ifn hc h
    refine g_aload_n B 0 dL_cell_6 rfl rfl ?_
    refine g_iload_n B 1 dL_cell_7 rfl rfl ?_
    replace h := bnP_s h
    obtain ⟨x3, h4, h⟩ := h
    refine g_iald B dL_cell_8 h4 ?_
    refine g_goto B 13 dL_cell_9 (by decide) ?_
    replace h := Option.some.inj h
    subst h
    exact g_iret B hE (Nat.zero_le _) (Nat.zero_le _) dL_cell_13
set_option maxRecDepth 100000 in
set_option maxHeartbeats 4000000 in
theorem cL_toldc {l : Launch} {v0 : Option Nat} {v1 : Option Nat} {v2 : Option Nat} {σ : HpT} {r : Int32} {σ' : HpT} (h : fL_told v0 v1 v2 σ = some (r, σ')) : Ct l yL_told cL_told 4 (some .int) 5 114 [va_rf v0, va_rf v1, va_rf v2] σ (.ok (some (.int r))) σ' 0 0 := by
  unfold fL_told at h
  refine ct_start mi_L_told.1 rfl (al_le (al_1 (rf_cat _) (al_1 (rf_cat _) (al_1 (rf_cat _) al_n))) (Nat.le_of_ble_eq_true rfl)) (ag_1 (rf_cat _) (ag_1 (rf_cat _) (ag_1 (rf_cat _) ag_n))) (fun Δ Γ B hE hnm => ?_)
  refine g_iconst (v := 0) B dL_told_0 (by decide) ?_
  refine g_istore_n B dL_told_1 rfl (Nat.le_of_ble_eq_true rfl) (s1_c (f1_k rfl (f1_k rfl (f1_1 rfl (rf_cat _) f1_n)))) ?_
  replace h := bnS_s h
  obtain ⟨r2, s18, h3, h⟩ := h
  have kE4 : GW Δ Γ (0) (0) 30 [(0, va_rf v0), (1, va_rf v1)] [] s18 := by
    refine g_aload_n B 0 dL_told_30 rfl rfl ?_
    refine g_aload_n B 1 dL_told_31 rfl rfl ?_
    replace h := bnS_s h
    obtain ⟨x19, s21, h20, h⟩ := h
    refine g_callSs0 (st := []) B (cL_saidc h20) mi_L_said lk_RL_35 ⟨Nat.le_of_ble_eq_true rfl, Nat.le_of_ble_eq_true rfl⟩ rfl rfl (Nat.le_of_ble_eq_true rfl) dL_told_32 (Nat.zero_le _) (Nat.zero_le _) ?_
    obtain ⟨w1, w2⟩ := inS h
    clear h
    subst w1
    subst w2
    exact g_iret B hE (Nat.zero_le _) (Nat.zero_le _) dL_told_35
  clear h
  refine g_sub [1, 2, 3, 0] rfl ?_
  refine lpS_w (I := fun q1 s10 => GW Δ Γ (0) (0) 2 [(0, va_rf v0), (1, va_rf v1), (2, va_rf v2), (3, .int q1)] [] s10) (r := r2) (σr := s18) ?_ FUEL 0 σ h3
  intro q1 s10 x8 s9 h hI6 hR7
  unfold fL_told_l1 at h
  refine g_iload_n B 3 dL_told_2 rfl rfl ?_
  refine g_aload_n B 2 dL_told_3 rfl rfl ?_
  replace h := bnP_s h
  obtain ⟨x11, h12, h⟩ := h
  refine g_callFs0 (st := [.int q1]) B (cJ0_length_8abf5c h12) rfl mi_J0_length_8abf5 lf_RL_25 ⟨Nat.le_of_ble_eq_true rfl, Nat.le_of_ble_eq_true rfl⟩ rfl rfl (Nat.le_of_ble_eq_true rfl) dL_told_4 (Nat.zero_le _) (Nat.zero_le _) ?_
  refine g_icmp_ge B 30 dL_told_9 (by decide) (fun hc => ?_) (fun hc => ?_)
  · replace h := ifp hc h
    obtain ⟨w1, w2⟩ := inS h
    clear h
    subst w1
    subst w2
    obtain ⟨e8, e7⟩ := hR7 _ rfl
    subst e8
    subst e7
    exact g_sub [0, 1] rfl kE4
  · replace h := ifn hc h
    refine g_aload_n B 0 dL_told_12 rfl rfl ?_
    refine g_aload_n B 1 dL_told_13 rfl rfl ?_
    refine g_aload_n B 2 dL_told_14 rfl rfl ?_
    refine g_iload_n B 3 dL_told_15 rfl rfl ?_
    replace h := bnP_s h
    obtain ⟨x13, h14, h⟩ := h
    refine g_callFs0 (st := [va_rf v1, va_rf v0]) B (cJ0_charAt_5068ec h14) rfl mi_J0_charAt_5068e lf_RL_31 ⟨Nat.le_of_ble_eq_true rfl, Nat.le_of_ble_eq_true rfl⟩ rfl rfl (Nat.le_of_ble_eq_true rfl) dL_told_16 (Nat.zero_le _) (Nat.zero_le _) ?_
    replace h := bnP_s h
    obtain ⟨s17, h16, h⟩ := h
    refine g_callSv0 (st := []) B (cL_putc h16) mi_L_put lk_RL_21 ⟨Nat.le_of_ble_eq_true rfl, Nat.le_of_ble_eq_true rfl⟩ rfl rfl (Nat.le_of_ble_eq_true rfl) dL_told_21 (Nat.zero_le _) (Nat.zero_le _) ?_
    refine g_iinc (v := (q1 + 1)) B 3 dL_told_24 rfl (by first | rfl | (congr 1; decide)) (Nat.le_of_ble_eq_true rfl) (s1_c (f1_k rfl (f1_k rfl (f1_1 rfl (rf_cat _) (f1_x f1_n))))) ?_
    refine g_goto B 2 dL_told_27 (by decide) ?_
    obtain ⟨w1, w2⟩ := inS h
    clear h
    subst w1
    subst w2
    exact g_sub [1, 2, 3, 0] rfl (hI6 _ rfl)
set_option maxRecDepth 100000 in
set_option maxHeartbeats 4000000 in
theorem cL_textc {l : Launch} {v0 : Option Nat} {v1 : Option Nat} {σ : HpT} {o : Except Nat (Option Nat)} {σ' : HpT} {a b : Nat} (h : fL_text v0 v1 σ = some (o, σ', a, b)) : Ct l yL_text cL_text 7 (some (.object "java/lang/String")) 9 214 [va_rf v0, va_rf v1] σ (oA o) σ' a b := by
  unfold fL_text at h
  refine ct_start mi_L_text.1 rfl (al_le (al_1 (rf_cat _) (al_1 (rf_cat _) al_n)) (Nat.le_of_ble_eq_true rfl)) (ag_1 (rf_cat _) (ag_1 (rf_cat _) ag_n)) (fun Δ Γ B hE hnm => ?_)
  have hka : 0 + a = a := Nat.zero_add a
  have hkb : 0 + b = b := Nat.zero_add b
  have hla : a ≤ a := Nat.le_refl a
  have hlb : b ≤ b := Nat.le_refl b
  refine g_aload_n B 1 dL_text_0 rfl rfl ?_
  refine g_iconst (v := 0) B dL_text_1 (by decide) ?_
  replace h := bnP_s h
  obtain ⟨x1, h2, h⟩ := h
  refine g_callSs0 (st := []) B (cL_cellc h2) mi_L_cell lk_RL_39 ⟨Nat.le_of_ble_eq_true rfl, Nat.le_of_ble_eq_true rfl⟩ rfl rfl (Nat.le_of_ble_eq_true rfl) dL_text_2 (Nat.le_trans (bm hka) hla) (Nat.le_trans (bm hkb) hlb) ?_
  refine g_istore_n B dL_text_5 rfl (Nat.le_of_ble_eq_true rfl) (s1_c (f1_k rfl (f1_1 rfl (rf_cat _) f1_n))) ?_
  refine g_aload_n B 1 dL_text_6 rfl rfl ?_
  refine g_iconst (v := 4) B dL_text_7 (by decide) ?_
  refine g_iload_n B 0 dL_text_8 rfl rfl ?_
  refine g_iconst (v := 1) B dL_text_9 (by decide) ?_
  refine g_iand B dL_text_10 ?_
  refine g_iadd B dL_text_11 ?_
  replace h := bnP_s h
  obtain ⟨s5, h4, h⟩ := h
  refine g_putNI B fn_RL_43 (by decide) dL_text_12 h4 ?_
  refine g_aload_n B 1 dL_text_15 rfl rfl ?_
  refine g_iload_n B 0 dL_text_16 rfl rfl ?_
  refine g_iconst (v := 1) B dL_text_17 (by decide) ?_
  refine g_iushr B dL_text_18 ?_
  refine g_iconst (v := 1) B dL_text_19 (by decide) ?_
  refine g_iand B dL_text_20 ?_
  replace h := bnP_s h
  obtain ⟨s8, h7, h⟩ := h
  refine g_putNI B fn_RL_49 (by decide) dL_text_21 h7 ?_
  refine g_aload_n B 1 dL_text_24 rfl rfl ?_
  refine g_iconst (v := 2) B dL_text_25 (by decide) ?_
  refine g_iload_n B 0 dL_text_26 rfl rfl ?_
  refine g_iconst (v := 2) B dL_text_27 (by decide) ?_
  refine g_iushr B dL_text_28 ?_
  refine g_iconst (v := 3) B dL_text_29 (by decide) ?_
  refine g_iand B dL_text_30 ?_
  refine g_iconst (v := 3) B dL_text_31 (by decide) ?_
  refine g_irem B dL_text_32 (by decide) ?_
  refine g_iadd B dL_text_33 ?_
  replace h := bnP_s h
  obtain ⟨s11, h10, h⟩ := h
  refine g_putNI B fn_RL_52 (by decide) dL_text_34 h10 ?_
  replace h := bnA_s h
  rcases h with ⟨e9, h13, e8⟩ | ⟨x12, s14, a15, b16, a17, b18, h13, h, ea, eb⟩
  · exact absurd h13 (by simp [nwA, nwR]; try (split <;> simp))
  · subst ea; subst eb
    have hka := bk hka
    have hkb := bk hkb
    refine g_new B nw_RL_55 dL_text_37 h13 (Nat.le_trans (bm hka) hla) (Nat.le_trans (bm hkb) hlb) ?_
    refine g_dup B dL_text_40 (rf_cat _) ?_
    refine g_ldcS B (j := 34) rfl dL_text_41 ?_
    replace h := bnO_s h
    obtain ⟨x19, s21, a22, b23, a24, b25, h20, h, ea, eb⟩ := h
    subst ea; subst eb
    have hka := bk hka
    have hkb := bk hkb
    refine g_callIvA (st := [va_rf x12]) B (cJ4_init_a7421c (o := .ok x19) h20) mi_J4_init_a7421 lk_RL_59 ⟨Nat.le_of_ble_eq_true rfl, Nat.le_of_ble_eq_true rfl⟩ rfl rfl (Nat.le_of_ble_eq_true rfl) dL_text_43 (Nat.le_trans (bm hka) hla) (Nat.le_trans (bm hkb) hlb) ?_
    refine g_aload_n B 1 dL_text_46 rfl rfl ?_
    replace h := bnP_s h
    obtain ⟨x26, h27, h⟩ := h
    refine g_getNI B fn_RL_43 (by decide) dL_text_47 h27 ?_
    replace h := bnO_s h
    obtain ⟨x28, s30, a31, b32, a33, b34, h29, h, ea, eb⟩ := h
    subst ea; subst eb
    have hka := bk hka
    have hkb := bk hkb
    refine g_callVsA (st := []) B (cJ4_append_bf812c (o := .ok x28) h29) (Nat.le_of_ble_eq_true rfl) rfl rfl mi_J4_append_bf812 lk_RL_62 ⟨Nat.le_of_ble_eq_true rfl, Nat.le_of_ble_eq_true rfl⟩ rfl rfl (Nat.le_of_ble_eq_true rfl) dL_text_50 (Nat.le_trans (bm hka) hla) (Nat.le_trans (bm hkb) hlb) ?_
    refine g_bipush (v := 32) B dL_text_53 (by decide) ?_
    replace h := bnO_s h
    obtain ⟨x35, s37, a38, b39, a40, b41, h36, h, ea, eb⟩ := h
    subst ea; subst eb
    have hka := bk hka
    have hkb := bk hkb
    refine g_callVsA (st := []) B (cJ4_append_cf468c (o := .ok x35) h36) (Nat.le_of_ble_eq_true rfl) rfl rfl mi_J4_append_cf468 lk_RL_65 ⟨Nat.le_of_ble_eq_true rfl, Nat.le_of_ble_eq_true rfl⟩ rfl rfl (Nat.le_of_ble_eq_true rfl) dL_text_55 (Nat.le_trans (bm hka) hla) (Nat.le_trans (bm hkb) hlb) ?_
    refine g_aload_n B 1 dL_text_58 rfl rfl ?_
    replace h := bnP_s h
    obtain ⟨x42, h43, h⟩ := h
    refine g_getNI B fn_RL_49 (by decide) dL_text_59 h43 ?_
    replace h := bnO_s h
    obtain ⟨x44, s46, a47, b48, a49, b50, h45, h, ea, eb⟩ := h
    subst ea; subst eb
    have hka := bk hka
    have hkb := bk hkb
    refine g_callVsA (st := []) B (cJ4_append_bf812c (o := .ok x44) h45) (Nat.le_of_ble_eq_true rfl) rfl rfl mi_J4_append_bf812 lk_RL_62 ⟨Nat.le_of_ble_eq_true rfl, Nat.le_of_ble_eq_true rfl⟩ rfl rfl (Nat.le_of_ble_eq_true rfl) dL_text_62 (Nat.le_trans (bm hka) hla) (Nat.le_trans (bm hkb) hlb) ?_
    refine g_bipush (v := 32) B dL_text_65 (by decide) ?_
    replace h := bnO_s h
    obtain ⟨x51, s53, a54, b55, a56, b57, h52, h, ea, eb⟩ := h
    subst ea; subst eb
    have hka := bk hka
    have hkb := bk hkb
    refine g_callVsA (st := []) B (cJ4_append_cf468c (o := .ok x51) h52) (Nat.le_of_ble_eq_true rfl) rfl rfl mi_J4_append_cf468 lk_RL_65 ⟨Nat.le_of_ble_eq_true rfl, Nat.le_of_ble_eq_true rfl⟩ rfl rfl (Nat.le_of_ble_eq_true rfl) dL_text_67 (Nat.le_trans (bm hka) hla) (Nat.le_trans (bm hkb) hlb) ?_
    refine g_aload_n B 1 dL_text_70 rfl rfl ?_
    replace h := bnP_s h
    obtain ⟨x58, h59, h⟩ := h
    refine g_getNI B fn_RL_52 (by decide) dL_text_71 h59 ?_
    replace h := bnO_s h
    obtain ⟨x60, s62, a63, b64, a65, b66, h61, h, ea, eb⟩ := h
    subst ea; subst eb
    have hka := bk hka
    have hkb := bk hkb
    refine g_callVsA (st := []) B (cJ4_append_bf812c (o := .ok x60) h61) (Nat.le_of_ble_eq_true rfl) rfl rfl mi_J4_append_bf812 lk_RL_62 ⟨Nat.le_of_ble_eq_true rfl, Nat.le_of_ble_eq_true rfl⟩ rfl rfl (Nat.le_of_ble_eq_true rfl) dL_text_74 (Nat.le_trans (bm hka) hla) (Nat.le_trans (bm hkb) hlb) ?_
    refine g_astore_n B dL_text_77 rfl (Nat.le_of_ble_eq_true rfl) (s1_c (f1_1 rfl rfl (f1_k rfl (f1_k rfl f1_n)))) ?_
    refine g_iload_n B 1 dL_text_78 rfl rfl ?_
    refine g_iconst (v := 4) B dL_text_79 (by decide) ?_
    refine g_iushr B dL_text_80 ?_
    refine g_iconst (v := 3) B dL_text_81 (by decide) ?_
    refine g_iand B dL_text_82 ?_
    refine g_iconst (v := 3) B dL_text_83 (by decide) ?_
    refine g_irem B dL_text_84 (by decide) ?_
    refine g_istore B dL_text_85 (Nat.le_of_ble_eq_true rfl) (s1_c (f1_1 rfl (rf_cat _) (f1_k rfl (f1_k rfl (f1_k rfl f1_n))))) ?_
    refine g_aload_n B 3 dL_text_87 rfl rfl ?_
    refine g_iload B 0 dL_text_88 rfl ?_
    refine g_aload_n B 4 dL_text_90 rfl rfl ?_
    refine g_iconst (v := 1) B dL_text_91 (by decide) ?_
    replace h := bnP_s h
    obtain ⟨x67, h68, h⟩ := h
    refine g_callSs0 (st := [.int (((Int32.toUInt32 (x1) >>> (Int32.toUInt32 (4) &&& Int32.toUInt32 31)).toInt32 &&& 3) - ((Int32.toUInt32 (x1) >>> (Int32.toUInt32 (4) &&& Int32.toUInt32 31)).toInt32 &&& 3) / 3 * 3), va_rf v0]) B (cL_cellc h68) mi_L_cell lk_RL_39 ⟨Nat.le_of_ble_eq_true rfl, Nat.le_of_ble_eq_true rfl⟩ rfl rfl (Nat.le_of_ble_eq_true rfl) dL_text_92 (Nat.le_trans (bm hka) hla) (Nat.le_trans (bm hkb) hlb) ?_
    replace h := bnO_s h
    obtain ⟨x69, s71, a72, b73, a74, b75, h70, h, ea, eb⟩ := h
    subst ea; subst eb
    have hka := bk hka
    have hkb := bk hkb
    refine g_callVsA (st := []) B (cX11_beginc (o := .ok x69) h70) (Nat.le_of_ble_eq_true rfl) rfl rfl mi_X11_begin lk_RL_68 ⟨Nat.le_of_ble_eq_true rfl, Nat.le_of_ble_eq_true rfl⟩ rfl rfl (Nat.le_of_ble_eq_true rfl) dL_text_95 (Nat.le_trans (bm hka) hla) (Nat.le_trans (bm hkb) hlb) ?_
    refine g_astore B dL_text_98 (Nat.le_of_ble_eq_true rfl) (s1_c (f1_1 rfl rfl (f1_k rfl (f1_k rfl (f1_k rfl (f1_k rfl f1_n)))))) ?_
    refine g_aload_n B 2 dL_text_100 rfl rfl ?_
    refine g_ldcS B (j := 40) rfl dL_text_101 ?_
    replace h := bnO_s h
    obtain ⟨x76, s78, a79, b80, a81, b82, h77, h, ea, eb⟩ := h
    subst ea; subst eb
    have hka := bk hka
    have hkb := bk hkb
    refine g_callVsA (st := []) B (cJ4_append_15ec4c (o := .ok x76) h77) (Nat.le_of_ble_eq_true rfl) rfl rfl mi_J4_append_15ec4 lk_RL_74 ⟨Nat.le_of_ble_eq_true rfl, Nat.le_of_ble_eq_true rfl⟩ rfl rfl (Nat.le_of_ble_eq_true rfl) dL_text_103 (Nat.le_trans (bm hka) hla) (Nat.le_trans (bm hkb) hlb) ?_
    refine g_ldcS B (j := 41) rfl dL_text_106 ?_
    refine g_iconst (v := 4) B dL_text_108 (by decide) ?_
    refine g_iload B 1 dL_text_109 rfl ?_
    refine g_imul B dL_text_111 ?_
    refine g_iconst (v := 4) B dL_text_112 (by decide) ?_
    refine g_iload B 1 dL_text_113 rfl ?_
    refine g_imul B dL_text_115 ?_
    refine g_iconst (v := 4) B dL_text_116 (by decide) ?_
    refine g_iadd B dL_text_117 ?_
    replace h := bnO_s h
    obtain ⟨x83, s85, a86, b87, a88, b89, h84, h, ea, eb⟩ := h
    subst ea; subst eb
    have hka := bk hka
    have hkb := bk hkb
    refine g_callQsA (st := [va_rf x76]) B (cJ0_substring_37a41c (o := .ok x83) h84) rfl mi_J0_substring_37a41 lk_RL_79 ⟨Nat.le_of_ble_eq_true rfl, Nat.le_of_ble_eq_true rfl⟩ rfl rfl (Nat.le_of_ble_eq_true rfl) dL_text_118 (Nat.le_trans (bm hka) hla) (Nat.le_trans (bm hkb) hlb) ?_
    replace h := bnO_s h
    obtain ⟨x90, s92, a93, b94, a95, b96, h91, h, ea, eb⟩ := h
    subst ea; subst eb
    have hka := bk hka
    have hkb := bk hkb
    refine g_callVsA (st := []) B (cJ4_append_15ec4c (o := .ok x90) h91) (Nat.le_of_ble_eq_true rfl) rfl rfl mi_J4_append_15ec4 lk_RL_74 ⟨Nat.le_of_ble_eq_true rfl, Nat.le_of_ble_eq_true rfl⟩ rfl rfl (Nat.le_of_ble_eq_true rfl) dL_text_121 (Nat.le_trans (bm hka) hla) (Nat.le_trans (bm hkb) hlb) ?_
    refine g_bipush (v := 32) B dL_text_124 (by decide) ?_
    replace h := bnO_s h
    obtain ⟨x97, s99, a100, b101, a102, b103, h98, h, ea, eb⟩ := h
    subst ea; subst eb
    have hka := bk hka
    have hkb := bk hkb
    refine g_callVsA (st := []) B (cJ4_append_cf468c (o := .ok x97) h98) (Nat.le_of_ble_eq_true rfl) rfl rfl mi_J4_append_cf468 lk_RL_65 ⟨Nat.le_of_ble_eq_true rfl, Nat.le_of_ble_eq_true rfl⟩ rfl rfl (Nat.le_of_ble_eq_true rfl) dL_text_126 (Nat.le_trans (bm hka) hla) (Nat.le_trans (bm hkb) hlb) ?_
    refine g_aload B 0 dL_text_129 rfl ?_
    replace h := bnP_s h
    obtain ⟨x104, h105, h⟩ := h
    refine g_getNR B fn_RL_85 (by decide) dL_text_131 h105 ?_
    replace h := bnO_s h
    obtain ⟨x106, s108, a109, b110, a111, b112, h107, h, ea, eb⟩ := h
    subst ea; subst eb
    have hka := bk hka
    have hkb := bk hkb
    refine g_callVsA (st := []) B (cJ4_append_15ec4c (o := .ok x106) h107) (Nat.le_of_ble_eq_true rfl) rfl rfl mi_J4_append_15ec4 lk_RL_74 ⟨Nat.le_of_ble_eq_true rfl, Nat.le_of_ble_eq_true rfl⟩ rfl rfl (Nat.le_of_ble_eq_true rfl) dL_text_134 (Nat.le_trans (bm hka) hla) (Nat.le_trans (bm hkb) hlb) ?_
    refine g_pop B dL_text_137 (rf_cat _) ?_
    refine g_iload_n B 3 dL_text_138 rfl rfl ?_
    refine g_bipush (v := 6) B dL_text_139 (by decide) ?_
    refine g_iushr B dL_text_141 ?_
    refine g_iconst (v := 1) B dL_text_142 (by decide) ?_
    refine g_iand B dL_text_143 ?_
    refine g_iconst (v := 1) B dL_text_144 (by decide) ?_
    replace h := bnA_o h
    obtain ⟨z229, s139, a140, b141, h114, er117, h, la, lb⟩ := h
    have k116 : ∀ j113, z229 = .ok j113 → GW Δ Γ (0 + a15 + a22 + a31 + a38 + a47 + a54 + a63 + a72 + a79 + a86 + a93 + a100 + a109 + a140) (0 + b16 + b23 + b32 + b39 + b48 + b55 + b64 + b73 + b80 + b87 + b94 + b101 + b110 + b141) 182 [(0, va_rf v0), (1, va_rf v1), (3, va_rf x60), (4, .int (((Int32.toUInt32 (x1) >>> (Int32.toUInt32 (4) &&& Int32.toUInt32 31)).toInt32 &&& 3) - ((Int32.toUInt32 (x1) >>> (Int32.toUInt32 (4) &&& Int32.toUInt32 31)).toInt32 &&& 3) / 3 * 3)), (5, va_rf x69)] [] s139 := by
      intro j113 ej
      replace h := h _ ej
      obtain ⟨a142, b143, h, ea, eb⟩ := h
      subst ea; subst eb
      have hka := bk hka
      have hkb := bk hkb
      refine g_aload B 4 dL_text_182 rfl ?_
      replace h := bnP_s h
      obtain ⟨x144, h145, h⟩ := h
      refine g_getNR B fn_RL_91 (by decide) dL_text_184 h145 ?_
      refine g_iconst (v := 1) B dL_text_187 (by decide) ?_
      replace h := bnP_s h
      obtain ⟨x146, h147, h⟩ := h
      refine g_callVs0 (st := []) B (cJx4a65c_get_915e3c h147) (Nat.le_of_ble_eq_true rfl) rfl rfl mi_Jx4a65c_get_915e3 lk_RL_95 ⟨Nat.le_of_ble_eq_true rfl, Nat.le_of_ble_eq_true rfl⟩ rfl rfl (Nat.le_of_ble_eq_true rfl) dL_text_188 (Nat.le_trans (bm hka) hla) (Nat.le_trans (bm hkb) hlb) ?_
      replace h := bnP_s h
      obtain ⟨u148, h149, h⟩ := h
      refine g_cast B (κ := 14) (by decide) rfl cc_RL_101 dL_text_191 h149 ?_
      refine g_ldcS B (j := 43) rfl dL_text_194 ?_
      replace h := bnP_s h
      obtain ⟨s152, h151, h⟩ := h
      refine g_putNR B fn_RL_114 (by decide) (Or.inl ⟨_, rfl⟩) dL_text_196 h151 ?_
      refine g_aload B 4 dL_text_199 rfl ?_
      refine g_dup B dL_text_201 (rf_cat _) ?_
      replace h := bnP_s h
      obtain ⟨x153, h154, h⟩ := h
      refine g_getNI B fn_RL_107 (by decide) dL_text_202 h154 ?_
      refine g_iconst (v := 1) B dL_text_205 (by decide) ?_
      refine g_iadd B dL_text_206 ?_
      replace h := bnP_s h
      obtain ⟨s157, h156, h⟩ := h
      refine g_putNI B fn_RL_107 (by decide) dL_text_207 h156 ?_
      refine g_aload_n B 2 dL_text_210 rfl rfl ?_
      refine g_ldcS B (j := 44) rfl dL_text_211 ?_
      replace h := bnO_s h
      obtain ⟨x158, s160, a161, b162, a163, b164, h159, h, ea, eb⟩ := h
      subst ea; subst eb
      have hka := bk hka
      have hkb := bk hkb
      refine g_callVsA (st := []) B (cJ4_append_15ec4c (o := .ok x158) h159) (Nat.le_of_ble_eq_true rfl) rfl rfl mi_J4_append_15ec4 lk_RL_74 ⟨Nat.le_of_ble_eq_true rfl, Nat.le_of_ble_eq_true rfl⟩ rfl rfl (Nat.le_of_ble_eq_true rfl) dL_text_213 (Nat.le_trans (bm hka) hla) (Nat.le_trans (bm hkb) hlb) ?_
      refine g_aload B 4 dL_text_216 rfl ?_
      replace h := bnP_s h
      obtain ⟨x165, h166, h⟩ := h
      refine g_getNI B fn_RL_107 (by decide) dL_text_218 h166 ?_
      replace h := bnO_s h
      obtain ⟨x167, s169, a170, b171, a172, b173, h168, h, ea, eb⟩ := h
      subst ea; subst eb
      have hka := bk hka
      have hkb := bk hkb
      refine g_callVsA (st := []) B (cJ4_append_bf812c (o := .ok x167) h168) (Nat.le_of_ble_eq_true rfl) rfl rfl mi_J4_append_bf812 lk_RL_62 ⟨Nat.le_of_ble_eq_true rfl, Nat.le_of_ble_eq_true rfl⟩ rfl rfl (Nat.le_of_ble_eq_true rfl) dL_text_221 (Nat.le_trans (bm hka) hla) (Nat.le_trans (bm hkb) hlb) ?_
      refine g_pop B dL_text_224 (rf_cat _) ?_
      refine g_aload B 4 dL_text_225 rfl ?_
      refine g_iconst (v := 1) B dL_text_227 (by decide) ?_
      replace h := bnP_s h
      obtain ⟨s176, h175, h⟩ := h
      refine g_putNI B fn_RL_119 (by decide) dL_text_228 h175 ?_
      refine g_aload B 4 dL_text_231 rfl ?_
      refine g_iconst (v := 1) B dL_text_233 (by decide) ?_
      replace h := bnP_s h
      obtain ⟨s179, h178, h⟩ := h
      refine g_putNI B fn_RL_122 (by decide) dL_text_234 h178 ?_
      refine g_aload B 4 dL_text_237 rfl ?_
      refine g_iload B 3 dL_text_239 rfl ?_
      replace h := bnP_s h
      obtain ⟨j180, h181, h⟩ := h
      have k183 : GW Δ Γ (0 + a15 + a22 + a31 + a38 + a47 + a54 + a63 + a72 + a79 + a86 + a93 + a100 + a109 + a140 + a161 + a170) (0 + b16 + b23 + b32 + b39 + b48 + b55 + b64 + b73 + b80 + b87 + b94 + b101 + b110 + b141 + b162 + b171) 259 [(0, va_rf v0), (1, va_rf v1), (3, va_rf x60), (5, va_rf x69)] [.int j180.2, va_rf j180.1] s179 := by
        refine g_aload B 3 dL_text_259 rfl ?_
        replace h := bnP_s h
        obtain ⟨x185, h186, h⟩ := h
        refine g_callVs0 (st := [.int j180.2, va_rf j180.1]) B (cX10_standingc h186) (Nat.le_of_ble_eq_true rfl) rfl rfl mi_X10_standing lk_RL_125 ⟨Nat.le_of_ble_eq_true rfl, Nat.le_of_ble_eq_true rfl⟩ rfl rfl (Nat.le_of_ble_eq_true rfl) dL_text_261 (Nat.le_trans (bm hka) hla) (Nat.le_trans (bm hkb) hlb) ?_
        refine g_iadd B dL_text_264 ?_
        replace h := bnP_s h
        obtain ⟨s189, h188, h⟩ := h
        refine g_putNI B fn_RL_128 (by decide) dL_text_265 h188 ?_
        refine g_aload_n B 0 dL_text_268 rfl rfl ?_
        refine g_dup B dL_text_269 (rf_cat _) ?_
        replace h := bnP_s h
        obtain ⟨x190, h191, h⟩ := h
        refine g_getNI B fn_RL_131 (by decide) dL_text_270 h191 ?_
        refine g_aload B 3 dL_text_273 rfl ?_
        replace h := bnP_s h
        obtain ⟨x192, h193, h⟩ := h
        refine g_getNI B fn_RL_128 (by decide) dL_text_275 h193 ?_
        refine g_iadd B dL_text_278 ?_
        replace h := bnP_s h
        obtain ⟨s196, h195, h⟩ := h
        refine g_putNI B fn_RL_131 (by decide) dL_text_279 h195 ?_
        refine g_aload_n B 0 dL_text_282 rfl rfl ?_
        refine g_iconst (v := 2) B dL_text_283 (by decide) ?_
        refine g_aload_n B 1 dL_text_284 rfl rfl ?_
        refine g_iconst (v := 2) B dL_text_285 (by decide) ?_
        replace h := bnP_s h
        obtain ⟨x197, h198, h⟩ := h
        refine g_callSs0 (st := [.int 2, va_rf v0]) B (cL_cellc h198) mi_L_cell lk_RL_39 ⟨Nat.le_of_ble_eq_true rfl, Nat.le_of_ble_eq_true rfl⟩ rfl rfl (Nat.le_of_ble_eq_true rfl) dL_text_286 (Nat.le_trans (bm hka) hla) (Nat.le_trans (bm hkb) hlb) ?_
        replace h := bnO_s h
        obtain ⟨x199, s201, a202, b203, a204, b205, h200, h, ea, eb⟩ := h
        subst ea; subst eb
        have hka := bk hka
        have hkb := bk hkb
        refine g_callVsA (st := []) B (cX11_beginc (o := .ok x199) h200) (Nat.le_of_ble_eq_true rfl) rfl rfl mi_X11_begin lk_RL_68 ⟨Nat.le_of_ble_eq_true rfl, Nat.le_of_ble_eq_true rfl⟩ rfl rfl (Nat.le_of_ble_eq_true rfl) dL_text_289 (Nat.le_trans (bm hka) hla) (Nat.le_trans (bm hkb) hlb) ?_
        refine g_astore B dL_text_292 (Nat.le_of_ble_eq_true rfl) (s1_c (f1_k rfl (f1_k rfl (f1_k rfl (f1_1 rfl (rf_cat _) f1_n))))) ?_
        refine g_aload_n B 3 dL_text_294 rfl rfl ?_
        refine g_ldcS B (j := 45) rfl dL_text_295 ?_
        replace h := bnO_s h
        obtain ⟨x206, s208, a209, b210, a211, b212, h207, h, ea, eb⟩ := h
        subst ea; subst eb
        have hka := bk hka
        have hkb := bk hkb
        refine g_callVsA (st := []) B (cJ4_append_15ec4c (o := .ok x206) h207) (Nat.le_of_ble_eq_true rfl) rfl rfl mi_J4_append_15ec4 lk_RL_74 ⟨Nat.le_of_ble_eq_true rfl, Nat.le_of_ble_eq_true rfl⟩ rfl rfl (Nat.le_of_ble_eq_true rfl) dL_text_297 (Nat.le_trans (bm hka) hla) (Nat.le_trans (bm hkb) hlb) ?_
        refine g_aload B 0 dL_text_300 rfl ?_
        replace h := bnP_s h
        obtain ⟨x213, h214, h⟩ := h
        refine g_getNR B fn_RL_85 (by decide) dL_text_302 h214 ?_
        replace h := bnO_s h
        obtain ⟨x215, s217, a218, b219, a220, b221, h216, h, ea, eb⟩ := h
        subst ea; subst eb
        have hka := bk hka
        have hkb := bk hkb
        refine g_callVsA (st := []) B (cJ4_append_15ec4c (o := .ok x215) h216) (Nat.le_of_ble_eq_true rfl) rfl rfl mi_J4_append_15ec4 lk_RL_74 ⟨Nat.le_of_ble_eq_true rfl, Nat.le_of_ble_eq_true rfl⟩ rfl rfl (Nat.le_of_ble_eq_true rfl) dL_text_305 (Nat.le_trans (bm hka) hla) (Nat.le_trans (bm hkb) hlb) ?_
        refine g_pop B dL_text_308 (rf_cat _) ?_
        refine g_aload_n B 3 dL_text_309 rfl rfl ?_
        replace h := bnO_s h
        obtain ⟨x222, s224, a225, b226, a227, b228, h223, h, ea, eb⟩ := h
        subst ea; subst eb
        have hka := bk hka
        have hkb := bk hkb
        refine g_callVsA (st := []) B (cJ4_toString_0e30dc (o := .ok x222) h223) (Nat.le_of_ble_eq_true rfl) rfl rfl mi_J4_toString_0e30d lk_RL_136 ⟨Nat.le_of_ble_eq_true rfl, Nat.le_of_ble_eq_true rfl⟩ rfl rfl (Nat.le_of_ble_eq_true rfl) dL_text_310 (Nat.le_trans (bm hka) hla) (Nat.le_trans (bm hkb) hlb) ?_
        obtain ⟨w1, w2, w3, w4⟩ := inA h
        clear h
        subst w1
        subst w2
        subst w3
        subst w4
        exact g_aret B hE (Or.inl ⟨_, rfl⟩) (Nat.le_trans (Nat.le_of_eq hka) hla) (Nat.le_trans (Nat.le_of_eq hkb) hlb) dL_text_313
      clear h
      have h := h181
      clear h181
      refine g_if_ne B 248 dL_text_241 (by decide) (fun hc => ?_) (fun hc => ?_)
      · replace h := ifn hc h
        refine g_iload B 3 dL_text_248 rfl ?_
        refine g_iconst (v := 1) B dL_text_250 (by decide) ?_
        refine g_icmp_ne B 258 dL_text_251 (by decide) (fun hc => ?_) (fun hc => ?_)
        · replace h := ifn hc h
          refine g_iconst (v := 4) B dL_text_258 (by decide) ?_
          replace h := Option.some.inj h
          subst h
          exact g_sub [0, 1, 2, 4] rfl k183
        · replace h := ifp hc h
          refine g_iconst (v := 3) B dL_text_254 (by decide) ?_
          refine g_goto B 259 dL_text_255 (by decide) ?_
          replace h := Option.some.inj h
          subst h
          exact g_sub [0, 1, 2, 4] rfl k183
      · replace h := ifp hc h
        refine g_iconst (v := 5) B dL_text_244 (by decide) ?_
        refine g_goto B 259 dL_text_245 (by decide) ?_
        replace h := Option.some.inj h
        subst h
        exact g_sub [0, 1, 2, 4] rfl k183
    clear h
    have h := h114
    clear h114
    replace hla := Nat.le_trans (bj hka la) hla
    replace hlb := Nat.le_trans (bj hkb lb) hlb
    replace hka : 0 + a15 + a22 + a31 + a38 + a47 + a54 + a63 + a72 + a79 + a86 + a93 + a100 + a109 + a140 = _ := rfl
    replace hkb : 0 + b16 + b23 + b32 + b39 + b48 + b55 + b64 + b73 + b80 + b87 + b94 + b101 + b110 + b141 = _ := rfl
    refine g_icmp_ne B 182 dL_text_145 (by decide) (fun hc => ?_) (fun hc => ?_)
    · replace h := ifn hc h
      obtain ⟨w1, w2, w3, w4⟩ := inA h
      clear h
      subst w1
      subst w2
      subst w3
      subst w4
      refine g_cost hka hkb ?_
      exact g_sub [4, 5, 2, 1, 0] rfl (k116 _ rfl)
    · replace h := ifp hc h
      refine g_aload B 0 dL_text_148 rfl ?_
      replace h := bnP_s h
      obtain ⟨x118, h119, h⟩ := h
      refine g_getNR B fn_RL_91 (by decide) dL_text_150 h119 ?_
      refine g_iconst (v := 0) B dL_text_153 (by decide) ?_
      replace h := bnP_s h
      obtain ⟨x120, h121, h⟩ := h
      refine g_callVs0 (st := []) B (cJx4a65c_get_915e3c h121) (Nat.le_of_ble_eq_true rfl) rfl rfl mi_Jx4a65c_get_915e3 lk_RL_95 ⟨Nat.le_of_ble_eq_true rfl, Nat.le_of_ble_eq_true rfl⟩ rfl rfl (Nat.le_of_ble_eq_true rfl) dL_text_154 (Nat.le_trans (bm hka) hla) (Nat.le_trans (bm hkb) hlb) ?_
      replace h := bnP_s h
      obtain ⟨u122, h123, h⟩ := h
      refine g_cast B (κ := 14) (by decide) rfl cc_RL_101 dL_text_157 h123 ?_
      refine g_iconst (v := 1) B dL_text_160 (by decide) ?_
      replace h := bnP_s h
      obtain ⟨s126, h125, h⟩ := h
      refine g_putNZ B fn_RL_103 (by decide) dL_text_161 h125 ?_
      refine g_aload B 0 dL_text_164 rfl ?_
      refine g_dup B dL_text_166 (rf_cat _) ?_
      replace h := bnP_s h
      obtain ⟨x127, h128, h⟩ := h
      refine g_getNI B fn_RL_107 (by decide) dL_text_167 h128 ?_
      refine g_iconst (v := 1) B dL_text_170 (by decide) ?_
      refine g_iadd B dL_text_171 ?_
      replace h := bnP_s h
      obtain ⟨s131, h130, h⟩ := h
      refine g_putNI B fn_RL_107 (by decide) dL_text_172 h130 ?_
      refine g_aload_n B 2 dL_text_175 rfl rfl ?_
      refine g_ldcS B (j := 42) rfl dL_text_176 ?_
      replace h := bnO_s h
      obtain ⟨x132, s134, a135, b136, a137, b138, h133, h, ea, eb⟩ := h
      subst ea; subst eb
      have hka := bk hka
      have hkb := bk hkb
      refine g_callVsA (st := []) B (cJ4_append_15ec4c (o := .ok x132) h133) (Nat.le_of_ble_eq_true rfl) rfl rfl mi_J4_append_15ec4 lk_RL_74 ⟨Nat.le_of_ble_eq_true rfl, Nat.le_of_ble_eq_true rfl⟩ rfl rfl (Nat.le_of_ble_eq_true rfl) dL_text_178 (Nat.le_trans (bm hka) hla) (Nat.le_trans (bm hkb) hlb) ?_
      refine g_pop B dL_text_181 (rf_cat _) ?_
      obtain ⟨w1, w2, w3, w4⟩ := inA h
      clear h
      subst w1
      subst w2
      subst w3
      subst w4
      refine g_cost hka hkb ?_
      exact g_sub [4, 5, 2, 1, 0] rfl (k116 _ rfl)
set_option maxRecDepth 100000 in
set_option maxHeartbeats 4000000 in
theorem cL_areKnownc {l : Launch} {v0 : Option Nat} {σ : HpT} {r : Bool} (h : fL_areKnown v0 σ = some r) : Ct l yL_areKnown cL_areKnown 4 (some .boolean) 8 137 [va_rf v0] σ (.ok (some (.int (bI r)))) σ 0 0 := by
  unfold fL_areKnown at h
  refine ct_start mi_L_areKnown.1 rfl (al_le (al_1 (rf_cat _) al_n) (Nat.le_of_ble_eq_true rfl)) (ag_1 (rf_cat _) ag_n) (fun Δ Γ B hE hnm => ?_)
  refine g_iconst (v := 0) B dL_areKnown_0 (by decide) ?_
  refine g_istore_n B dL_areKnown_1 rfl (Nat.le_of_ble_eq_true rfl) (s1_c (f1_1 rfl (rf_cat _) f1_n)) ?_
  replace h := bnP_s h
  obtain ⟨r2, h3, h⟩ := h
  have kE4 : ∀ y31, r2 = .inl y31 → GW Δ Γ (0) (0) 65 [] [] σ := by
    intro y31 er
    subst er
    dsimp only at h
    refine g_iconst (v := 1) B dL_areKnown_65 (by decide) ?_
    replace h := Option.some.inj h
    subst h
    exact g_zret B hE rfl (Nat.zero_le _) (Nat.zero_le _) dL_areKnown_66
  have kR5 : ∀ vv, r2 = .inr vv → En Δ Γ (.ok (some (.int (bI vv)))) σ 0 0 (some .boolean) ∧ 0 ≤ 0 ∧ 0 ≤ 0 := by
    intro vv er
    subst er
    dsimp only at h
    replace h := Option.some.inj h
    subst h
    exact ⟨hE, Nat.zero_le _, Nat.zero_le _⟩
  clear h
  refine g_sub [1, 0] rfl ?_
  refine lpP_w (I := fun q1 => GW Δ Γ (0) (0) 2 [(0, va_rf v0), (1, .int q1)] [] σ) (r := r2) ?_ FUEL 0 h3
  intro q1 x8 h hI6 hR7
  unfold fL_areKnown_l1 at h
  refine g_iload_n B 1 dL_areKnown_2 rfl rfl ?_
  refine g_aload_n B 0 dL_areKnown_3 rfl rfl ?_
  refine g_bipush (v := 8) B dL_areKnown_4 (by decide) ?_
  replace h := bnP_s h
  obtain ⟨x10, h11x, h⟩ := h
  have h11 := exO_s h11x
  refine g_callVs0 (st := [.int q1]) B (cX9_countc (o := .ok x10) h11) (Nat.le_of_ble_eq_true rfl) rfl rfl mi_X9_count lk_RL_206 ⟨Nat.le_of_ble_eq_true rfl, Nat.le_of_ble_eq_true rfl⟩ rfl rfl (Nat.le_of_ble_eq_true rfl) dL_areKnown_6 (Nat.zero_le _) (Nat.zero_le _) ?_
  refine g_icmp_ge B 65 dL_areKnown_9 (by decide) (fun hc => ?_) (fun hc => ?_)
  · replace h := ifp hc h
    replace h := Option.some.inj h
    subst h
    have e8 := hR7 _ rfl
    subst e8
    exact g_sub [] rfl (kE4 _ rfl)
  · replace h := ifn hc h
    refine g_aload_n B 0 dL_areKnown_12 rfl rfl ?_
    refine g_iload_n B 1 dL_areKnown_13 rfl rfl ?_
    refine g_iconst (v := 0) B dL_areKnown_14 (by decide) ?_
    replace h := bnP_s h
    obtain ⟨x12, h13x, h⟩ := h
    have h13 := exO_s h13x
    refine g_callVs0 (st := []) B (cX9_copyc (o := .ok x12) h13) (Nat.le_of_ble_eq_true rfl) rfl rfl mi_X9_copy lk_RL_189 ⟨Nat.le_of_ble_eq_true rfl, Nat.le_of_ble_eq_true rfl⟩ rfl rfl (Nat.le_of_ble_eq_true rfl) dL_areKnown_15 (Nat.zero_le _) (Nat.zero_le _) ?_
    refine g_istore_n B dL_areKnown_18 rfl (Nat.le_of_ble_eq_true rfl) (s1_c (f1_k rfl (f1_1 rfl rfl f1_n))) ?_
    refine g_iconst (v := 0) B dL_areKnown_19 (by decide) ?_
    refine g_istore_n B dL_areKnown_20 rfl (Nat.le_of_ble_eq_true rfl) (s1_c (f1_1 rfl rfl (f1_k rfl (f1_k rfl f1_n)))) ?_
    replace h := bnP_s h
    obtain ⟨r15, h16, h⟩ := h
    have kE17 : ∀ y29, r15 = .inl y29 → GW Δ Γ (0) (0) 59 [(0, va_rf v0), (1, .int q1)] [] σ := by
      intro y29 er
      subst er
      dsimp only at h
      refine g_iinc (v := (q1 + 1)) B 1 dL_areKnown_59 rfl (by first | rfl | (congr 1; decide)) (Nat.le_of_ble_eq_true rfl) (s1_c (f1_1 rfl (rf_cat _) (f1_x f1_n))) ?_
      refine g_goto B 2 dL_areKnown_62 (by decide) ?_
      replace h := Option.some.inj h
      subst h
      exact g_sub [1, 0] rfl (hI6 _ rfl)
    have kR18 : ∀ vv, r15 = .inr vv → En Δ Γ (.ok (some (.int (bI vv)))) σ 0 0 (some .boolean) ∧ 0 ≤ 0 ∧ 0 ≤ 0 := by
      intro vv er
      subst er
      dsimp only at h
      replace h := Option.some.inj h
      subst h
      have e8 := hR7 _ rfl
      exact kR5 _ e8.symm
    clear h
    refine g_sub [2, 3, 1, 0] rfl ?_
    refine lpP_w (I := fun q14 => GW Δ Γ (0) (0) 21 [(0, va_rf v0), (1, .int q1), (2, .int x12), (3, .int q14)] [] σ) (r := r15) ?_ FUEL 0 h16
    intro q14 x21 h hI19 hR20
    unfold fL_areKnown_l2 at h
    refine g_iload_n B 3 dL_areKnown_21 rfl rfl ?_
    refine g_aload_n B 0 dL_areKnown_22 rfl rfl ?_
    refine g_iload_n B 2 dL_areKnown_23 rfl rfl ?_
    refine g_iconst (v := 4) B dL_areKnown_24 (by decide) ?_
    replace h := bnP_s h
    obtain ⟨x23, h24x, h⟩ := h
    have h24 := exO_s h24x
    refine g_callVs0 (st := [.int q14]) B (cX9_actc (o := .ok x23) h24) (Nat.le_of_ble_eq_true rfl) rfl rfl mi_X9_act lk_RL_152 ⟨Nat.le_of_ble_eq_true rfl, Nat.le_of_ble_eq_true rfl⟩ rfl rfl (Nat.le_of_ble_eq_true rfl) dL_areKnown_25 (Nat.zero_le _) (Nat.zero_le _) ?_
    refine g_icmp_ge B 59 dL_areKnown_28 (by decide) (fun hc => ?_) (fun hc => ?_)
    · replace h := ifp hc h
      replace h := Option.some.inj h
      subst h
      have e8 := hR20 _ rfl
      subst e8
      exact g_sub [0, 1] rfl (kE17 _ rfl)
    · replace h := ifn hc h
      refine g_aload_n B 0 dL_areKnown_31 rfl rfl ?_
      refine g_iload_n B 1 dL_areKnown_32 rfl rfl ?_
      refine g_iload_n B 3 dL_areKnown_33 rfl rfl ?_
      replace h := bnP_s h
      obtain ⟨x25, h26x, h⟩ := h
      have h26 := exO_s h26x
      refine g_callVs0 (st := []) B (cX9_hasc (o := .ok x25) h26) (Nat.le_of_ble_eq_true rfl) rfl rfl mi_X9_has lk_RL_300 ⟨Nat.le_of_ble_eq_true rfl, Nat.le_of_ble_eq_true rfl⟩ rfl rfl (Nat.le_of_ble_eq_true rfl) dL_areKnown_34 (Nat.zero_le _) (Nat.zero_le _) ?_
      refine g_if_eq B 53 dL_areKnown_37 (by decide) (fun hc => ?_) (fun hc => ?_)
      · replace h := ifn (bI0 hc) h
        refine g_iinc (v := (q14 + 1)) B 3 dL_areKnown_53 rfl (by first | rfl | (congr 1; decide)) (Nat.le_of_ble_eq_true rfl) (s1_c (f1_k rfl (f1_k rfl (f1_1 rfl rfl (f1_x f1_n))))) ?_
        refine g_goto B 21 dL_areKnown_56 (by decide) ?_
        replace h := Option.some.inj h
        subst h
        exact g_sub [1, 2, 3, 0] rfl (hI19 _ rfl)
      · replace h := ifp (bI1 hc) h
        refine g_aload_n B 0 dL_areKnown_40 rfl rfl ?_
        refine g_iload_n B 2 dL_areKnown_41 rfl rfl ?_
        refine g_iload_n B 3 dL_areKnown_42 rfl rfl ?_
        refine g_iconst (v := 5) B dL_areKnown_43 (by decide) ?_
        replace h := bnP_s h
        obtain ⟨x27, h28x, h⟩ := h
        have h28 := exO_s h28x
        refine g_callVs0 (st := []) B (cX9_wordc (o := .ok x27) h28) (Nat.le_of_ble_eq_true rfl) rfl rfl mi_X9_word lk_RL_156 ⟨Nat.le_of_ble_eq_true rfl, Nat.le_of_ble_eq_true rfl⟩ rfl rfl (Nat.le_of_ble_eq_true rfl) dL_areKnown_44 (Nat.zero_le _) (Nat.zero_le _) ?_
        refine g_iconst (v := 1) B dL_areKnown_47 (by decide) ?_
        refine g_icmp_eq B 53 dL_areKnown_48 (by decide) (fun hc => ?_) (fun hc => ?_)
        · replace h := ifp hc h
          refine g_iinc (v := (q14 + 1)) B 3 dL_areKnown_53 rfl (by first | rfl | (congr 1; decide)) (Nat.le_of_ble_eq_true rfl) (s1_c (f1_k rfl (f1_k rfl (f1_1 rfl rfl (f1_x f1_n))))) ?_
          refine g_goto B 21 dL_areKnown_56 (by decide) ?_
          replace h := Option.some.inj h
          subst h
          exact g_sub [1, 2, 3, 0] rfl (hI19 _ rfl)
        · replace h := ifn hc h
          refine g_iconst (v := 0) B dL_areKnown_51 (by decide) ?_
          replace h := Option.some.inj h
          subst h
          have e8 := hR20 _ rfl
          obtain ⟨hE, hc9, hs9⟩ := kR18 _ e8.symm
          exact g_zret B hE rfl hc9 hs9 dL_areKnown_52
