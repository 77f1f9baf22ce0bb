theorem mi_X10_append : MI yX10_append cX10_append 6 (some .int) 5 := ⟨by decide +kernel, (mw (i := 2081) (by decide +kernel) rfl), (mw (i := 176) (by decide +kernel) rfl), by decide +kernel, by decide +kernel⟩
theorem mi_X10_back : MI yX10_back cX10_back 2 (some .int) 1 := ⟨by decide +kernel, (mw (i := 2428) (by decide +kernel) rfl), (mw (i := 176) (by decide +kernel) rfl), by decide +kernel, by decide +kernel⟩
theorem mi_X10_begins : MI yX10_begins cX10_begins 2 none 1 := ⟨by decide +kernel, (mw (i := 2112) (by decide +kernel) rfl), (mw (i := 176) (by decide +kernel) rfl), by decide +kernel, by decide +kernel⟩
theorem mi_X10_buffered : MI yX10_buffered cX10_buffered 1 (some .int) 0 := ⟨by decide +kernel, (mw (i := 2097) (by decide +kernel) rfl), (mw (i := 176) (by decide +kernel) rfl), by decide +kernel, by decide +kernel⟩
theorem mi_X10_closesClause : MI yX10_closesClause cX10_closesClause 2 none 0 := ⟨by decide +kernel, (mw (i := 2232) (by decide +kernel) rfl), (mw (i := 176) (by decide +kernel) rfl), by decide +kernel, by decide +kernel⟩
theorem mi_X10_errorPosition : MI yX10_errorPosition cX10_errorPosition 1 (some .int) 0 := ⟨by decide +kernel, (mw (i := 2093) (by decide +kernel) rfl), (mw (i := 176) (by decide +kernel) rfl), by decide +kernel, by decide +kernel⟩
theorem mi_X10_faults : MI yX10_faults cX10_faults 2 none 1 := ⟨by decide +kernel, (mw (i := 2153) (by decide +kernel) rfl), (mw (i := 176) (by decide +kernel) rfl), by decide +kernel, by decide +kernel⟩
theorem mi_X10_four : MI yX10_four cX10_four 3 none 1 := ⟨by decide +kernel, (mw (i := 2085) (by decide +kernel) rfl), (mw (i := 176) (by decide +kernel) rfl), by decide +kernel, by decide +kernel⟩
theorem mi_X10_goes : MI yX10_goes cX10_goes 1 none 0 := ⟨by decide +kernel, (mw (i := 2127) (by decide +kernel) rfl), (mw (i := 176) (by decide +kernel) rfl), by decide +kernel, by decide +kernel⟩
theorem mi_X10_in : MI yX10_in cX10_in 3 (some .boolean) 3 := ⟨by decide +kernel, (mw (i := 2104) (by decide +kernel) rfl), (mw (i := 176) (by decide +kernel) rfl), by decide +kernel, by decide +kernel⟩
theorem mi_X10_init : MI yX10_init cX10_init 1 none 0 := ⟨by decide +kernel, (mw (i := 1998) (by decide +kernel) rfl), (mw (i := 176) (by decide +kernel) rfl), by decide +kernel, by decide +kernel⟩
theorem mi_X10_is : MI yX10_is cX10_is 2 (some .boolean) 1 := ⟨by decide +kernel, (mw (i := 2147) (by decide +kernel) rfl), (mw (i := 176) (by decide +kernel) rfl), by decide +kernel, by decide +kernel⟩
theorem mi_X10_isDigit : MI yX10_isDigit cX10_isDigit 2 (some .boolean) 1 := ⟨by decide +kernel, (mw (i := 2135) (by decide +kernel) rfl), (mw (i := 176) (by decide +kernel) rfl), by decide +kernel, by decide +kernel⟩
theorem mi_X10_isLetter : MI yX10_isLetter cX10_isLetter 2 (some .boolean) 1 := ⟨by decide +kernel, (mw (i := 2131) (by decide +kernel) rfl), (mw (i := 176) (by decide +kernel) rfl), by decide +kernel, by decide +kernel⟩
theorem mi_X10_isWord : MI yX10_isWord cX10_isWord 3 (some .boolean) 1 := ⟨by decide +kernel, (mw (i := 2143) (by decide +kernel) rfl), (mw (i := 176) (by decide +kernel) rfl), by decide +kernel, by decide +kernel⟩
theorem mi_X10_lays : MI yX10_lays cX10_lays 5 none 4 := ⟨by decide +kernel, (mw (i := 2119) (by decide +kernel) rfl), (mw (i := 176) (by decide +kernel) rfl), by decide +kernel, by decide +kernel⟩
theorem mi_X10_leaves : MI yX10_leaves cX10_leaves 1 (some .int) 0 := ⟨by decide +kernel, (mw (i := 2224) (by decide +kernel) rfl), (mw (i := 176) (by decide +kernel) rfl), by decide +kernel, by decide +kernel⟩
theorem mi_X10_lengthOf : MI yX10_lengthOf cX10_lengthOf 3 (some .int) 2 := ⟨by decide +kernel, (mw (i := 2492) (by decide +kernel) rfl), (mw (i := 176) (by decide +kernel) rfl), by decide +kernel, by decide +kernel⟩
theorem mi_X10_letterOf : MI yX10_letterOf cX10_letterOf 4 (some .int) 3 := ⟨by decide +kernel, (mw (i := 2495) (by decide +kernel) rfl), (mw (i := 176) (by decide +kernel) rfl), by decide +kernel, by decide +kernel⟩
theorem mi_X10_mateOf : MI yX10_mateOf cX10_mateOf 3 (some .int) 1 := ⟨by decide +kernel, (mw (i := 2220) (by decide +kernel) rfl), (mw (i := 176) (by decide +kernel) rfl), by decide +kernel, by decide +kernel⟩
theorem mi_X10_may : MI yX10_may cX10_may 4 (some .boolean) 3 := ⟨by decide +kernel, (mw (i := 2108) (by decide +kernel) rfl), (mw (i := 176) (by decide +kernel) rfl), by decide +kernel, by decide +kernel⟩
theorem mi_X10_mayLook : MI yX10_mayLook cX10_mayLook 1 (some .boolean) 0 := ⟨by decide +kernel, (mw (i := 2576) (by decide +kernel) rfl), (mw (i := 176) (by decide +kernel) rfl), by decide +kernel, by decide +kernel⟩
theorem mi_X10_mayTwo : MI yX10_mayTwo cX10_mayTwo 3 (some .boolean) 2 := ⟨by decide +kernel, (mw (i := 2436) (by decide +kernel) rfl), (mw (i := 176) (by decide +kernel) rfl), by decide +kernel, by decide +kernel⟩
theorem mi_X10_number : MI yX10_number cX10_number 4 (some .int) 2 := ⟨by decide +kernel, (mw (i := 2157) (by decide +kernel) rfl), (mw (i := 176) (by decide +kernel) rfl), by decide +kernel, by decide +kernel⟩
theorem mi_X10_numberHere : MI yX10_numberHere cX10_numberHere 3 (some .int) 2 := ⟨by decide +kernel, (mw (i := 2161) (by decide +kernel) rfl), (mw (i := 176) (by decide +kernel) rfl), by decide +kernel, by decide +kernel⟩
theorem mi_X10_ofAct : MI yX10_ofAct cX10_ofAct 3 (some .int) 2 := ⟨by decide +kernel, (mw (i := 2178) (by decide +kernel) rfl), (mw (i := 176) (by decide +kernel) rfl), by decide +kernel, by decide +kernel⟩
theorem mi_X10_ofClause : MI yX10_ofClause cX10_ofClause 3 (some .int) 2 := ⟨by decide +kernel, (mw (i := 2236) (by decide +kernel) rfl), (mw (i := 176) (by decide +kernel) rfl), by decide +kernel, by decide +kernel⟩
theorem mi_X10_one : MI yX10_one cX10_one 1 (some .int) 1 := ⟨by decide +kernel, (mw (i := 2289) (by decide +kernel) rfl), (mw (i := 176) (by decide +kernel) rfl), by decide +kernel, by decide +kernel⟩
theorem mi_X10_opensClause : MI yX10_opensClause cX10_opensClause 3 none 1 := ⟨by decide +kernel, (mw (i := 2228) (by decide +kernel) rfl), (mw (i := 176) (by decide +kernel) rfl), by decide +kernel, by decide +kernel⟩
theorem mi_X10_parseError : MI yX10_parseError cX10_parseError 1 (some .int) 0 := ⟨by decide +kernel, (mw (i := 2089) (by decide +kernel) rfl), (mw (i := 176) (by decide +kernel) rfl), by decide +kernel, by decide +kernel⟩
theorem mi_X10_partOf : MI yX10_partOf cX10_partOf 6 (some .int) 3 := ⟨by decide +kernel, (mw (i := 2209) (by decide +kernel) rfl), (mw (i := 176) (by decide +kernel) rfl), by decide +kernel, by decide +kernel⟩
theorem mi_X10_putsAct : MI yX10_putsAct cX10_putsAct 4 none 3 := ⟨by decide +kernel, (mw (i := 2193) (by decide +kernel) rfl), (mw (i := 176) (by decide +kernel) rfl), by decide +kernel, by decide +kernel⟩
theorem mi_X10_signOf : MI yX10_signOf cX10_signOf 1 (some .int) 1 := ⟨by decide +kernel, (mw (i := 2138) (by decide +kernel) rfl), (mw (i := 176) (by decide +kernel) rfl), by decide +kernel, by decide +kernel⟩
theorem mi_X10_thinks : MI yX10_thinks cX10_thinks 1 none 0 := ⟨by decide +kernel, (mw (i := 2116) (by decide +kernel) rfl), (mw (i := 176) (by decide +kernel) rfl), by decide +kernel, by decide +kernel⟩
theorem mi_X10_thrown : MI yX10_thrown cX10_thrown 1 (some .int) 0 := ⟨by decide +kernel, (mw (i := 2077) (by decide +kernel) rfl), (mw (i := 176) (by decide +kernel) rfl), by decide +kernel, by decide +kernel⟩
theorem mi_X10_valueOf : MI yX10_valueOf cX10_valueOf 1 (some .int) 1 := ⟨by decide +kernel, (mw (i := 2212) (by decide +kernel) rfl), (mw (i := 176) (by decide +kernel) rfl), by decide +kernel, by decide +kernel⟩
theorem fl_RX10_9 : Fl RX10 9 10 1 (.array .int) true := ⟨RX10, TX10, 24, tyX10, rfl, by decide, rfl, lay_10, (mw (i := 2002) (by decide +kernel) rfl), tyX10_ok, nmX10, tyX10_ok 1 (by decide), rfl, by decide, fun _ => rfl⟩
theorem fl_RX10_13 : Fl RX10 13 10 2 (.array .int) true := ⟨RX10, TX10, 24, tyX10, rfl, by decide, rfl, lay_10, (mw (i := 2003) (by decide +kernel) rfl), tyX10_ok, nmX10, tyX10_ok 2 (by decide), rfl, by decide, fun _ => rfl⟩
theorem fl_RX10_17 : Fl RX10 17 10 3 (.array .int) true := ⟨RX10, TX10, 24, tyX10, rfl, by decide, rfl, lay_10, (mw (i := 2004) (by decide +kernel) rfl), tyX10_ok, nmX10, tyX10_ok 3 (by decide), rfl, by decide, fun _ => rfl⟩
theorem fl_RX10_20 : Fl RX10 20 10 4 (.array .int) true := ⟨RX10, TX10, 24, tyX10, rfl, by decide, rfl, lay_10, (mw (i := 2005) (by decide +kernel) rfl), tyX10_ok, nmX10, tyX10_ok 4 (by decide), rfl, by decide, fun _ => rfl⟩
theorem fl_RX10_23 : Fl RX10 23 10 5 (.array .boolean) true := ⟨RX10, TX10, 24, tyX10, rfl, by decide, rfl, lay_10, (mw (i := 2006) (by decide +kernel) rfl), tyX10_ok, nmX10, tyX10_ok 5 (by decide), rfl, by decide, fun _ => rfl⟩
theorem fl_RX10_27 : Fl RX10 27 10 8 (.array .byte) true := ⟨RX10, TX10, 24, tyX10, rfl, by decide, rfl, lay_10, (mw (i := 2009) (by decide +kernel) rfl), tyX10_ok, nmX10, tyX10_ok 8 (by decide), rfl, by decide, fun _ => rfl⟩
theorem fl_RX10_31 : Fl RX10 31 10 11 .int false := ⟨RX10, TX10, 24, tyX10, rfl, by decide, rfl, lay_10, (mw (i := 2012) (by decide +kernel) rfl), tyX10_ok, nmX10, tyX10_ok 11 (by decide), rfl, by decide, by decide⟩
theorem fl_RX10_35 : Fl RX10 35 10 21 (.array .boolean) true := ⟨RX10, TX10, 24, tyX10, rfl, by decide, rfl, lay_10, (mw (i := 2022) (by decide +kernel) rfl), tyX10_ok, nmX10, tyX10_ok 21 (by decide), rfl, by decide, fun _ => rfl⟩
theorem fl_RX10_38 : Fl RX10 38 10 22 (.array .byte) true := ⟨RX10, TX10, 24, tyX10, rfl, by decide, rfl, lay_10, (mw (i := 2023) (by decide +kernel) rfl), tyX10_ok, nmX10, tyX10_ok 22 (by decide), rfl, by decide, fun _ => rfl⟩
theorem fl_RX10_41 : Fl RX10 41 10 0 .int false := ⟨RX10, TX10, 24, tyX10, rfl, by decide, rfl, lay_10, (mw (i := 2001) (by decide +kernel) rfl), tyX10_ok, nmX10, tyX10_ok 0 (by decide), rfl, by decide, by decide⟩
theorem fl_RX10_48 : Fl RX10 48 10 6 .boolean false := ⟨RX10, TX10, 24, tyX10, rfl, by decide, rfl, lay_10, (mw (i := 2007) (by decide +kernel) rfl), tyX10_ok, nmX10, tyX10_ok 6 (by decide), rfl, by decide, by decide⟩
theorem fl_RX10_56 : Fl RX10 56 10 9 .int false := ⟨RX10, TX10, 24, tyX10, rfl, by decide, rfl, lay_10, (mw (i := 2010) (by decide +kernel) rfl), tyX10_ok, nmX10, tyX10_ok 9 (by decide), rfl, by decide, by decide⟩
theorem fl_RX10_63 : Fl RX10 63 10 10 .int false := ⟨RX10, TX10, 24, tyX10, rfl, by decide, rfl, lay_10, (mw (i := 2011) (by decide +kernel) rfl), tyX10_ok, nmX10, tyX10_ok 10 (by decide), rfl, by decide, by decide⟩
theorem fl_RX10_66 : Fl RX10 66 10 12 .int false := ⟨RX10, TX10, 24, tyX10, rfl, by decide, rfl, lay_10, (mw (i := 2013) (by decide +kernel) rfl), tyX10_ok, nmX10, tyX10_ok 12 (by decide), rfl, by decide, by decide⟩
theorem fl_RX10_73 : Fl RX10 73 10 17 .int false := ⟨RX10, TX10, 24, tyX10, rfl, by decide, rfl, lay_10, (mw (i := 2018) (by decide +kernel) rfl), tyX10_ok, nmX10, tyX10_ok 17 (by decide), rfl, by decide, by decide⟩
theorem fl_RX10_76 : Fl RX10 76 10 13 .int false := ⟨RX10, TX10, 24, tyX10, rfl, by decide, rfl, lay_10, (mw (i := 2014) (by decide +kernel) rfl), tyX10_ok, nmX10, tyX10_ok 13 (by decide), rfl, by decide, by decide⟩
theorem fl_RX10_79 : Fl RX10 79 10 14 .int false := ⟨RX10, TX10, 24, tyX10, rfl, by decide, rfl, lay_10, (mw (i := 2015) (by decide +kernel) rfl), tyX10_ok, nmX10, tyX10_ok 14 (by decide), rfl, by decide, by decide⟩
theorem fl_RX10_82 : Fl RX10 82 10 15 .int false := ⟨RX10, TX10, 24, tyX10, rfl, by decide, rfl, lay_10, (mw (i := 2016) (by decide +kernel) rfl), tyX10_ok, nmX10, tyX10_ok 15 (by decide), rfl, by decide, by decide⟩
theorem fl_RX10_92 : Fl RX10 92 10 16 .int false := ⟨RX10, TX10, 24, tyX10, rfl, by decide, rfl, lay_10, (mw (i := 2017) (by decide +kernel) rfl), tyX10_ok, nmX10, tyX10_ok 16 (by decide), rfl, by decide, by decide⟩
theorem fl_RX10_99 : Fl RX10 99 10 18 .int false := ⟨RX10, TX10, 24, tyX10, rfl, by decide, rfl, lay_10, (mw (i := 2019) (by decide +kernel) rfl), tyX10_ok, nmX10, tyX10_ok 18 (by decide), rfl, by decide, by decide⟩
theorem fl_RX10_132 : Fl RX10 132 10 20 .int false := ⟨RX10, TX10, 24, tyX10, rfl, by decide, rfl, lay_10, (mw (i := 2021) (by decide +kernel) rfl), tyX10_ok, nmX10, tyX10_ok 20 (by decide), rfl, by decide, by decide⟩
theorem fl_RX10_135 : Fl RX10 135 10 19 .int false := ⟨RX10, TX10, 24, tyX10, rfl, by decide, rfl, lay_10, (mw (i := 2020) (by decide +kernel) rfl), tyX10_ok, nmX10, tyX10_ok 19 (by decide), rfl, by decide, by decide⟩
theorem lk_RX10_44 : LV RX10 44 yX10_may := ⟨(mw (i := 2105) (by decide +kernel) rfl), (mw (i := 2107) (by decide +kernel) rfl), (mw (i := 38) (by decide +kernel) rfl)⟩
theorem lk_RX10_52 : LSt RX10 52 yX10_lays := ⟨(mw (i := 2117) (by decide +kernel) rfl), (mw (i := 2118) (by decide +kernel) rfl)⟩
theorem lk_RX10_59 : LV RX10 59 yX10_four := ⟨(mw (i := 2082) (by decide +kernel) rfl), (mw (i := 2084) (by decide +kernel) rfl), (mw (i := 37) (by decide +kernel) rfl)⟩
theorem lk_RX10_69 : LSt RX10 69 yX10_in := ⟨(mw (i := 2102) (by decide +kernel) rfl), (mw (i := 2103) (by decide +kernel) rfl)⟩
theorem lk_RX10_85 : LV RX10 85 yX10_isLetter := ⟨(mw (i := 2128) (by decide +kernel) rfl), (mw (i := 2130) (by decide +kernel) rfl), (mw (i := 43) (by decide +kernel) rfl)⟩
theorem lk_RX10_89 : LV RX10 89 yX10_isDigit := ⟨(mw (i := 2132) (by decide +kernel) rfl), (mw (i := 2134) (by decide +kernel) rfl), (mw (i := 44) (by decide +kernel) rfl)⟩
theorem lk_RX10_95 : LSt RX10 95 yX10_signOf := ⟨(mw (i := 2136) (by decide +kernel) rfl), (mw (i := 2137) (by decide +kernel) rfl)⟩
theorem lk_RX10_102 : LV RX10 102 yX10_is := ⟨(mw (i := 2144) (by decide +kernel) rfl), (mw (i := 2146) (by decide +kernel) rfl), (mw (i := 46) (by decide +kernel) rfl)⟩
theorem lk_RX10_105 : LV RX10 105 yJ0_length_8abf5 := ⟨(mw (i := 2148) (by decide +kernel) rfl), (mw (i := 745) (by decide +kernel) rfl), (mw (i := 746) (by decide +kernel) rfl)⟩
theorem lk_RX10_111 : LV RX10 111 yJ0_charAt_5068e := ⟨(mw (i := 2149) (by decide +kernel) rfl), (mw (i := 754) (by decide +kernel) rfl), (mw (i := 755) (by decide +kernel) rfl)⟩
theorem lk_RX10_115 : LV RX10 115 yX10_faults := ⟨(mw (i := 2150) (by decide +kernel) rfl), (mw (i := 2152) (by decide +kernel) rfl), (mw (i := 47) (by decide +kernel) rfl)⟩
theorem lk_RX10_118 : LV RX10 118 yX10_numberHere := ⟨(mw (i := 2158) (by decide +kernel) rfl), (mw (i := 2160) (by decide +kernel) rfl), (mw (i := 49) (by decide +kernel) rfl)⟩
theorem lk_RX10_122 : LV RX10 122 yX10_goes := ⟨(mw (i := 2124) (by decide +kernel) rfl), (mw (i := 2126) (by decide +kernel) rfl), (mw (i := 42) (by decide +kernel) rfl)⟩
theorem lk_RX10_125 : LSt RX10 125 yX10_valueOf := ⟨(mw (i := 2210) (by decide +kernel) rfl), (mw (i := 2211) (by decide +kernel) rfl)⟩
theorem lk_RX10_128 : LSt RX10 128 yX10_letterOf := ⟨(mw (i := 2493) (by decide +kernel) rfl), (mw (i := 2494) (by decide +kernel) rfl)⟩
theorem lk_RX10_138 : LV RX10 138 yX10_ofAct := ⟨(mw (i := 2175) (by decide +kernel) rfl), (mw (i := 2177) (by decide +kernel) rfl), (mw (i := 53) (by decide +kernel) rfl)⟩
theorem lk_RX10_141 : LV RX10 141 yX10_putsAct := ⟨(mw (i := 2190) (by decide +kernel) rfl), (mw (i := 2192) (by decide +kernel) rfl), (mw (i := 56) (by decide +kernel) rfl)⟩
theorem lk_RX10_145 : LV RX10 145 yX10_ofClause := ⟨(mw (i := 2233) (by decide +kernel) rfl), (mw (i := 2235) (by decide +kernel) rfl), (mw (i := 66) (by decide +kernel) rfl)⟩
theorem lk_RX10_231 : LV RX10 231 yX10_leaves := ⟨(mw (i := 2221) (by decide +kernel) rfl), (mw (i := 2223) (by decide +kernel) rfl), (mw (i := 63) (by decide +kernel) rfl)⟩
theorem cs_RX10_16 : Cond.constant RX10 16 49112 ∈ ALLw := mw (i := 2000) (by decide +kernel) rfl
theorem na_boolean : Cond.arrayClass (newarray.typeOf .boolean) ∈ ALLw := mw (i := 255) (by decide +kernel) rfl
theorem na_int : Cond.arrayClass (newarray.typeOf .int) ∈ ALLw := mw (i := 254) (by decide +kernel) rfl
theorem obj_RX10_1 : OBW RX10 1 := ⟨(mw (i := 1999) (by decide +kernel) rfl), (mw (i := 198) (by decide +kernel) rfl), (mw (i := 199) (by decide +kernel) rfl)⟩
theorem dX10_init_0 : decode cX10_init 0 = .ok (.aload_n 0, 1) := by decide +kernel
theorem dX10_init_1 : decode cX10_init 1 = .ok (.invokespecial 1, 3) := by decide +kernel
theorem dX10_init_4 : decode cX10_init 4 = .ok (.aload_n 0, 1) := by decide +kernel
theorem dX10_init_5 : decode cX10_init 5 = .ok (.sipush 6139, 3) := by decide +kernel
theorem dX10_init_8 : decode cX10_init 8 = .ok (.newarray .int, 2) := by decide +kernel
theorem dX10_init_10 : decode cX10_init 10 = .ok (.putfield 9, 3) := by decide +kernel
theorem dX10_init_13 : decode cX10_init 13 = .ok (.aload_n 0, 1) := by decide +kernel
theorem dX10_init_14 : decode cX10_init 14 = .ok (.sipush 6139, 3) := by decide +kernel
theorem dX10_init_17 : decode cX10_init 17 = .ok (.newarray .int, 2) := by decide +kernel
theorem dX10_init_19 : decode cX10_init 19 = .ok (.putfield 13, 3) := by decide +kernel
theorem dX10_init_22 : decode cX10_init 22 = .ok (.aload_n 0, 1) := by decide +kernel
theorem dX10_init_23 : decode cX10_init 23 = .ok (.ldc 16, 2) := by decide +kernel
theorem dX10_init_25 : decode cX10_init 25 = .ok (.newarray .int, 2) := by decide +kernel
theorem dX10_init_27 : decode cX10_init 27 = .ok (.putfield 17, 3) := by decide +kernel
theorem dX10_init_30 : decode cX10_init 30 = .ok (.aload_n 0, 1) := by decide +kernel
theorem dX10_init_31 : decode cX10_init 31 = .ok (.sipush 12278, 3) := by decide +kernel
theorem dX10_init_34 : decode cX10_init 34 = .ok (.newarray .int, 2) := by decide +kernel
theorem dX10_init_36 : decode cX10_init 36 = .ok (.putfield 20, 3) := by decide +kernel
theorem dX10_init_39 : decode cX10_init 39 = .ok (.aload_n 0, 1) := by decide +kernel
theorem dX10_init_40 : decode cX10_init 40 = .ok (.iconst 2, 1) := by decide +kernel
theorem dX10_init_41 : decode cX10_init 41 = .ok (.newarray .boolean, 2) := by decide +kernel
theorem dX10_init_43 : decode cX10_init 43 = .ok (.putfield 23, 3) := by decide +kernel
theorem dX10_init_46 : decode cX10_init 46 = .ok (.aload_n 0, 1) := by decide +kernel
theorem dX10_init_47 : decode cX10_init 47 = .ok (.sipush 600, 3) := by decide +kernel
theorem dX10_init_50 : decode cX10_init 50 = .ok (.newarray .byte, 2) := by decide +kernel
theorem dX10_init_52 : decode cX10_init 52 = .ok (.putfield 27, 3) := by decide +kernel
theorem dX10_init_55 : decode cX10_init 55 = .ok (.aload_n 0, 1) := by decide +kernel
theorem dX10_init_56 : decode cX10_init 56 = .ok (.iconst (-1), 1) := by decide +kernel
theorem dX10_init_57 : decode cX10_init 57 = .ok (.putfield 31, 3) := by decide +kernel
theorem dX10_init_60 : decode cX10_init 60 = .ok (.aload_n 0, 1) := by decide +kernel
theorem dX10_init_61 : decode cX10_init 61 = .ok (.bipush 12, 2) := by decide +kernel
theorem dX10_init_63 : decode cX10_init 63 = .ok (.newarray .boolean, 2) := by decide +kernel
theorem dX10_init_65 : decode cX10_init 65 = .ok (.putfield 35, 3) := by decide +kernel
theorem dX10_init_68 : decode cX10_init 68 = .ok (.aload_n 0, 1) := by decide +kernel
theorem dX10_init_69 : decode cX10_init 69 = .ok (.sipush 20000, 3) := by decide +kernel
theorem dX10_init_72 : decode cX10_init 72 = .ok (.newarray .byte, 2) := by decide +kernel
theorem dX10_init_74 : decode cX10_init 74 = .ok (.putfield 38, 3) := by decide +kernel
theorem dX10_init_77 : decode cX10_init 77 = .ok (.return_, 1) := by decide +kernel
theorem dX10_thrown_0 : decode cX10_thrown 0 = .ok (.aload_n 0, 1) := by decide +kernel
theorem dX10_thrown_1 : decode cX10_thrown 1 = .ok (.getfield 41, 3) := by decide +kernel
theorem dX10_thrown_4 : decode cX10_thrown 4 = .ok (.ireturn, 1) := by decide +kernel
theorem dX10_in_0 : decode cX10_in 0 = .ok (.iload_n 1, 1) := by decide +kernel
theorem dX10_in_1 : decode cX10_in 1 = .ok (.iload_n 0, 1) := by decide +kernel
theorem dX10_in_2 : decode cX10_in 2 = .ok (.if_icmp .gt 12, 3) := by decide +kernel
theorem dX10_in_5 : decode cX10_in 5 = .ok (.iload_n 0, 1) := by decide +kernel
theorem dX10_in_6 : decode cX10_in 6 = .ok (.iload_n 2, 1) := by decide +kernel
theorem dX10_in_7 : decode cX10_in 7 = .ok (.if_icmp .gt 7, 3) := by decide +kernel
theorem dX10_in_10 : decode cX10_in 10 = .ok (.iconst 1, 1) := by decide +kernel
theorem dX10_in_11 : decode cX10_in 11 = .ok (.goto 4, 3) := by decide +kernel
theorem dX10_in_14 : decode cX10_in 14 = .ok (.iconst 0, 1) := by decide +kernel
theorem dX10_in_15 : decode cX10_in 15 = .ok (.ireturn, 1) := by decide +kernel
theorem dX10_one_0 : decode cX10_one 0 = .ok (.iload_n 0, 1) := by decide +kernel
theorem dX10_one_1 : decode cX10_one 1 = .ok (.ifCond .eq 7, 3) := by decide +kernel
theorem dX10_one_4 : decode cX10_one 4 = .ok (.iconst 1, 1) := by decide +kernel
theorem dX10_one_5 : decode cX10_one 5 = .ok (.goto 4, 3) := by decide +kernel
theorem dX10_one_8 : decode cX10_one 8 = .ok (.iconst 0, 1) := by decide +kernel
theorem dX10_one_9 : decode cX10_one 9 = .ok (.ireturn, 1) := by decide +kernel
theorem dX10_may_0 : decode cX10_may 0 = .ok (.aload_n 0, 1) := by decide +kernel
theorem dX10_may_1 : decode cX10_may 1 = .ok (.iload_n 1, 1) := by decide +kernel
theorem dX10_may_2 : decode cX10_may 2 = .ok (.ifCond .ne 7, 3) := by decide +kernel
theorem dX10_may_5 : decode cX10_may 5 = .ok (.iconst 1, 1) := by decide +kernel
theorem dX10_may_6 : decode cX10_may 6 = .ok (.goto 20, 3) := by decide +kernel
theorem dX10_may_9 : decode cX10_may 9 = .ok (.iload_n 2, 1) := by decide +kernel
theorem dX10_may_10 : decode cX10_may 10 = .ok (.ifCond .ne 7, 3) := by decide +kernel
theorem dX10_may_13 : decode cX10_may 13 = .ok (.iconst 2, 1) := by decide +kernel
theorem dX10_may_14 : decode cX10_may 14 = .ok (.goto 12, 3) := by decide +kernel
theorem dX10_may_17 : decode cX10_may 17 = .ok (.iload_n 3, 1) := by decide +kernel
theorem dX10_may_18 : decode cX10_may 18 = .ok (.ifCond .eq 7, 3) := by decide +kernel
theorem dX10_may_21 : decode cX10_may 21 = .ok (.iconst 0, 1) := by decide +kernel
theorem dX10_may_22 : decode cX10_may 22 = .ok (.goto 4, 3) := by decide +kernel
theorem dX10_may_25 : decode cX10_may 25 = .ok (.iconst 3, 1) := by decide +kernel
theorem dX10_may_26 : decode cX10_may 26 = .ok (.putfield 41, 3) := by decide +kernel
theorem dX10_may_29 : decode cX10_may 29 = .ok (.aload_n 0, 1) := by decide +kernel
theorem dX10_may_30 : decode cX10_may 30 = .ok (.getfield 41, 3) := by decide +kernel
theorem dX10_may_33 : decode cX10_may 33 = .ok (.ifCond .ne 7, 3) := by decide +kernel
theorem dX10_may_36 : decode cX10_may 36 = .ok (.iconst 1, 1) := by decide +kernel
theorem dX10_may_37 : decode cX10_may 37 = .ok (.goto 4, 3) := by decide +kernel
theorem dX10_may_40 : decode cX10_may 40 = .ok (.iconst 0, 1) := by decide +kernel
theorem dX10_may_41 : decode cX10_may 41 = .ok (.ireturn, 1) := by decide +kernel
theorem dX10_mayTwo_0 : decode cX10_mayTwo 0 = .ok (.aload_n 0, 1) := by decide +kernel
theorem dX10_mayTwo_1 : decode cX10_mayTwo 1 = .ok (.iload_n 1, 1) := by decide +kernel
theorem dX10_mayTwo_2 : decode cX10_mayTwo 2 = .ok (.iload_n 2, 1) := by decide +kernel
theorem dX10_mayTwo_3 : decode cX10_mayTwo 3 = .ok (.iconst 1, 1) := by decide +kernel
theorem dX10_mayTwo_4 : decode cX10_mayTwo 4 = .ok (.invokevirtual 44, 3) := by decide +kernel
theorem dX10_mayTwo_7 : decode cX10_mayTwo 7 = .ok (.ireturn, 1) := by decide +kernel
theorem dX10_mayLook_0 : decode cX10_mayLook 0 = .ok (.aload_n 0, 1) := by decide +kernel
theorem dX10_mayLook_1 : decode cX10_mayLook 1 = .ok (.aload_n 0, 1) := by decide +kernel
theorem dX10_mayLook_2 : decode cX10_mayLook 2 = .ok (.getfield 48, 3) := by decide +kernel
theorem dX10_mayLook_5 : decode cX10_mayLook 5 = .ok (.iconst 1, 1) := by decide +kernel
theorem dX10_mayLook_6 : decode cX10_mayLook 6 = .ok (.iconst 1, 1) := by decide +kernel
theorem dX10_mayLook_7 : decode cX10_mayLook 7 = .ok (.invokevirtual 44, 3) := by decide +kernel
theorem dX10_mayLook_10 : decode cX10_mayLook 10 = .ok (.ireturn, 1) := by decide +kernel
theorem dX10_lays_0 : decode cX10_lays 0 = .ok (.iconst 0, 1) := by decide +kernel
theorem dX10_lays_1 : decode cX10_lays 1 = .ok (.istore 4, 2) := by decide +kernel
theorem dX10_lays_3 : decode cX10_lays 3 = .ok (.iload 4, 2) := by decide +kernel
theorem dX10_lays_5 : decode cX10_lays 5 = .ok (.sipush 6139, 3) := by decide +kernel
theorem dX10_lays_8 : decode cX10_lays 8 = .ok (.if_icmp .ge 21, 3) := by decide +kernel
theorem dX10_lays_11 : decode cX10_lays 11 = .ok (.aload_n 2, 1) := by decide +kernel
theorem dX10_lays_12 : decode cX10_lays 12 = .ok (.iload_n 3, 1) := by decide +kernel
theorem dX10_lays_13 : decode cX10_lays 13 = .ok (.iload 4, 2) := by decide +kernel
theorem dX10_lays_15 : decode cX10_lays 15 = .ok (.iadd, 1) := by decide +kernel
theorem dX10_lays_16 : decode cX10_lays 16 = .ok (.aload_n 0, 1) := by decide +kernel
theorem dX10_lays_17 : decode cX10_lays 17 = .ok (.iload_n 1, 1) := by decide +kernel
theorem dX10_lays_18 : decode cX10_lays 18 = .ok (.iload 4, 2) := by decide +kernel
theorem dX10_lays_20 : decode cX10_lays 20 = .ok (.iadd, 1) := by decide +kernel
theorem dX10_lays_21 : decode cX10_lays 21 = .ok (.iaload, 1) := by decide +kernel
theorem dX10_lays_22 : decode cX10_lays 22 = .ok (.iastore, 1) := by decide +kernel
theorem dX10_lays_23 : decode cX10_lays 23 = .ok (.iinc 4 1, 3) := by decide +kernel
theorem dX10_lays_26 : decode cX10_lays 26 = .ok (.goto (-23), 3) := by decide +kernel
theorem dX10_lays_29 : decode cX10_lays 29 = .ok (.return_, 1) := by decide +kernel
theorem dX10_thinks_0 : decode cX10_thinks 0 = .ok (.aload_n 0, 1) := by decide +kernel
theorem dX10_thinks_1 : decode cX10_thinks 1 = .ok (.getfield 9, 3) := by decide +kernel
theorem dX10_thinks_4 : decode cX10_thinks 4 = .ok (.iconst 0, 1) := by decide +kernel
theorem dX10_thinks_5 : decode cX10_thinks 5 = .ok (.aload_n 0, 1) := by decide +kernel
theorem dX10_thinks_6 : decode cX10_thinks 6 = .ok (.getfield 13, 3) := by decide +kernel
theorem dX10_thinks_9 : decode cX10_thinks 9 = .ok (.iconst 0, 1) := by decide +kernel
theorem dX10_thinks_10 : decode cX10_thinks 10 = .ok (.invokestatic 52, 3) := by decide +kernel
theorem dX10_thinks_13 : decode cX10_thinks 13 = .ok (.return_, 1) := by decide +kernel
theorem dX10_back_0 : decode cX10_back 0 = .ok (.aload_n 0, 1) := by decide +kernel
theorem dX10_back_1 : decode cX10_back 1 = .ok (.getfield 13, 3) := by decide +kernel
theorem dX10_back_4 : decode cX10_back 4 = .ok (.iconst 0, 1) := by decide +kernel
theorem dX10_back_5 : decode cX10_back 5 = .ok (.aload_n 0, 1) := by decide +kernel
theorem dX10_back_6 : decode cX10_back 6 = .ok (.getfield 9, 3) := by decide +kernel
theorem dX10_back_9 : decode cX10_back 9 = .ok (.iconst 0, 1) := by decide +kernel
theorem dX10_back_10 : decode cX10_back 10 = .ok (.invokestatic 52, 3) := by decide +kernel
theorem dX10_back_13 : decode cX10_back 13 = .ok (.iload_n 1, 1) := by decide +kernel
theorem dX10_back_14 : decode cX10_back 14 = .ok (.ireturn, 1) := by decide +kernel
theorem dX10_four_0 : decode cX10_four 0 = .ok (.iconst 3, 1) := by decide +kernel
theorem dX10_four_1 : decode cX10_four 1 = .ok (.istore_n 2, 1) := by decide +kernel
theorem dX10_four_2 : decode cX10_four 2 = .ok (.iload_n 2, 1) := by decide +kernel
theorem dX10_four_3 : decode cX10_four 3 = .ok (.ifCond .lt 35, 3) := by decide +kernel
theorem dX10_four_6 : decode cX10_four 6 = .ok (.aload_n 0, 1) := by decide +kernel
theorem dX10_four_7 : decode cX10_four 7 = .ok (.getfield 27, 3) := by decide +kernel
theorem dX10_four_10 : decode cX10_four 10 = .ok (.aload_n 0, 1) := by decide +kernel
theorem dX10_four_11 : decode cX10_four 11 = .ok (.getfield 56, 3) := by decide +kernel
theorem dX10_four_14 : decode cX10_four 14 = .ok (.iload_n 1, 1) := by decide +kernel
theorem dX10_four_15 : decode cX10_four 15 = .ok (.bipush 8, 2) := by decide +kernel
theorem dX10_four_17 : decode cX10_four 17 = .ok (.iload_n 2, 1) := by decide +kernel
theorem dX10_four_18 : decode cX10_four 18 = .ok (.imul, 1) := by decide +kernel
theorem dX10_four_19 : decode cX10_four 19 = .ok (.ishr, 1) := by decide +kernel
theorem dX10_four_20 : decode cX10_four 20 = .ok (.i2b, 1) := by decide +kernel
theorem dX10_four_21 : decode cX10_four 21 = .ok (.bastore, 1) := by decide +kernel
theorem dX10_four_22 : decode cX10_four 22 = .ok (.aload_n 0, 1) := by decide +kernel
theorem dX10_four_23 : decode cX10_four 23 = .ok (.dup, 1) := by decide +kernel
theorem dX10_four_24 : decode cX10_four 24 = .ok (.getfield 56, 3) := by decide +kernel
theorem dX10_four_27 : decode cX10_four 27 = .ok (.iconst 1, 1) := by decide +kernel
theorem dX10_four_28 : decode cX10_four 28 = .ok (.iadd, 1) := by decide +kernel
theorem dX10_four_29 : decode cX10_four 29 = .ok (.putfield 56, 3) := by decide +kernel
theorem dX10_four_32 : decode cX10_four 32 = .ok (.iinc 2 (-1), 3) := by decide +kernel
theorem dX10_four_35 : decode cX10_four 35 = .ok (.goto (-33), 3) := by decide +kernel
theorem dX10_four_38 : decode cX10_four 38 = .ok (.return_, 1) := by decide +kernel
theorem dX10_append_0 : decode cX10_append 0 = .ok (.aload_n 0, 1) := by decide +kernel
theorem dX10_append_1 : decode cX10_append 1 = .ok (.iconst 0, 1) := by decide +kernel
theorem dX10_append_2 : decode cX10_append 2 = .ok (.putfield 41, 3) := by decide +kernel
theorem dX10_append_5 : decode cX10_append 5 = .ok (.aload_n 0, 1) := by decide +kernel
theorem dX10_append_6 : decode cX10_append 6 = .ok (.getfield 56, 3) := by decide +kernel
theorem dX10_append_9 : decode cX10_append 9 = .ok (.sipush 580, 3) := by decide +kernel
theorem dX10_append_12 : decode cX10_append 12 = .ok (.if_icmp .le 5, 3) := by decide +kernel
theorem dX10_append_15 : decode cX10_append 15 = .ok (.iconst (-1), 1) := by decide +kernel
theorem dX10_append_16 : decode cX10_append 16 = .ok (.ireturn, 1) := by decide +kernel
theorem dX10_append_17 : decode cX10_append 17 = .ok (.aload_n 0, 1) := by decide +kernel
theorem dX10_append_18 : decode cX10_append 18 = .ok (.iload_n 1, 1) := by decide +kernel
theorem dX10_append_19 : decode cX10_append 19 = .ok (.invokevirtual 59, 3) := by decide +kernel
theorem dX10_append_22 : decode cX10_append 22 = .ok (.aload_n 0, 1) := by decide +kernel
theorem dX10_append_23 : decode cX10_append 23 = .ok (.iload_n 2, 1) := by decide +kernel
theorem dX10_append_24 : decode cX10_append 24 = .ok (.invokevirtual 59, 3) := by decide +kernel
theorem dX10_append_27 : decode cX10_append 27 = .ok (.aload_n 0, 1) := by decide +kernel
theorem dX10_append_28 : decode cX10_append 28 = .ok (.iload_n 3, 1) := by decide +kernel
theorem dX10_append_29 : decode cX10_append 29 = .ok (.invokevirtual 59, 3) := by decide +kernel
theorem dX10_append_32 : decode cX10_append 32 = .ok (.aload_n 0, 1) := by decide +kernel
theorem dX10_append_33 : decode cX10_append 33 = .ok (.iload 4, 2) := by decide +kernel
theorem dX10_append_35 : decode cX10_append 35 = .ok (.invokevirtual 59, 3) := by decide +kernel
theorem dX10_append_38 : decode cX10_append 38 = .ok (.aload_n 0, 1) := by decide +kernel
theorem dX10_append_39 : decode cX10_append 39 = .ok (.iload 5, 2) := by decide +kernel
theorem dX10_append_41 : decode cX10_append 41 = .ok (.invokevirtual 59, 3) := by decide +kernel
theorem dX10_append_44 : decode cX10_append 44 = .ok (.aload_n 0, 1) := by decide +kernel
theorem dX10_append_45 : decode cX10_append 45 = .ok (.getfield 56, 3) := by decide +kernel
theorem dX10_append_48 : decode cX10_append 48 = .ok (.ireturn, 1) := by decide +kernel
theorem dX10_parseError_0 : decode cX10_parseError 0 = .ok (.aload_n 0, 1) := by decide +kernel
theorem dX10_parseError_1 : decode cX10_parseError 1 = .ok (.iconst 0, 1) := by decide +kernel
theorem dX10_parseError_2 : decode cX10_parseError 2 = .ok (.putfield 41, 3) := by decide +kernel
theorem dX10_parseError_5 : decode cX10_parseError 5 = .ok (.aload_n 0, 1) := by decide +kernel
theorem dX10_parseError_6 : decode cX10_parseError 6 = .ok (.getfield 63, 3) := by decide +kernel
theorem dX10_parseError_9 : decode cX10_parseError 9 = .ok (.ireturn, 1) := by decide +kernel
theorem dX10_errorPosition_0 : decode cX10_errorPosition 0 = .ok (.aload_n 0, 1) := by decide +kernel
theorem dX10_errorPosition_1 : decode cX10_errorPosition 1 = .ok (.iconst 0, 1) := by decide +kernel
theorem dX10_errorPosition_2 : decode cX10_errorPosition 2 = .ok (.putfield 41, 3) := by decide +kernel
theorem dX10_errorPosition_5 : decode cX10_errorPosition 5 = .ok (.aload_n 0, 1) := by decide +kernel
theorem dX10_errorPosition_6 : decode cX10_errorPosition 6 = .ok (.getfield 31, 3) := by decide +kernel
theorem dX10_errorPosition_9 : decode cX10_errorPosition 9 = .ok (.ireturn, 1) := by decide +kernel
theorem dX10_buffered_0 : decode cX10_buffered 0 = .ok (.aload_n 0, 1) := by decide +kernel
theorem dX10_buffered_1 : decode cX10_buffered 1 = .ok (.iconst 0, 1) := by decide +kernel
theorem dX10_buffered_2 : decode cX10_buffered 2 = .ok (.putfield 41, 3) := by decide +kernel
theorem dX10_buffered_5 : decode cX10_buffered 5 = .ok (.aload_n 0, 1) := by decide +kernel
theorem dX10_buffered_6 : decode cX10_buffered 6 = .ok (.getfield 56, 3) := by decide +kernel
theorem dX10_buffered_9 : decode cX10_buffered 9 = .ok (.ireturn, 1) := by decide +kernel
theorem dX10_isLetter_0 : decode cX10_isLetter 0 = .ok (.iload_n 1, 1) := by decide +kernel
theorem dX10_isLetter_1 : decode cX10_isLetter 1 = .ok (.aload_n 0, 1) := by decide +kernel
theorem dX10_isLetter_2 : decode cX10_isLetter 2 = .ok (.getfield 66, 3) := by decide +kernel
theorem dX10_isLetter_5 : decode cX10_isLetter 5 = .ok (.if_icmp .ge 23, 3) := by decide +kernel
theorem dX10_isLetter_8 : decode cX10_isLetter 8 = .ok (.aload_n 0, 1) := by decide +kernel
theorem dX10_isLetter_9 : decode cX10_isLetter 9 = .ok (.getfield 27, 3) := by decide +kernel
theorem dX10_isLetter_12 : decode cX10_isLetter 12 = .ok (.iload_n 1, 1) := by decide +kernel
theorem dX10_isLetter_13 : decode cX10_isLetter 13 = .ok (.baload, 1) := by decide +kernel
theorem dX10_isLetter_14 : decode cX10_isLetter 14 = .ok (.bipush 97, 2) := by decide +kernel
theorem dX10_isLetter_16 : decode cX10_isLetter 16 = .ok (.bipush 122, 2) := by decide +kernel
theorem dX10_isLetter_18 : decode cX10_isLetter 18 = .ok (.invokestatic 69, 3) := by decide +kernel
theorem dX10_isLetter_21 : decode cX10_isLetter 21 = .ok (.ifCond .eq 7, 3) := by decide +kernel
theorem dX10_isLetter_24 : decode cX10_isLetter 24 = .ok (.iconst 1, 1) := by decide +kernel
theorem dX10_isLetter_25 : decode cX10_isLetter 25 = .ok (.goto 4, 3) := by decide +kernel
theorem dX10_isLetter_28 : decode cX10_isLetter 28 = .ok (.iconst 0, 1) := by decide +kernel
theorem dX10_isLetter_29 : decode cX10_isLetter 29 = .ok (.ireturn, 1) := by decide +kernel
theorem dX10_isDigit_0 : decode cX10_isDigit 0 = .ok (.iload_n 1, 1) := by decide +kernel
theorem dX10_isDigit_1 : decode cX10_isDigit 1 = .ok (.aload_n 0, 1) := by decide +kernel
theorem dX10_isDigit_2 : decode cX10_isDigit 2 = .ok (.getfield 66, 3) := by decide +kernel
theorem dX10_isDigit_5 : decode cX10_isDigit 5 = .ok (.if_icmp .ge 23, 3) := by decide +kernel
theorem dX10_isDigit_8 : decode cX10_isDigit 8 = .ok (.aload_n 0, 1) := by decide +kernel
theorem dX10_isDigit_9 : decode cX10_isDigit 9 = .ok (.getfield 27, 3) := by decide +kernel
theorem dX10_isDigit_12 : decode cX10_isDigit 12 = .ok (.iload_n 1, 1) := by decide +kernel
theorem dX10_isDigit_13 : decode cX10_isDigit 13 = .ok (.baload, 1) := by decide +kernel
theorem dX10_isDigit_14 : decode cX10_isDigit 14 = .ok (.bipush 48, 2) := by decide +kernel
theorem dX10_isDigit_16 : decode cX10_isDigit 16 = .ok (.bipush 57, 2) := by decide +kernel
theorem dX10_isDigit_18 : decode cX10_isDigit 18 = .ok (.invokestatic 69, 3) := by decide +kernel
theorem dX10_isDigit_21 : decode cX10_isDigit 21 = .ok (.ifCond .eq 7, 3) := by decide +kernel
theorem dX10_isDigit_24 : decode cX10_isDigit 24 = .ok (.iconst 1, 1) := by decide +kernel
theorem dX10_isDigit_25 : decode cX10_isDigit 25 = .ok (.goto 4, 3) := by decide +kernel
theorem dX10_isDigit_28 : decode cX10_isDigit 28 = .ok (.iconst 0, 1) := by decide +kernel
theorem dX10_isDigit_29 : decode cX10_isDigit 29 = .ok (.ireturn, 1) := by decide +kernel
theorem dX10_signOf_0 : decode cX10_signOf 0 = .ok (.iload_n 0, 1) := by decide +kernel
theorem dX10_signOf_1 : decode cX10_signOf 1 = .ok (.bipush 59, 2) := by decide +kernel
theorem dX10_signOf_3 : decode cX10_signOf 3 = .ok (.if_icmp .ne 7, 3) := by decide +kernel
theorem dX10_signOf_6 : decode cX10_signOf 6 = .ok (.iconst 4, 1) := by decide +kernel
theorem dX10_signOf_7 : decode cX10_signOf 7 = .ok (.goto 25, 3) := by decide +kernel
theorem dX10_signOf_10 : decode cX10_signOf 10 = .ok (.iload_n 0, 1) := by decide +kernel
theorem dX10_signOf_11 : decode cX10_signOf 11 = .ok (.bipush 40, 2) := by decide +kernel
theorem dX10_signOf_13 : decode cX10_signOf 13 = .ok (.if_icmp .ne 7, 3) := by decide +kernel
theorem dX10_signOf_16 : decode cX10_signOf 16 = .ok (.iconst 5, 1) := by decide +kernel
theorem dX10_signOf_17 : decode cX10_signOf 17 = .ok (.goto 15, 3) := by decide +kernel
theorem dX10_signOf_20 : decode cX10_signOf 20 = .ok (.iload_n 0, 1) := by decide +kernel
theorem dX10_signOf_21 : decode cX10_signOf 21 = .ok (.bipush 41, 2) := by decide +kernel
theorem dX10_signOf_23 : decode cX10_signOf 23 = .ok (.if_icmp .ne 8, 3) := by decide +kernel
theorem dX10_signOf_26 : decode cX10_signOf 26 = .ok (.bipush 6, 2) := by decide +kernel
theorem dX10_signOf_28 : decode cX10_signOf 28 = .ok (.goto 4, 3) := by decide +kernel
theorem dX10_signOf_31 : decode cX10_signOf 31 = .ok (.iconst 0, 1) := by decide +kernel
theorem dX10_signOf_32 : decode cX10_signOf 32 = .ok (.ireturn, 1) := by decide +kernel
theorem dX10_goes_0 : decode cX10_goes 0 = .ok (.aload_n 0, 1) := by decide +kernel
theorem dX10_goes_1 : decode cX10_goes 1 = .ok (.getfield 73, 3) := by decide +kernel
theorem dX10_goes_4 : decode cX10_goes 4 = .ok (.ifCond .le 4, 3) := by decide +kernel
theorem dX10_goes_7 : decode cX10_goes 7 = .ok (.return_, 1) := by decide +kernel
theorem dX10_goes_8 : decode cX10_goes 8 = .ok (.aload_n 0, 1) := by decide +kernel
theorem dX10_goes_9 : decode cX10_goes 9 = .ok (.getfield 76, 3) := by decide +kernel
theorem dX10_goes_12 : decode cX10_goes 12 = .ok (.aload_n 0, 1) := by decide +kernel
theorem dX10_goes_13 : decode cX10_goes 13 = .ok (.getfield 66, 3) := by decide +kernel
theorem dX10_goes_16 : decode cX10_goes 16 = .ok (.if_icmp .ge 30, 3) := by decide +kernel
theorem dX10_goes_19 : decode cX10_goes 19 = .ok (.aload_n 0, 1) := by decide +kernel
theorem dX10_goes_20 : decode cX10_goes 20 = .ok (.getfield 27, 3) := by decide +kernel
theorem dX10_goes_23 : decode cX10_goes 23 = .ok (.aload_n 0, 1) := by decide +kernel
theorem dX10_goes_24 : decode cX10_goes 24 = .ok (.getfield 76, 3) := by decide +kernel
theorem dX10_goes_27 : decode cX10_goes 27 = .ok (.baload, 1) := by decide +kernel
theorem dX10_goes_28 : decode cX10_goes 28 = .ok (.bipush 32, 2) := by decide +kernel
theorem dX10_goes_30 : decode cX10_goes 30 = .ok (.if_icmp .ne 16, 3) := by decide +kernel
theorem dX10_goes_33 : decode cX10_goes 33 = .ok (.aload_n 0, 1) := by decide +kernel
theorem dX10_goes_34 : decode cX10_goes 34 = .ok (.dup, 1) := by decide +kernel
theorem dX10_goes_35 : decode cX10_goes 35 = .ok (.getfield 76, 3) := by decide +kernel
theorem dX10_goes_38 : decode cX10_goes 38 = .ok (.iconst 1, 1) := by decide +kernel
theorem dX10_goes_39 : decode cX10_goes 39 = .ok (.iadd, 1) := by decide +kernel
theorem dX10_goes_40 : decode cX10_goes 40 = .ok (.putfield 76, 3) := by decide +kernel
theorem dX10_goes_43 : decode cX10_goes 43 = .ok (.goto (-35), 3) := by decide +kernel
theorem dX10_goes_46 : decode cX10_goes 46 = .ok (.aload_n 0, 1) := by decide +kernel
theorem dX10_goes_47 : decode cX10_goes 47 = .ok (.aload_n 0, 1) := by decide +kernel
theorem dX10_goes_48 : decode cX10_goes 48 = .ok (.getfield 76, 3) := by decide +kernel
theorem dX10_goes_51 : decode cX10_goes 51 = .ok (.putfield 79, 3) := by decide +kernel
theorem dX10_goes_54 : decode cX10_goes 54 = .ok (.aload_n 0, 1) := by decide +kernel
theorem dX10_goes_55 : decode cX10_goes 55 = .ok (.aload_n 0, 1) := by decide +kernel
theorem dX10_goes_56 : decode cX10_goes 56 = .ok (.getfield 76, 3) := by decide +kernel
theorem dX10_goes_59 : decode cX10_goes 59 = .ok (.aload_n 0, 1) := by decide +kernel
theorem dX10_goes_60 : decode cX10_goes 60 = .ok (.getfield 66, 3) := by decide +kernel
theorem dX10_goes_63 : decode cX10_goes 63 = .ok (.if_icmp .ne 7, 3) := by decide +kernel
theorem dX10_goes_66 : decode cX10_goes 66 = .ok (.iconst 1, 1) := by decide +kernel
theorem dX10_goes_67 : decode cX10_goes 67 = .ok (.goto 4, 3) := by decide +kernel
theorem dX10_goes_70 : decode cX10_goes 70 = .ok (.iconst 0, 1) := by decide +kernel
theorem dX10_goes_71 : decode cX10_goes 71 = .ok (.putfield 82, 3) := by decide +kernel
theorem dX10_goes_74 : decode cX10_goes 74 = .ok (.aload_n 0, 1) := by decide +kernel
theorem dX10_goes_75 : decode cX10_goes 75 = .ok (.getfield 82, 3) := by decide +kernel
theorem dX10_goes_78 : decode cX10_goes 78 = .ok (.iconst 1, 1) := by decide +kernel
theorem dX10_goes_79 : decode cX10_goes 79 = .ok (.if_icmp .ne 4, 3) := by decide +kernel
theorem dX10_goes_82 : decode cX10_goes 82 = .ok (.return_, 1) := by decide +kernel
theorem dX10_goes_83 : decode cX10_goes 83 = .ok (.aload_n 0, 1) := by decide +kernel
theorem dX10_goes_84 : decode cX10_goes 84 = .ok (.aload_n 0, 1) := by decide +kernel
theorem dX10_goes_85 : decode cX10_goes 85 = .ok (.getfield 76, 3) := by decide +kernel
theorem dX10_goes_88 : decode cX10_goes 88 = .ok (.invokevirtual 85, 3) := by decide +kernel
theorem dX10_goes_91 : decode cX10_goes 91 = .ok (.ifCond .eq 51, 3) := by decide +kernel
theorem dX10_goes_94 : decode cX10_goes 94 = .ok (.aload_n 0, 1) := by decide +kernel
theorem dX10_goes_95 : decode cX10_goes 95 = .ok (.aload_n 0, 1) := by decide +kernel
theorem dX10_goes_96 : decode cX10_goes 96 = .ok (.getfield 76, 3) := by decide +kernel
theorem dX10_goes_99 : decode cX10_goes 99 = .ok (.invokevirtual 85, 3) := by decide +kernel
theorem dX10_goes_102 : decode cX10_goes 102 = .ok (.ifCond .eq 16, 3) := by decide +kernel
theorem dX10_goes_105 : decode cX10_goes 105 = .ok (.aload_n 0, 1) := by decide +kernel
theorem dX10_goes_106 : decode cX10_goes 106 = .ok (.dup, 1) := by decide +kernel
theorem dX10_goes_107 : decode cX10_goes 107 = .ok (.getfield 76, 3) := by decide +kernel
theorem dX10_goes_110 : decode cX10_goes 110 = .ok (.iconst 1, 1) := by decide +kernel
theorem dX10_goes_111 : decode cX10_goes 111 = .ok (.iadd, 1) := by decide +kernel
theorem dX10_goes_112 : decode cX10_goes 112 = .ok (.putfield 76, 3) := by decide +kernel
theorem dX10_goes_115 : decode cX10_goes 115 = .ok (.goto (-21), 3) := by decide +kernel
theorem dX10_goes_118 : decode cX10_goes 118 = .ok (.aload_n 0, 1) := by decide +kernel
theorem dX10_goes_119 : decode cX10_goes 119 = .ok (.aload_n 0, 1) := by decide +kernel
theorem dX10_goes_120 : decode cX10_goes 120 = .ok (.getfield 76, 3) := by decide +kernel
theorem dX10_goes_123 : decode cX10_goes 123 = .ok (.aload_n 0, 1) := by decide +kernel
theorem dX10_goes_124 : decode cX10_goes 124 = .ok (.getfield 79, 3) := by decide +kernel
theorem dX10_goes_127 : decode cX10_goes 127 = .ok (.isub, 1) := by decide +kernel
theorem dX10_goes_128 : decode cX10_goes 128 = .ok (.bipush 8, 2) := by decide +kernel
theorem dX10_goes_130 : decode cX10_goes 130 = .ok (.if_icmp .gt 7, 3) := by decide +kernel
theorem dX10_goes_133 : decode cX10_goes 133 = .ok (.iconst 2, 1) := by decide +kernel
theorem dX10_goes_134 : decode cX10_goes 134 = .ok (.goto 4, 3) := by decide +kernel
theorem dX10_goes_137 : decode cX10_goes 137 = .ok (.iconst 0, 1) := by decide +kernel
theorem dX10_goes_138 : decode cX10_goes 138 = .ok (.putfield 82, 3) := by decide +kernel
theorem dX10_goes_141 : decode cX10_goes 141 = .ok (.return_, 1) := by decide +kernel
theorem dX10_goes_142 : decode cX10_goes 142 = .ok (.aload_n 0, 1) := by decide +kernel
theorem dX10_goes_143 : decode cX10_goes 143 = .ok (.aload_n 0, 1) := by decide +kernel
theorem dX10_goes_144 : decode cX10_goes 144 = .ok (.getfield 76, 3) := by decide +kernel
theorem dX10_goes_147 : decode cX10_goes 147 = .ok (.invokevirtual 89, 3) := by decide +kernel
theorem dX10_goes_150 : decode cX10_goes 150 = .ok (.ifCond .eq 92, 3) := by decide +kernel
theorem dX10_goes_153 : decode cX10_goes 153 = .ok (.aload_n 0, 1) := by decide +kernel
theorem dX10_goes_154 : decode cX10_goes 154 = .ok (.iconst 0, 1) := by decide +kernel
theorem dX10_goes_155 : decode cX10_goes 155 = .ok (.putfield 92, 3) := by decide +kernel
theorem dX10_goes_158 : decode cX10_goes 158 = .ok (.aload_n 0, 1) := by decide +kernel
theorem dX10_goes_159 : decode cX10_goes 159 = .ok (.aload_n 0, 1) := by decide +kernel
theorem dX10_goes_160 : decode cX10_goes 160 = .ok (.getfield 76, 3) := by decide +kernel
theorem dX10_goes_163 : decode cX10_goes 163 = .ok (.invokevirtual 89, 3) := by decide +kernel
theorem dX10_goes_166 : decode cX10_goes 166 = .ok (.ifCond .eq 53, 3) := by decide +kernel
theorem dX10_goes_169 : decode cX10_goes 169 = .ok (.aload_n 0, 1) := by decide +kernel
theorem dX10_goes_170 : decode cX10_goes 170 = .ok (.getfield 76, 3) := by decide +kernel
theorem dX10_goes_173 : decode cX10_goes 173 = .ok (.aload_n 0, 1) := by decide +kernel
theorem dX10_goes_174 : decode cX10_goes 174 = .ok (.getfield 79, 3) := by decide +kernel
theorem dX10_goes_177 : decode cX10_goes 177 = .ok (.isub, 1) := by decide +kernel
theorem dX10_goes_178 : decode cX10_goes 178 = .ok (.iconst 2, 1) := by decide +kernel
theorem dX10_goes_179 : decode cX10_goes 179 = .ok (.if_icmp .ge 27, 3) := by decide +kernel
theorem dX10_goes_182 : decode cX10_goes 182 = .ok (.aload_n 0, 1) := by decide +kernel
theorem dX10_goes_183 : decode cX10_goes 183 = .ok (.bipush 10, 2) := by decide +kernel
theorem dX10_goes_185 : decode cX10_goes 185 = .ok (.aload_n 0, 1) := by decide +kernel
theorem dX10_goes_186 : decode cX10_goes 186 = .ok (.getfield 92, 3) := by decide +kernel
theorem dX10_goes_189 : decode cX10_goes 189 = .ok (.imul, 1) := by decide +kernel
theorem dX10_goes_190 : decode cX10_goes 190 = .ok (.aload_n 0, 1) := by decide +kernel
theorem dX10_goes_191 : decode cX10_goes 191 = .ok (.getfield 27, 3) := by decide +kernel
theorem dX10_goes_194 : decode cX10_goes 194 = .ok (.aload_n 0, 1) := by decide +kernel
theorem dX10_goes_195 : decode cX10_goes 195 = .ok (.getfield 76, 3) := by decide +kernel
theorem dX10_goes_198 : decode cX10_goes 198 = .ok (.baload, 1) := by decide +kernel
theorem dX10_goes_199 : decode cX10_goes 199 = .ok (.iadd, 1) := by decide +kernel
theorem dX10_goes_200 : decode cX10_goes 200 = .ok (.bipush 48, 2) := by decide +kernel
theorem dX10_goes_202 : decode cX10_goes 202 = .ok (.isub, 1) := by decide +kernel
theorem dX10_goes_203 : decode cX10_goes 203 = .ok (.putfield 92, 3) := by decide +kernel
theorem dX10_goes_206 : decode cX10_goes 206 = .ok (.aload_n 0, 1) := by decide +kernel
theorem dX10_goes_207 : decode cX10_goes 207 = .ok (.dup, 1) := by decide +kernel
theorem dX10_goes_208 : decode cX10_goes 208 = .ok (.getfield 76, 3) := by decide +kernel
theorem dX10_goes_211 : decode cX10_goes 211 = .ok (.iconst 1, 1) := by decide +kernel
theorem dX10_goes_212 : decode cX10_goes 212 = .ok (.iadd, 1) := by decide +kernel
theorem dX10_goes_213 : decode cX10_goes 213 = .ok (.putfield 76, 3) := by decide +kernel
theorem dX10_goes_216 : decode cX10_goes 216 = .ok (.goto (-58), 3) := by decide +kernel
theorem dX10_goes_219 : decode cX10_goes 219 = .ok (.aload_n 0, 1) := by decide +kernel
theorem dX10_goes_220 : decode cX10_goes 220 = .ok (.aload_n 0, 1) := by decide +kernel
theorem dX10_goes_221 : decode cX10_goes 221 = .ok (.getfield 76, 3) := by decide +kernel
theorem dX10_goes_224 : decode cX10_goes 224 = .ok (.aload_n 0, 1) := by decide +kernel
theorem dX10_goes_225 : decode cX10_goes 225 = .ok (.getfield 79, 3) := by decide +kernel
theorem dX10_goes_228 : decode cX10_goes 228 = .ok (.isub, 1) := by decide +kernel
theorem dX10_goes_229 : decode cX10_goes 229 = .ok (.iconst 2, 1) := by decide +kernel
theorem dX10_goes_230 : decode cX10_goes 230 = .ok (.if_icmp .gt 7, 3) := by decide +kernel
theorem dX10_goes_233 : decode cX10_goes 233 = .ok (.iconst 3, 1) := by decide +kernel
theorem dX10_goes_234 : decode cX10_goes 234 = .ok (.goto 4, 3) := by decide +kernel
theorem dX10_goes_237 : decode cX10_goes 237 = .ok (.iconst 0, 1) := by decide +kernel
theorem dX10_goes_238 : decode cX10_goes 238 = .ok (.putfield 82, 3) := by decide +kernel
theorem dX10_goes_241 : decode cX10_goes 241 = .ok (.return_, 1) := by decide +kernel
theorem dX10_goes_242 : decode cX10_goes 242 = .ok (.aload_n 0, 1) := by decide +kernel
theorem dX10_goes_243 : decode cX10_goes 243 = .ok (.aload_n 0, 1) := by decide +kernel
theorem dX10_goes_244 : decode cX10_goes 244 = .ok (.getfield 27, 3) := by decide +kernel
theorem dX10_goes_247 : decode cX10_goes 247 = .ok (.aload_n 0, 1) := by decide +kernel
theorem dX10_goes_248 : decode cX10_goes 248 = .ok (.getfield 76, 3) := by decide +kernel
theorem dX10_goes_251 : decode cX10_goes 251 = .ok (.baload, 1) := by decide +kernel
theorem dX10_goes_252 : decode cX10_goes 252 = .ok (.invokestatic 95, 3) := by decide +kernel
theorem dX10_goes_255 : decode cX10_goes 255 = .ok (.putfield 82, 3) := by decide +kernel
theorem dX10_goes_258 : decode cX10_goes 258 = .ok (.aload_n 0, 1) := by decide +kernel
theorem dX10_goes_259 : decode cX10_goes 259 = .ok (.dup, 1) := by decide +kernel
theorem dX10_goes_260 : decode cX10_goes 260 = .ok (.getfield 76, 3) := by decide +kernel
theorem dX10_goes_263 : decode cX10_goes 263 = .ok (.iconst 1, 1) := by decide +kernel
theorem dX10_goes_264 : decode cX10_goes 264 = .ok (.iadd, 1) := by decide +kernel
theorem dX10_goes_265 : decode cX10_goes 265 = .ok (.putfield 76, 3) := by decide +kernel
theorem dX10_goes_268 : decode cX10_goes 268 = .ok (.return_, 1) := by decide +kernel
theorem dX10_faults_0 : decode cX10_faults 0 = .ok (.aload_n 0, 1) := by decide +kernel
theorem dX10_faults_1 : decode cX10_faults 1 = .ok (.getfield 73, 3) := by decide +kernel
theorem dX10_faults_4 : decode cX10_faults 4 = .ok (.ifCond .le 4, 3) := by decide +kernel
theorem dX10_faults_7 : decode cX10_faults 7 = .ok (.return_, 1) := by decide +kernel
theorem dX10_faults_8 : decode cX10_faults 8 = .ok (.aload_n 0, 1) := by decide +kernel
theorem dX10_faults_9 : decode cX10_faults 9 = .ok (.iload_n 1, 1) := by decide +kernel
theorem dX10_faults_10 : decode cX10_faults 10 = .ok (.putfield 73, 3) := by decide +kernel
theorem dX10_faults_13 : decode cX10_faults 13 = .ok (.aload_n 0, 1) := by decide +kernel
theorem dX10_faults_14 : decode cX10_faults 14 = .ok (.aload_n 0, 1) := by decide +kernel
theorem dX10_faults_15 : decode cX10_faults 15 = .ok (.getfield 79, 3) := by decide +kernel
theorem dX10_faults_18 : decode cX10_faults 18 = .ok (.putfield 99, 3) := by decide +kernel
theorem dX10_faults_21 : decode cX10_faults 21 = .ok (.return_, 1) := by decide +kernel
theorem dX10_is_0 : decode cX10_is 0 = .ok (.aload_n 0, 1) := by decide +kernel
theorem dX10_is_1 : decode cX10_is 1 = .ok (.getfield 73, 3) := by decide +kernel
theorem dX10_is_4 : decode cX10_is 4 = .ok (.ifCond .ne 15, 3) := by decide +kernel
theorem dX10_is_7 : decode cX10_is 7 = .ok (.aload_n 0, 1) := by decide +kernel
theorem dX10_is_8 : decode cX10_is 8 = .ok (.getfield 82, 3) := by decide +kernel
theorem dX10_is_11 : decode cX10_is 11 = .ok (.iload_n 1, 1) := by decide +kernel
theorem dX10_is_12 : decode cX10_is 12 = .ok (.if_icmp .ne 7, 3) := by decide +kernel
theorem dX10_is_15 : decode cX10_is 15 = .ok (.iconst 1, 1) := by decide +kernel
theorem dX10_is_16 : decode cX10_is 16 = .ok (.goto 4, 3) := by decide +kernel
theorem dX10_is_19 : decode cX10_is 19 = .ok (.iconst 0, 1) := by decide +kernel
theorem dX10_is_20 : decode cX10_is 20 = .ok (.ireturn, 1) := by decide +kernel
theorem dX10_isWord_0 : decode cX10_isWord 0 = .ok (.aload_n 0, 1) := by decide +kernel
theorem dX10_isWord_1 : decode cX10_isWord 1 = .ok (.iconst 2, 1) := by decide +kernel
theorem dX10_isWord_2 : decode cX10_isWord 2 = .ok (.invokevirtual 102, 3) := by decide +kernel
theorem dX10_isWord_5 : decode cX10_isWord 5 = .ok (.ifCond .eq 19, 3) := by decide +kernel
theorem dX10_isWord_8 : decode cX10_isWord 8 = .ok (.aload_n 0, 1) := by decide +kernel
theorem dX10_isWord_9 : decode cX10_isWord 9 = .ok (.getfield 76, 3) := by decide +kernel
theorem dX10_isWord_12 : decode cX10_isWord 12 = .ok (.aload_n 0, 1) := by decide +kernel
theorem dX10_isWord_13 : decode cX10_isWord 13 = .ok (.getfield 79, 3) := by decide +kernel
theorem dX10_isWord_16 : decode cX10_isWord 16 = .ok (.isub, 1) := by decide +kernel
theorem dX10_isWord_17 : decode cX10_isWord 17 = .ok (.aload_n 1, 1) := by decide +kernel
theorem dX10_isWord_18 : decode cX10_isWord 18 = .ok (.invokevirtual 105, 3) := by decide +kernel
theorem dX10_isWord_21 : decode cX10_isWord 21 = .ok (.if_icmp .eq 5, 3) := by decide +kernel
theorem dX10_isWord_24 : decode cX10_isWord 24 = .ok (.iconst 0, 1) := by decide +kernel
theorem dX10_isWord_25 : decode cX10_isWord 25 = .ok (.ireturn, 1) := by decide +kernel
theorem dX10_isWord_26 : decode cX10_isWord 26 = .ok (.iconst 0, 1) := by decide +kernel
theorem dX10_isWord_27 : decode cX10_isWord 27 = .ok (.istore_n 2, 1) := by decide +kernel
theorem dX10_isWord_28 : decode cX10_isWord 28 = .ok (.iload_n 2, 1) := by decide +kernel
theorem dX10_isWord_29 : decode cX10_isWord 29 = .ok (.aload_n 1, 1) := by decide +kernel
theorem dX10_isWord_30 : decode cX10_isWord 30 = .ok (.invokevirtual 105, 3) := by decide +kernel
theorem dX10_isWord_33 : decode cX10_isWord 33 = .ok (.if_icmp .ge 30, 3) := by decide +kernel
theorem dX10_isWord_36 : decode cX10_isWord 36 = .ok (.aload_n 0, 1) := by decide +kernel
theorem dX10_isWord_37 : decode cX10_isWord 37 = .ok (.getfield 27, 3) := by decide +kernel
theorem dX10_isWord_40 : decode cX10_isWord 40 = .ok (.aload_n 0, 1) := by decide +kernel
theorem dX10_isWord_41 : decode cX10_isWord 41 = .ok (.getfield 79, 3) := by decide +kernel
theorem dX10_isWord_44 : decode cX10_isWord 44 = .ok (.iload_n 2, 1) := by decide +kernel
theorem dX10_isWord_45 : decode cX10_isWord 45 = .ok (.iadd, 1) := by decide +kernel
theorem dX10_isWord_46 : decode cX10_isWord 46 = .ok (.baload, 1) := by decide +kernel
theorem dX10_isWord_47 : decode cX10_isWord 47 = .ok (.aload_n 1, 1) := by decide +kernel
theorem dX10_isWord_48 : decode cX10_isWord 48 = .ok (.iload_n 2, 1) := by decide +kernel
theorem dX10_isWord_49 : decode cX10_isWord 49 = .ok (.invokevirtual 111, 3) := by decide +kernel
theorem dX10_isWord_52 : decode cX10_isWord 52 = .ok (.if_icmp .eq 5, 3) := by decide +kernel
theorem dX10_isWord_55 : decode cX10_isWord 55 = .ok (.iconst 0, 1) := by decide +kernel
theorem dX10_isWord_56 : decode cX10_isWord 56 = .ok (.ireturn, 1) := by decide +kernel
theorem dX10_isWord_57 : decode cX10_isWord 57 = .ok (.iinc 2 1, 3) := by decide +kernel
theorem dX10_isWord_60 : decode cX10_isWord 60 = .ok (.goto (-32), 3) := by decide +kernel
theorem dX10_isWord_63 : decode cX10_isWord 63 = .ok (.iconst 1, 1) := by decide +kernel
theorem dX10_isWord_64 : decode cX10_isWord 64 = .ok (.ireturn, 1) := by decide +kernel
theorem dX10_numberHere_0 : decode cX10_numberHere 0 = .ok (.aload_n 0, 1) := by decide +kernel
theorem dX10_numberHere_1 : decode cX10_numberHere 1 = .ok (.iconst 3, 1) := by decide +kernel
theorem dX10_numberHere_2 : decode cX10_numberHere 2 = .ok (.invokevirtual 102, 3) := by decide +kernel
theorem dX10_numberHere_5 : decode cX10_numberHere 5 = .ok (.ifCond .ne 11, 3) := by decide +kernel
theorem dX10_numberHere_8 : decode cX10_numberHere 8 = .ok (.aload_n 0, 1) := by decide +kernel
theorem dX10_numberHere_9 : decode cX10_numberHere 9 = .ok (.iconst 1, 1) := by decide +kernel
theorem dX10_numberHere_10 : decode cX10_numberHere 10 = .ok (.invokevirtual 115, 3) := by decide +kernel
theorem dX10_numberHere_13 : decode cX10_numberHere 13 = .ok (.goto 20, 3) := by decide +kernel
theorem dX10_numberHere_16 : decode cX10_numberHere 16 = .ok (.aload_n 0, 1) := by decide +kernel
theorem dX10_numberHere_17 : decode cX10_numberHere 17 = .ok (.getfield 92, 3) := by decide +kernel
theorem dX10_numberHere_20 : decode cX10_numberHere 20 = .ok (.iload_n 1, 1) := by decide +kernel
theorem dX10_numberHere_21 : decode cX10_numberHere 21 = .ok (.iload_n 2, 1) := by decide +kernel
theorem dX10_numberHere_22 : decode cX10_numberHere 22 = .ok (.invokestatic 69, 3) := by decide +kernel
theorem dX10_numberHere_25 : decode cX10_numberHere 25 = .ok (.ifCond .ne 8, 3) := by decide +kernel
theorem dX10_numberHere_28 : decode cX10_numberHere 28 = .ok (.aload_n 0, 1) := by decide +kernel
theorem dX10_numberHere_29 : decode cX10_numberHere 29 = .ok (.iconst 2, 1) := by decide +kernel
theorem dX10_numberHere_30 : decode cX10_numberHere 30 = .ok (.invokevirtual 115, 3) := by decide +kernel
theorem dX10_numberHere_33 : decode cX10_numberHere 33 = .ok (.aload_n 0, 1) := by decide +kernel
theorem dX10_numberHere_34 : decode cX10_numberHere 34 = .ok (.getfield 73, 3) := by decide +kernel
theorem dX10_numberHere_37 : decode cX10_numberHere 37 = .ok (.ifCond .le 7, 3) := by decide +kernel
theorem dX10_numberHere_40 : decode cX10_numberHere 40 = .ok (.iload_n 1, 1) := by decide +kernel
theorem dX10_numberHere_41 : decode cX10_numberHere 41 = .ok (.goto 7, 3) := by decide +kernel
theorem dX10_numberHere_44 : decode cX10_numberHere 44 = .ok (.aload_n 0, 1) := by decide +kernel
theorem dX10_numberHere_45 : decode cX10_numberHere 45 = .ok (.getfield 92, 3) := by decide +kernel
theorem dX10_numberHere_48 : decode cX10_numberHere 48 = .ok (.ireturn, 1) := by decide +kernel
theorem dX10_number_0 : decode cX10_number 0 = .ok (.aload_n 0, 1) := by decide +kernel
theorem dX10_number_1 : decode cX10_number 1 = .ok (.iload_n 1, 1) := by decide +kernel
theorem dX10_number_2 : decode cX10_number 2 = .ok (.iload_n 2, 1) := by decide +kernel
theorem dX10_number_3 : decode cX10_number 3 = .ok (.invokevirtual 118, 3) := by decide +kernel
theorem dX10_number_6 : decode cX10_number 6 = .ok (.istore_n 3, 1) := by decide +kernel
theorem dX10_number_7 : decode cX10_number 7 = .ok (.aload_n 0, 1) := by decide +kernel
theorem dX10_number_8 : decode cX10_number 8 = .ok (.invokevirtual 122, 3) := by decide +kernel
theorem dX10_number_11 : decode cX10_number 11 = .ok (.iload_n 3, 1) := by decide +kernel
theorem dX10_number_12 : decode cX10_number 12 = .ok (.ireturn, 1) := by decide +kernel
theorem dX10_begins_0 : decode cX10_begins 0 = .ok (.aload_n 0, 1) := by decide +kernel
theorem dX10_begins_1 : decode cX10_begins 1 = .ok (.iload_n 1, 1) := by decide +kernel
theorem dX10_begins_2 : decode cX10_begins 2 = .ok (.putfield 66, 3) := by decide +kernel
theorem dX10_begins_5 : decode cX10_begins 5 = .ok (.aload_n 0, 1) := by decide +kernel
theorem dX10_begins_6 : decode cX10_begins 6 = .ok (.iconst 0, 1) := by decide +kernel
theorem dX10_begins_7 : decode cX10_begins 7 = .ok (.putfield 76, 3) := by decide +kernel
theorem dX10_begins_10 : decode cX10_begins 10 = .ok (.aload_n 0, 1) := by decide +kernel
theorem dX10_begins_11 : decode cX10_begins 11 = .ok (.iconst 0, 1) := by decide +kernel
theorem dX10_begins_12 : decode cX10_begins 12 = .ok (.putfield 73, 3) := by decide +kernel
theorem dX10_begins_15 : decode cX10_begins 15 = .ok (.aload_n 0, 1) := by decide +kernel
theorem dX10_begins_16 : decode cX10_begins 16 = .ok (.iconst (-1), 1) := by decide +kernel
theorem dX10_begins_17 : decode cX10_begins 17 = .ok (.putfield 99, 3) := by decide +kernel
theorem dX10_begins_20 : decode cX10_begins 20 = .ok (.return_, 1) := by decide +kernel
theorem dX10_valueOf_0 : decode cX10_valueOf 0 = .ok (.iload_n 0, 1) := by decide +kernel
theorem dX10_valueOf_1 : decode cX10_valueOf 1 = .ok (.bipush 97, 2) := by decide +kernel
theorem dX10_valueOf_3 : decode cX10_valueOf 3 = .ok (.isub, 1) := by decide +kernel
theorem dX10_valueOf_4 : decode cX10_valueOf 4 = .ok (.iconst 1, 1) := by decide +kernel
theorem dX10_valueOf_5 : decode cX10_valueOf 5 = .ok (.iadd, 1) := by decide +kernel
theorem dX10_valueOf_6 : decode cX10_valueOf 6 = .ok (.ireturn, 1) := by decide +kernel
theorem dX10_partOf_0 : decode cX10_partOf 0 = .ok (.iconst 0, 1) := by decide +kernel
theorem dX10_partOf_1 : decode cX10_partOf 1 = .ok (.istore 4, 2) := by decide +kernel
theorem dX10_partOf_3 : decode cX10_partOf 3 = .ok (.iconst 3, 1) := by decide +kernel
theorem dX10_partOf_4 : decode cX10_partOf 4 = .ok (.istore 5, 2) := by decide +kernel
theorem dX10_partOf_6 : decode cX10_partOf 6 = .ok (.iload 5, 2) := by decide +kernel
theorem dX10_partOf_8 : decode cX10_partOf 8 = .ok (.ifCond .lt 47, 3) := by decide +kernel
theorem dX10_partOf_11 : decode cX10_partOf 11 = .ok (.bipush 32, 2) := by decide +kernel
theorem dX10_partOf_13 : decode cX10_partOf 13 = .ok (.iload 4, 2) := by decide +kernel
theorem dX10_partOf_15 : decode cX10_partOf 15 = .ok (.imul, 1) := by decide +kernel
theorem dX10_partOf_16 : decode cX10_partOf 16 = .ok (.iconst 4, 1) := by decide +kernel
theorem dX10_partOf_17 : decode cX10_partOf 17 = .ok (.iload_n 3, 1) := by decide +kernel
theorem dX10_partOf_18 : decode cX10_partOf 18 = .ok (.imul, 1) := by decide +kernel
theorem dX10_partOf_19 : decode cX10_partOf 19 = .ok (.iload 5, 2) := by decide +kernel
theorem dX10_partOf_21 : decode cX10_partOf 21 = .ok (.iadd, 1) := by decide +kernel
theorem dX10_partOf_22 : decode cX10_partOf 22 = .ok (.iload_n 2, 1) := by decide +kernel
theorem dX10_partOf_23 : decode cX10_partOf 23 = .ok (.if_icmp .ge 22, 3) := by decide +kernel
theorem dX10_partOf_26 : decode cX10_partOf 26 = .ok (.aload_n 0, 1) := by decide +kernel
theorem dX10_partOf_27 : decode cX10_partOf 27 = .ok (.getfield 27, 3) := by decide +kernel
theorem dX10_partOf_30 : decode cX10_partOf 30 = .ok (.iload_n 1, 1) := by decide +kernel
theorem dX10_partOf_31 : decode cX10_partOf 31 = .ok (.iconst 4, 1) := by decide +kernel
theorem dX10_partOf_32 : decode cX10_partOf 32 = .ok (.iload_n 3, 1) := by decide +kernel
theorem dX10_partOf_33 : decode cX10_partOf 33 = .ok (.imul, 1) := by decide +kernel
theorem dX10_partOf_34 : decode cX10_partOf 34 = .ok (.iadd, 1) := by decide +kernel
theorem dX10_partOf_35 : decode cX10_partOf 35 = .ok (.iload 5, 2) := by decide +kernel
theorem dX10_partOf_37 : decode cX10_partOf 37 = .ok (.iadd, 1) := by decide +kernel
theorem dX10_partOf_38 : decode cX10_partOf 38 = .ok (.baload, 1) := by decide +kernel
theorem dX10_partOf_39 : decode cX10_partOf 39 = .ok (.invokestatic 125, 3) := by decide +kernel
theorem dX10_partOf_42 : decode cX10_partOf 42 = .ok (.goto 4, 3) := by decide +kernel
theorem dX10_partOf_45 : decode cX10_partOf 45 = .ok (.iconst 0, 1) := by decide +kernel
theorem dX10_partOf_46 : decode cX10_partOf 46 = .ok (.iadd, 1) := by decide +kernel
theorem dX10_partOf_47 : decode cX10_partOf 47 = .ok (.istore 4, 2) := by decide +kernel
theorem dX10_partOf_49 : decode cX10_partOf 49 = .ok (.iinc 5 (-1), 3) := by decide +kernel
theorem dX10_partOf_52 : decode cX10_partOf 52 = .ok (.goto (-46), 3) := by decide +kernel
theorem dX10_partOf_55 : decode cX10_partOf 55 = .ok (.iload 4, 2) := by decide +kernel
theorem dX10_partOf_57 : decode cX10_partOf 57 = .ok (.ireturn, 1) := by decide +kernel
theorem dX10_letterOf_0 : decode cX10_letterOf 0 = .ok (.iload_n 2, 1) := by decide +kernel
theorem dX10_letterOf_1 : decode cX10_letterOf 1 = .ok (.iconst 0, 1) := by decide +kernel
theorem dX10_letterOf_2 : decode cX10_letterOf 2 = .ok (.bipush 7, 2) := by decide +kernel
theorem dX10_letterOf_4 : decode cX10_letterOf 4 = .ok (.invokestatic 69, 3) := by decide +kernel
theorem dX10_letterOf_7 : decode cX10_letterOf 7 = .ok (.ifCond .ne 5, 3) := by decide +kernel
theorem dX10_letterOf_10 : decode cX10_letterOf 10 = .ok (.iconst (-1), 1) := by decide +kernel
theorem dX10_letterOf_11 : decode cX10_letterOf 11 = .ok (.ireturn, 1) := by decide +kernel
theorem dX10_letterOf_12 : decode cX10_letterOf 12 = .ok (.iload_n 2, 1) := by decide +kernel
theorem dX10_letterOf_13 : decode cX10_letterOf 13 = .ok (.iconst 4, 1) := by decide +kernel
theorem dX10_letterOf_14 : decode cX10_letterOf 14 = .ok (.if_icmp .ge 11, 3) := by decide +kernel
theorem dX10_letterOf_17 : decode cX10_letterOf 17 = .ok (.iload_n 0, 1) := by decide +kernel
theorem dX10_letterOf_18 : decode cX10_letterOf 18 = .ok (.iconst 5, 1) := by decide +kernel
theorem dX10_letterOf_19 : decode cX10_letterOf 19 = .ok (.iload_n 2, 1) := by decide +kernel
theorem dX10_letterOf_20 : decode cX10_letterOf 20 = .ok (.imul, 1) := by decide +kernel
theorem dX10_letterOf_21 : decode cX10_letterOf 21 = .ok (.ishr, 1) := by decide +kernel
theorem dX10_letterOf_22 : decode cX10_letterOf 22 = .ok (.goto 10, 3) := by decide +kernel
theorem dX10_letterOf_25 : decode cX10_letterOf 25 = .ok (.iload_n 1, 1) := by decide +kernel
theorem dX10_letterOf_26 : decode cX10_letterOf 26 = .ok (.iconst 5, 1) := by decide +kernel
theorem dX10_letterOf_27 : decode cX10_letterOf 27 = .ok (.iload_n 2, 1) := by decide +kernel
theorem dX10_letterOf_28 : decode cX10_letterOf 28 = .ok (.iconst 4, 1) := by decide +kernel
theorem dX10_letterOf_29 : decode cX10_letterOf 29 = .ok (.isub, 1) := by decide +kernel
theorem dX10_letterOf_30 : decode cX10_letterOf 30 = .ok (.imul, 1) := by decide +kernel
theorem dX10_letterOf_31 : decode cX10_letterOf 31 = .ok (.ishr, 1) := by decide +kernel
theorem dX10_letterOf_32 : decode cX10_letterOf 32 = .ok (.bipush 31, 2) := by decide +kernel
theorem dX10_letterOf_34 : decode cX10_letterOf 34 = .ok (.iand, 1) := by decide +kernel
theorem dX10_letterOf_35 : decode cX10_letterOf 35 = .ok (.istore_n 3, 1) := by decide +kernel
theorem dX10_letterOf_36 : decode cX10_letterOf 36 = .ok (.iload_n 3, 1) := by decide +kernel
theorem dX10_letterOf_37 : decode cX10_letterOf 37 = .ok (.ifCond .ne 7, 3) := by decide +kernel
theorem dX10_letterOf_40 : decode cX10_letterOf 40 = .ok (.iconst (-1), 1) := by decide +kernel
theorem dX10_letterOf_41 : decode cX10_letterOf 41 = .ok (.goto 9, 3) := by decide +kernel
theorem dX10_letterOf_44 : decode cX10_letterOf 44 = .ok (.bipush 97, 2) := by decide +kernel
theorem dX10_letterOf_46 : decode cX10_letterOf 46 = .ok (.iload_n 3, 1) := by decide +kernel
theorem dX10_letterOf_47 : decode cX10_letterOf 47 = .ok (.iadd, 1) := by decide +kernel
theorem dX10_letterOf_48 : decode cX10_letterOf 48 = .ok (.iconst 1, 1) := by decide +kernel
theorem dX10_letterOf_49 : decode cX10_letterOf 49 = .ok (.isub, 1) := by decide +kernel
theorem dX10_letterOf_50 : decode cX10_letterOf 50 = .ok (.ireturn, 1) := by decide +kernel
theorem dX10_lengthOf_0 : decode cX10_lengthOf 0 = .ok (.iconst 0, 1) := by decide +kernel
theorem dX10_lengthOf_1 : decode cX10_lengthOf 1 = .ok (.istore_n 2, 1) := by decide +kernel
theorem dX10_lengthOf_2 : decode cX10_lengthOf 2 = .ok (.iload_n 0, 1) := by decide +kernel
theorem dX10_lengthOf_3 : decode cX10_lengthOf 3 = .ok (.iload_n 1, 1) := by decide +kernel
theorem dX10_lengthOf_4 : decode cX10_lengthOf 4 = .ok (.iload_n 2, 1) := by decide +kernel
theorem dX10_lengthOf_5 : decode cX10_lengthOf 5 = .ok (.invokestatic 128, 3) := by decide +kernel
theorem dX10_lengthOf_8 : decode cX10_lengthOf 8 = .ok (.iconst (-1), 1) := by decide +kernel
theorem dX10_lengthOf_9 : decode cX10_lengthOf 9 = .ok (.if_icmp .eq 9, 3) := by decide +kernel
theorem dX10_lengthOf_12 : decode cX10_lengthOf 12 = .ok (.iinc 2 1, 3) := by decide +kernel
theorem dX10_lengthOf_15 : decode cX10_lengthOf 15 = .ok (.goto (-13), 3) := by decide +kernel
theorem dX10_lengthOf_18 : decode cX10_lengthOf 18 = .ok (.iload_n 2, 1) := by decide +kernel
theorem dX10_lengthOf_19 : decode cX10_lengthOf 19 = .ok (.ireturn, 1) := by decide +kernel
theorem dX10_ofAct_0 : decode cX10_ofAct 0 = .ok (.aload_n 0, 1) := by decide +kernel
theorem dX10_ofAct_1 : decode cX10_ofAct 1 = .ok (.getfield 9, 3) := by decide +kernel
theorem dX10_ofAct_4 : decode cX10_ofAct 4 = .ok (.bipush 9, 2) := by decide +kernel
theorem dX10_ofAct_6 : decode cX10_ofAct 6 = .ok (.bipush 9, 2) := by decide +kernel
theorem dX10_ofAct_8 : decode cX10_ofAct 8 = .ok (.iload_n 1, 1) := by decide +kernel
theorem dX10_ofAct_9 : decode cX10_ofAct 9 = .ok (.imul, 1) := by decide +kernel
theorem dX10_ofAct_10 : decode cX10_ofAct 10 = .ok (.iadd, 1) := by decide +kernel
theorem dX10_ofAct_11 : decode cX10_ofAct 11 = .ok (.iload_n 2, 1) := by decide +kernel
theorem dX10_ofAct_12 : decode cX10_ofAct 12 = .ok (.iadd, 1) := by decide +kernel
theorem dX10_ofAct_13 : decode cX10_ofAct 13 = .ok (.iaload, 1) := by decide +kernel
theorem dX10_ofAct_14 : decode cX10_ofAct 14 = .ok (.ireturn, 1) := by decide +kernel
theorem dX10_putsAct_0 : decode cX10_putsAct 0 = .ok (.aload_n 0, 1) := by decide +kernel
theorem dX10_putsAct_1 : decode cX10_putsAct 1 = .ok (.getfield 9, 3) := by decide +kernel
theorem dX10_putsAct_4 : decode cX10_putsAct 4 = .ok (.bipush 9, 2) := by decide +kernel
theorem dX10_putsAct_6 : decode cX10_putsAct 6 = .ok (.bipush 9, 2) := by decide +kernel
theorem dX10_putsAct_8 : decode cX10_putsAct 8 = .ok (.iload_n 1, 1) := by decide +kernel
theorem dX10_putsAct_9 : decode cX10_putsAct 9 = .ok (.imul, 1) := by decide +kernel
theorem dX10_putsAct_10 : decode cX10_putsAct 10 = .ok (.iadd, 1) := by decide +kernel
theorem dX10_putsAct_11 : decode cX10_putsAct 11 = .ok (.iload_n 2, 1) := by decide +kernel
theorem dX10_putsAct_12 : decode cX10_putsAct 12 = .ok (.iadd, 1) := by decide +kernel
theorem dX10_putsAct_13 : decode cX10_putsAct 13 = .ok (.iload_n 3, 1) := by decide +kernel
theorem dX10_putsAct_14 : decode cX10_putsAct 14 = .ok (.iastore, 1) := by decide +kernel
theorem dX10_putsAct_15 : decode cX10_putsAct 15 = .ok (.return_, 1) := by decide +kernel
theorem dX10_opensClause_0 : decode cX10_opensClause 0 = .ok (.aload_n 0, 1) := by decide +kernel
theorem dX10_opensClause_1 : decode cX10_opensClause 1 = .ok (.getfield 132, 3) := by decide +kernel
theorem dX10_opensClause_4 : decode cX10_opensClause 4 = .ok (.iconst 4, 1) := by decide +kernel
theorem dX10_opensClause_5 : decode cX10_opensClause 5 = .ok (.if_icmp .ne 8, 3) := by decide +kernel
theorem dX10_opensClause_8 : decode cX10_opensClause 8 = .ok (.aload_n 0, 1) := by decide +kernel
theorem dX10_opensClause_9 : decode cX10_opensClause 9 = .ok (.iconst 4, 1) := by decide +kernel
theorem dX10_opensClause_10 : decode cX10_opensClause 10 = .ok (.invokevirtual 115, 3) := by decide +kernel
theorem dX10_opensClause_13 : decode cX10_opensClause 13 = .ok (.aload_n 0, 1) := by decide +kernel
theorem dX10_opensClause_14 : decode cX10_opensClause 14 = .ok (.getfield 73, 3) := by decide +kernel
theorem dX10_opensClause_17 : decode cX10_opensClause 17 = .ok (.ifCond .le 4, 3) := by decide +kernel
theorem dX10_opensClause_20 : decode cX10_opensClause 20 = .ok (.return_, 1) := by decide +kernel
theorem dX10_opensClause_21 : decode cX10_opensClause 21 = .ok (.sipush 3247, 3) := by decide +kernel
theorem dX10_opensClause_24 : decode cX10_opensClause 24 = .ok (.iconst 3, 1) := by decide +kernel
theorem dX10_opensClause_25 : decode cX10_opensClause 25 = .ok (.aload_n 0, 1) := by decide +kernel
theorem dX10_opensClause_26 : decode cX10_opensClause 26 = .ok (.getfield 9, 3) := by decide +kernel
theorem dX10_opensClause_29 : decode cX10_opensClause 29 = .ok (.iconst 5, 1) := by decide +kernel
theorem dX10_opensClause_30 : decode cX10_opensClause 30 = .ok (.iaload, 1) := by decide +kernel
theorem dX10_opensClause_31 : decode cX10_opensClause 31 = .ok (.imul, 1) := by decide +kernel
theorem dX10_opensClause_32 : decode cX10_opensClause 32 = .ok (.iadd, 1) := by decide +kernel
theorem dX10_opensClause_33 : decode cX10_opensClause 33 = .ok (.istore_n 2, 1) := by decide +kernel
theorem dX10_opensClause_34 : decode cX10_opensClause 34 = .ok (.aload_n 0, 1) := by decide +kernel
theorem dX10_opensClause_35 : decode cX10_opensClause 35 = .ok (.getfield 9, 3) := by decide +kernel
theorem dX10_opensClause_38 : decode cX10_opensClause 38 = .ok (.iload_n 2, 1) := by decide +kernel
theorem dX10_opensClause_39 : decode cX10_opensClause 39 = .ok (.iconst 0, 1) := by decide +kernel
theorem dX10_opensClause_40 : decode cX10_opensClause 40 = .ok (.iadd, 1) := by decide +kernel
theorem dX10_opensClause_41 : decode cX10_opensClause 41 = .ok (.aload_n 0, 1) := by decide +kernel
theorem dX10_opensClause_42 : decode cX10_opensClause 42 = .ok (.getfield 9, 3) := by decide +kernel
theorem dX10_opensClause_45 : decode cX10_opensClause 45 = .ok (.iconst 4, 1) := by decide +kernel
theorem dX10_opensClause_46 : decode cX10_opensClause 46 = .ok (.iaload, 1) := by decide +kernel
theorem dX10_opensClause_47 : decode cX10_opensClause 47 = .ok (.iastore, 1) := by decide +kernel
theorem dX10_opensClause_48 : decode cX10_opensClause 48 = .ok (.aload_n 0, 1) := by decide +kernel
theorem dX10_opensClause_49 : decode cX10_opensClause 49 = .ok (.getfield 9, 3) := by decide +kernel
theorem dX10_opensClause_52 : decode cX10_opensClause 52 = .ok (.iload_n 2, 1) := by decide +kernel
theorem dX10_opensClause_53 : decode cX10_opensClause 53 = .ok (.iconst 1, 1) := by decide +kernel
theorem dX10_opensClause_54 : decode cX10_opensClause 54 = .ok (.iadd, 1) := by decide +kernel
theorem dX10_opensClause_55 : decode cX10_opensClause 55 = .ok (.iconst (-1), 1) := by decide +kernel
theorem dX10_opensClause_56 : decode cX10_opensClause 56 = .ok (.iastore, 1) := by decide +kernel
theorem dX10_opensClause_57 : decode cX10_opensClause 57 = .ok (.aload_n 0, 1) := by decide +kernel
theorem dX10_opensClause_58 : decode cX10_opensClause 58 = .ok (.getfield 9, 3) := by decide +kernel
theorem dX10_opensClause_61 : decode cX10_opensClause 61 = .ok (.iload_n 2, 1) := by decide +kernel
theorem dX10_opensClause_62 : decode cX10_opensClause 62 = .ok (.iconst 2, 1) := by decide +kernel
theorem dX10_opensClause_63 : decode cX10_opensClause 63 = .ok (.iadd, 1) := by decide +kernel
theorem dX10_opensClause_64 : decode cX10_opensClause 64 = .ok (.aload_n 0, 1) := by decide +kernel
theorem dX10_opensClause_65 : decode cX10_opensClause 65 = .ok (.getfield 135, 3) := by decide +kernel
theorem dX10_opensClause_68 : decode cX10_opensClause 68 = .ok (.iastore, 1) := by decide +kernel
theorem dX10_opensClause_69 : decode cX10_opensClause 69 = .ok (.aload_n 0, 1) := by decide +kernel
theorem dX10_opensClause_70 : decode cX10_opensClause 70 = .ok (.getfield 9, 3) := by decide +kernel
theorem dX10_opensClause_73 : decode cX10_opensClause 73 = .ok (.iconst 5, 1) := by decide +kernel
theorem dX10_opensClause_74 : decode cX10_opensClause 74 = .ok (.dup2, 1) := by decide +kernel
theorem dX10_opensClause_75 : decode cX10_opensClause 75 = .ok (.iaload, 1) := by decide +kernel
theorem dX10_opensClause_76 : decode cX10_opensClause 76 = .ok (.iconst 1, 1) := by decide +kernel
theorem dX10_opensClause_77 : decode cX10_opensClause 77 = .ok (.iadd, 1) := by decide +kernel
theorem dX10_opensClause_78 : decode cX10_opensClause 78 = .ok (.iastore, 1) := by decide +kernel
theorem dX10_opensClause_79 : decode cX10_opensClause 79 = .ok (.aload_n 0, 1) := by decide +kernel
theorem dX10_opensClause_80 : decode cX10_opensClause 80 = .ok (.iload_n 1, 1) := by decide +kernel
theorem dX10_opensClause_81 : decode cX10_opensClause 81 = .ok (.bipush 8, 2) := by decide +kernel
theorem dX10_opensClause_83 : decode cX10_opensClause 83 = .ok (.aload_n 0, 1) := by decide +kernel
theorem dX10_opensClause_84 : decode cX10_opensClause 84 = .ok (.iload_n 1, 1) := by decide +kernel
theorem dX10_opensClause_85 : decode cX10_opensClause 85 = .ok (.bipush 8, 2) := by decide +kernel
theorem dX10_opensClause_87 : decode cX10_opensClause 87 = .ok (.invokevirtual 138, 3) := by decide +kernel
theorem dX10_opensClause_90 : decode cX10_opensClause 90 = .ok (.iconst 1, 1) := by decide +kernel
theorem dX10_opensClause_91 : decode cX10_opensClause 91 = .ok (.iadd, 1) := by decide +kernel
theorem dX10_opensClause_92 : decode cX10_opensClause 92 = .ok (.invokevirtual 141, 3) := by decide +kernel
theorem dX10_opensClause_95 : decode cX10_opensClause 95 = .ok (.aload_n 0, 1) := by decide +kernel
theorem dX10_opensClause_96 : decode cX10_opensClause 96 = .ok (.aload_n 0, 1) := by decide +kernel
theorem dX10_opensClause_97 : decode cX10_opensClause 97 = .ok (.getfield 9, 3) := by decide +kernel
theorem dX10_opensClause_100 : decode cX10_opensClause 100 = .ok (.iconst 5, 1) := by decide +kernel
theorem dX10_opensClause_101 : decode cX10_opensClause 101 = .ok (.iaload, 1) := by decide +kernel
theorem dX10_opensClause_102 : decode cX10_opensClause 102 = .ok (.putfield 135, 3) := by decide +kernel
theorem dX10_opensClause_105 : decode cX10_opensClause 105 = .ok (.aload_n 0, 1) := by decide +kernel
theorem dX10_opensClause_106 : decode cX10_opensClause 106 = .ok (.dup, 1) := by decide +kernel
theorem dX10_opensClause_107 : decode cX10_opensClause 107 = .ok (.getfield 132, 3) := by decide +kernel
theorem dX10_opensClause_110 : decode cX10_opensClause 110 = .ok (.iconst 1, 1) := by decide +kernel
theorem dX10_opensClause_111 : decode cX10_opensClause 111 = .ok (.iadd, 1) := by decide +kernel
theorem dX10_opensClause_112 : decode cX10_opensClause 112 = .ok (.putfield 132, 3) := by decide +kernel
theorem dX10_opensClause_115 : decode cX10_opensClause 115 = .ok (.return_, 1) := by decide +kernel
theorem dX10_ofClause_0 : decode cX10_ofClause 0 = .ok (.aload_n 0, 1) := by decide +kernel
theorem dX10_ofClause_1 : decode cX10_ofClause 1 = .ok (.getfield 9, 3) := by decide +kernel
theorem dX10_ofClause_4 : decode cX10_ofClause 4 = .ok (.sipush 3247, 3) := by decide +kernel
theorem dX10_ofClause_7 : decode cX10_ofClause 7 = .ok (.iconst 3, 1) := by decide +kernel
theorem dX10_ofClause_8 : decode cX10_ofClause 8 = .ok (.iload_n 1, 1) := by decide +kernel
theorem dX10_ofClause_9 : decode cX10_ofClause 9 = .ok (.imul, 1) := by decide +kernel
theorem dX10_ofClause_10 : decode cX10_ofClause 10 = .ok (.iadd, 1) := by decide +kernel
theorem dX10_ofClause_11 : decode cX10_ofClause 11 = .ok (.iload_n 2, 1) := by decide +kernel
theorem dX10_ofClause_12 : decode cX10_ofClause 12 = .ok (.iadd, 1) := by decide +kernel
theorem dX10_ofClause_13 : decode cX10_ofClause 13 = .ok (.iaload, 1) := by decide +kernel
theorem dX10_ofClause_14 : decode cX10_ofClause 14 = .ok (.ireturn, 1) := by decide +kernel
theorem dX10_closesClause_0 : decode cX10_closesClause 0 = .ok (.aload_n 0, 1) := by decide +kernel
theorem dX10_closesClause_1 : decode cX10_closesClause 1 = .ok (.getfield 135, 3) := by decide +kernel
theorem dX10_closesClause_4 : decode cX10_closesClause 4 = .ok (.iconst 1, 1) := by decide +kernel
theorem dX10_closesClause_5 : decode cX10_closesClause 5 = .ok (.isub, 1) := by decide +kernel
theorem dX10_closesClause_6 : decode cX10_closesClause 6 = .ok (.istore_n 1, 1) := by decide +kernel
theorem dX10_closesClause_7 : decode cX10_closesClause 7 = .ok (.aload_n 0, 1) := by decide +kernel
theorem dX10_closesClause_8 : decode cX10_closesClause 8 = .ok (.getfield 132, 3) := by decide +kernel
theorem dX10_closesClause_11 : decode cX10_closesClause 11 = .ok (.ifCond .eq 18, 3) := by decide +kernel
theorem dX10_closesClause_14 : decode cX10_closesClause 14 = .ok (.aload_n 0, 1) := by decide +kernel
theorem dX10_closesClause_15 : decode cX10_closesClause 15 = .ok (.iload_n 1, 1) := by decide +kernel
theorem dX10_closesClause_16 : decode cX10_closesClause 16 = .ok (.iconst 0, 1) := by decide +kernel
theorem dX10_closesClause_17 : decode cX10_closesClause 17 = .ok (.invokevirtual 145, 3) := by decide +kernel
theorem dX10_closesClause_20 : decode cX10_closesClause 20 = .ok (.aload_n 0, 1) := by decide +kernel
theorem dX10_closesClause_21 : decode cX10_closesClause 21 = .ok (.getfield 9, 3) := by decide +kernel
theorem dX10_closesClause_24 : decode cX10_closesClause 24 = .ok (.iconst 4, 1) := by decide +kernel
theorem dX10_closesClause_25 : decode cX10_closesClause 25 = .ok (.iaload, 1) := by decide +kernel
theorem dX10_closesClause_26 : decode cX10_closesClause 26 = .ok (.if_icmp .ne 8, 3) := by decide +kernel
theorem dX10_closesClause_29 : decode cX10_closesClause 29 = .ok (.aload_n 0, 1) := by decide +kernel
theorem dX10_closesClause_30 : decode cX10_closesClause 30 = .ok (.iconst 1, 1) := by decide +kernel
theorem dX10_closesClause_31 : decode cX10_closesClause 31 = .ok (.invokevirtual 115, 3) := by decide +kernel
theorem dX10_closesClause_34 : decode cX10_closesClause 34 = .ok (.aload_n 0, 1) := by decide +kernel
theorem dX10_closesClause_35 : decode cX10_closesClause 35 = .ok (.getfield 73, 3) := by decide +kernel
theorem dX10_closesClause_38 : decode cX10_closesClause 38 = .ok (.ifCond .le 4, 3) := by decide +kernel
theorem dX10_closesClause_41 : decode cX10_closesClause 41 = .ok (.return_, 1) := by decide +kernel
theorem dX10_closesClause_42 : decode cX10_closesClause 42 = .ok (.aload_n 0, 1) := by decide +kernel
theorem dX10_closesClause_43 : decode cX10_closesClause 43 = .ok (.getfield 9, 3) := by decide +kernel
theorem dX10_closesClause_46 : decode cX10_closesClause 46 = .ok (.sipush 3247, 3) := by decide +kernel
theorem dX10_closesClause_49 : decode cX10_closesClause 49 = .ok (.iconst 3, 1) := by decide +kernel
theorem dX10_closesClause_50 : decode cX10_closesClause 50 = .ok (.iload_n 1, 1) := by decide +kernel
theorem dX10_closesClause_51 : decode cX10_closesClause 51 = .ok (.imul, 1) := by decide +kernel
theorem dX10_closesClause_52 : decode cX10_closesClause 52 = .ok (.iadd, 1) := by decide +kernel
theorem dX10_closesClause_53 : decode cX10_closesClause 53 = .ok (.iconst 1, 1) := by decide +kernel
theorem dX10_closesClause_54 : decode cX10_closesClause 54 = .ok (.iadd, 1) := by decide +kernel
theorem dX10_closesClause_55 : decode cX10_closesClause 55 = .ok (.aload_n 0, 1) := by decide +kernel
theorem dX10_closesClause_56 : decode cX10_closesClause 56 = .ok (.getfield 9, 3) := by decide +kernel
theorem dX10_closesClause_59 : decode cX10_closesClause 59 = .ok (.iconst 4, 1) := by decide +kernel
theorem dX10_closesClause_60 : decode cX10_closesClause 60 = .ok (.iaload, 1) := by decide +kernel
theorem dX10_closesClause_61 : decode cX10_closesClause 61 = .ok (.iconst 1, 1) := by decide +kernel
theorem dX10_closesClause_62 : decode cX10_closesClause 62 = .ok (.isub, 1) := by decide +kernel
theorem dX10_closesClause_63 : decode cX10_closesClause 63 = .ok (.iastore, 1) := by decide +kernel
theorem dX10_closesClause_64 : decode cX10_closesClause 64 = .ok (.aload_n 0, 1) := by decide +kernel
theorem dX10_closesClause_65 : decode cX10_closesClause 65 = .ok (.aload_n 0, 1) := by decide +kernel
theorem dX10_closesClause_66 : decode cX10_closesClause 66 = .ok (.iload_n 1, 1) := by decide +kernel
theorem dX10_closesClause_67 : decode cX10_closesClause 67 = .ok (.iconst 2, 1) := by decide +kernel
theorem dX10_closesClause_68 : decode cX10_closesClause 68 = .ok (.invokevirtual 145, 3) := by decide +kernel
theorem dX10_closesClause_71 : decode cX10_closesClause 71 = .ok (.putfield 135, 3) := by decide +kernel
theorem dX10_closesClause_74 : decode cX10_closesClause 74 = .ok (.aload_n 0, 1) := by decide +kernel
theorem dX10_closesClause_75 : decode cX10_closesClause 75 = .ok (.dup, 1) := by decide +kernel
theorem dX10_closesClause_76 : decode cX10_closesClause 76 = .ok (.getfield 132, 3) := by decide +kernel
theorem dX10_closesClause_79 : decode cX10_closesClause 79 = .ok (.iconst 1, 1) := by decide +kernel
theorem dX10_closesClause_80 : decode cX10_closesClause 80 = .ok (.isub, 1) := by decide +kernel
theorem dX10_closesClause_81 : decode cX10_closesClause 81 = .ok (.putfield 132, 3) := by decide +kernel
theorem dX10_closesClause_84 : decode cX10_closesClause 84 = .ok (.return_, 1) := by decide +kernel
theorem dX10_leaves_0 : decode cX10_leaves 0 = .ok (.aload_n 0, 1) := by decide +kernel
theorem dX10_leaves_1 : decode cX10_leaves 1 = .ok (.getfield 9, 3) := by decide +kernel
theorem dX10_leaves_4 : decode cX10_leaves 4 = .ok (.iconst 4, 1) := by decide +kernel
theorem dX10_leaves_5 : decode cX10_leaves 5 = .ok (.iaload, 1) := by decide +kernel
theorem dX10_leaves_6 : decode cX10_leaves 6 = .ok (.aload_n 0, 1) := by decide +kernel
theorem dX10_leaves_7 : decode cX10_leaves 7 = .ok (.getfield 9, 3) := by decide +kernel
theorem dX10_leaves_10 : decode cX10_leaves 10 = .ok (.iconst 0, 1) := by decide +kernel
theorem dX10_leaves_11 : decode cX10_leaves 11 = .ok (.iaload, 1) := by decide +kernel
theorem dX10_leaves_12 : decode cX10_leaves 12 = .ok (.iadd, 1) := by decide +kernel
theorem dX10_leaves_13 : decode cX10_leaves 13 = .ok (.iconst 1, 1) := by decide +kernel
theorem dX10_leaves_14 : decode cX10_leaves 14 = .ok (.isub, 1) := by decide +kernel
theorem dX10_leaves_15 : decode cX10_leaves 15 = .ok (.aload_n 0, 1) := by decide +kernel
theorem dX10_leaves_16 : decode cX10_leaves 16 = .ok (.getfield 9, 3) := by decide +kernel
theorem dX10_leaves_19 : decode cX10_leaves 19 = .ok (.iconst 0, 1) := by decide +kernel
theorem dX10_leaves_20 : decode cX10_leaves 20 = .ok (.iaload, 1) := by decide +kernel
theorem dX10_leaves_21 : decode cX10_leaves 21 = .ok (.idiv, 1) := by decide +kernel
theorem dX10_leaves_22 : decode cX10_leaves 22 = .ok (.ireturn, 1) := by decide +kernel
theorem dX10_mateOf_0 : decode cX10_mateOf 0 = .ok (.iload_n 1, 1) := by decide +kernel
theorem dX10_mateOf_1 : decode cX10_mateOf 1 = .ok (.aload_n 0, 1) := by decide +kernel
theorem dX10_mateOf_2 : decode cX10_mateOf 2 = .ok (.getfield 9, 3) := by decide +kernel
theorem dX10_mateOf_5 : decode cX10_mateOf 5 = .ok (.iconst 2, 1) := by decide +kernel
theorem dX10_mateOf_6 : decode cX10_mateOf 6 = .ok (.iaload, 1) := by decide +kernel
theorem dX10_mateOf_7 : decode cX10_mateOf 7 = .ok (.idiv, 1) := by decide +kernel
theorem dX10_mateOf_8 : decode cX10_mateOf 8 = .ok (.aload_n 0, 1) := by decide +kernel
theorem dX10_mateOf_9 : decode cX10_mateOf 9 = .ok (.getfield 9, 3) := by decide +kernel
theorem dX10_mateOf_12 : decode cX10_mateOf 12 = .ok (.iconst 2, 1) := by decide +kernel
theorem dX10_mateOf_13 : decode cX10_mateOf 13 = .ok (.iaload, 1) := by decide +kernel
theorem dX10_mateOf_14 : decode cX10_mateOf 14 = .ok (.imul, 1) := by decide +kernel
theorem dX10_mateOf_15 : decode cX10_mateOf 15 = .ok (.aload_n 0, 1) := by decide +kernel
theorem dX10_mateOf_16 : decode cX10_mateOf 16 = .ok (.getfield 9, 3) := by decide +kernel
theorem dX10_mateOf_19 : decode cX10_mateOf 19 = .ok (.iconst 2, 1) := by decide +kernel
theorem dX10_mateOf_20 : decode cX10_mateOf 20 = .ok (.iaload, 1) := by decide +kernel
theorem dX10_mateOf_21 : decode cX10_mateOf 21 = .ok (.iadd, 1) := by decide +kernel
theorem dX10_mateOf_22 : decode cX10_mateOf 22 = .ok (.iconst 1, 1) := by decide +kernel
theorem dX10_mateOf_23 : decode cX10_mateOf 23 = .ok (.isub, 1) := by decide +kernel
theorem dX10_mateOf_24 : decode cX10_mateOf 24 = .ok (.iload_n 1, 1) := by decide +kernel
theorem dX10_mateOf_25 : decode cX10_mateOf 25 = .ok (.aload_n 0, 1) := by decide +kernel
theorem dX10_mateOf_26 : decode cX10_mateOf 26 = .ok (.getfield 9, 3) := by decide +kernel
theorem dX10_mateOf_29 : decode cX10_mateOf 29 = .ok (.iconst 2, 1) := by decide +kernel
theorem dX10_mateOf_30 : decode cX10_mateOf 30 = .ok (.iaload, 1) := by decide +kernel
theorem dX10_mateOf_31 : decode cX10_mateOf 31 = .ok (.irem, 1) := by decide +kernel
theorem dX10_mateOf_32 : decode cX10_mateOf 32 = .ok (.isub, 1) := by decide +kernel
theorem dX10_mateOf_33 : decode cX10_mateOf 33 = .ok (.istore_n 2, 1) := by decide +kernel
theorem dX10_mateOf_34 : decode cX10_mateOf 34 = .ok (.iload_n 2, 1) := by decide +kernel
theorem dX10_mateOf_35 : decode cX10_mateOf 35 = .ok (.iload_n 1, 1) := by decide +kernel
theorem dX10_mateOf_36 : decode cX10_mateOf 36 = .ok (.if_icmp .eq 11, 3) := by decide +kernel
theorem dX10_mateOf_39 : decode cX10_mateOf 39 = .ok (.iload_n 2, 1) := by decide +kernel
theorem dX10_mateOf_40 : decode cX10_mateOf 40 = .ok (.aload_n 0, 1) := by decide +kernel
theorem dX10_mateOf_41 : decode cX10_mateOf 41 = .ok (.invokevirtual 231, 3) := by decide +kernel
theorem dX10_mateOf_44 : decode cX10_mateOf 44 = .ok (.if_icmp .lt 7, 3) := by decide +kernel
theorem dX10_mateOf_47 : decode cX10_mateOf 47 = .ok (.iconst (-1), 1) := by decide +kernel
theorem dX10_mateOf_48 : decode cX10_mateOf 48 = .ok (.goto 4, 3) := by decide +kernel
theorem dX10_mateOf_51 : decode cX10_mateOf 51 = .ok (.iload_n 2, 1) := by decide +kernel
theorem dX10_mateOf_52 : decode cX10_mateOf 52 = .ok (.ireturn, 1) := by decide +kernel
set_option maxRecDepth 100000 in
set_option maxHeartbeats 4000000 in
theorem cX10_initc {l : Launch} {v0 : Option Nat} {σ : HpT} {o : Except Nat (Unit)} {σ' : HpT} {a b : Nat} (h : fX10_init v0 σ = some (o, σ', a, b)) : IsK σ v0 10 ∧ Ct l yX10_init cX10_init 1 none 1 21 [va_rf v0] σ (oU o) σ' a b := by
  unfold fX10_init at h
  replace h := bnP_s h
  obtain ⟨u, hk, h⟩ := h
  replace hk := isK_s hk
  refine ⟨hk, ?_⟩
  refine ct_start mi_X10_init.1 rfl (al_le (al_1 (rf_cat _) al_n) (Nat.le_of_ble_eq_true rfl)) (ag_1 (rf_cat _) ag_n) (fun Δ Γ B hE hnm => ?_)
  have hka : 0 + a = a := Nat.zero_add a
  have hkb : 0 + b = b := Nat.zero_add b
  have hla : a ≤ a := Nat.le_refl a
  have hlb : b ≤ b := Nat.le_refl b
  refine g_aload_n B 0 dX10_init_0 rfl rfl ?_
  refine g_objInit9 B hk obj_RX10_1 (by decide) (Nat.le_of_ble_eq_true rfl) dX10_init_1 ?_
  refine g_aload_n B 0 dX10_init_4 rfl rfl ?_
  refine g_sipush (v := 6139) B dX10_init_5 (by decide) ?_
  replace h := bnA_s h
  rcases h with ⟨e9, h2, e8⟩ | ⟨x1, s3, a4, b5, a6, b7, h2, h, ea, eb⟩
  · exact absurd h2 (by simp [nwA, nwR]; try (split <;> simp))
  · subst ea; subst eb
    have hka := bk hka
    have hkb := bk hkb
    refine g_newarr B (Or.inl ⟨rfl, rfl⟩) na_int dX10_init_8 h2 (Nat.le_trans (bm hka) hla) (Nat.le_trans (bm hkb) hlb) ?_
    replace h := bnP_s h
    obtain ⟨s10, h9, h⟩ := h
    refine g_putRF B fl_RX10_9 (by decide) (Or.inr ⟨_, rfl⟩) hnm dX10_init_10 h9 ?_
    refine g_aload_n B 0 dX10_init_13 rfl rfl ?_
    refine g_sipush (v := 6139) B dX10_init_14 (by decide) ?_
    replace h := bnA_s h
    rcases h with ⟨e9, h12, e8⟩ | ⟨x11, s13, a14, b15, a16, b17, h12, h, ea, eb⟩
    · exact absurd h12 (by simp [nwA, nwR]; try (split <;> simp))
    · subst ea; subst eb
      have hka := bk hka
      have hkb := bk hkb
      refine g_newarr B (Or.inl ⟨rfl, rfl⟩) na_int dX10_init_17 h12 (Nat.le_trans (bm hka) hla) (Nat.le_trans (bm hkb) hlb) ?_
      replace h := bnP_s h
      obtain ⟨s20, h19, h⟩ := h
      refine g_putRF B fl_RX10_13 (by decide) (Or.inr ⟨_, rfl⟩) hnm dX10_init_19 h19 ?_
      refine g_aload_n B 0 dX10_init_22 rfl rfl ?_
      refine g_ldc B cs_RX10_16 dX10_init_23 ?_
      replace h := bnA_s h
      rcases h with ⟨e9, h22, e8⟩ | ⟨x21, s23, a24, b25, a26, b27, h22, h, ea, eb⟩
      · exact absurd h22 (by simp [nwA, nwR]; try (split <;> simp))
      · subst ea; subst eb
        have hka := bk hka
        have hkb := bk hkb
        refine g_newarr B (Or.inl ⟨rfl, rfl⟩) na_int dX10_init_25 h22 (Nat.le_trans (bm hka) hla) (Nat.le_trans (bm hkb) hlb) ?_
        replace h := bnP_s h
        obtain ⟨s30, h29, h⟩ := h
        refine g_putRF B fl_RX10_17 (by decide) (Or.inr ⟨_, rfl⟩) hnm dX10_init_27 h29 ?_
        refine g_aload_n B 0 dX10_init_30 rfl rfl ?_
        refine g_sipush (v := 12278) B dX10_init_31 (by decide) ?_
        replace h := bnA_s h
        rcases h with ⟨e9, h32, e8⟩ | ⟨x31, s33, a34, b35, a36, b37, h32, h, ea, eb⟩
        · exact absurd h32 (by simp [nwA, nwR]; try (split <;> simp))
        · subst ea; subst eb
          have hka := bk hka
          have hkb := bk hkb
          refine g_newarr B (Or.inl ⟨rfl, rfl⟩) na_int dX10_init_34 h32 (Nat.le_trans (bm hka) hla) (Nat.le_trans (bm hkb) hlb) ?_
          replace h := bnP_s h
          obtain ⟨s40, h39, h⟩ := h
          refine g_putRF B fl_RX10_20 (by decide) (Or.inr ⟨_, rfl⟩) hnm dX10_init_36 h39 ?_
          refine g_aload_n B 0 dX10_init_39 rfl rfl ?_
          refine g_iconst (v := 2) B dX10_init_40 (by decide) ?_
          replace h := bnA_s h
          rcases h with ⟨e9, h42, e8⟩ | ⟨x41, s43, a44, b45, a46, b47, h42, h, ea, eb⟩
          · exact absurd h42 (by simp [nwA, nwR]; try (split <;> simp))
          · subst ea; subst eb
            have hka := bk hka
            have hkb := bk hkb
            refine g_newarr B (Or.inr (Or.inr (Or.inr (Or.inl ⟨rfl, rfl⟩)))) na_boolean dX10_init_41 h42 (Nat.le_trans (bm hka) hla) (Nat.le_trans (bm hkb) hlb) ?_
            replace h := bnP_s h
            obtain ⟨s50, h49, h⟩ := h
            refine g_putRF B fl_RX10_23 (by decide) (Or.inr ⟨_, rfl⟩) hnm dX10_init_43 h49 ?_
            refine g_aload_n B 0 dX10_init_46 rfl rfl ?_
            refine g_sipush (v := 600) B dX10_init_47 (by decide) ?_
            replace h := bnA_s h
            rcases h with ⟨e9, h52, e8⟩ | ⟨x51, s53, a54, b55, a56, b57, h52, h, ea, eb⟩
            · exact absurd h52 (by simp [nwA, nwR]; try (split <;> simp))
            · subst ea; subst eb
              have hka := bk hka
              have hkb := bk hkb
              refine g_newarr B (Or.inr (Or.inr (Or.inl ⟨rfl, rfl⟩))) na_byte dX10_init_50 h52 (Nat.le_trans (bm hka) hla) (Nat.le_trans (bm hkb) hlb) ?_
              replace h := bnP_s h
              obtain ⟨s60, h59, h⟩ := h
              refine g_putRF B fl_RX10_27 (by decide) (Or.inr ⟨_, rfl⟩) hnm dX10_init_52 h59 ?_
              refine g_aload_n B 0 dX10_init_55 rfl rfl ?_
              refine g_iconst (v := (-1)) B dX10_init_56 (by decide) ?_
              replace h := bnP_s h
              obtain ⟨s63, h62, h⟩ := h
              refine g_putI B fl_RX10_31 (by decide) dX10_init_57 h62 ?_
              refine g_aload_n B 0 dX10_init_60 rfl rfl ?_
              refine g_bipush (v := 12) B dX10_init_61 (by decide) ?_
              replace h := bnA_s h
              rcases h with ⟨e9, h65, e8⟩ | ⟨x64, s66, a67, b68, a69, b70, h65, h, ea, eb⟩
              · exact absurd h65 (by simp [nwA, nwR]; try (split <;> simp))
              · subst ea; subst eb
                have hka := bk hka
                have hkb := bk hkb
                refine g_newarr B (Or.inr (Or.inr (Or.inr (Or.inl ⟨rfl, rfl⟩)))) na_boolean dX10_init_63 h65 (Nat.le_trans (bm hka) hla) (Nat.le_trans (bm hkb) hlb) ?_
                replace h := bnP_s h
                obtain ⟨s73, h72, h⟩ := h
                refine g_putRF B fl_RX10_35 (by decide) (Or.inr ⟨_, rfl⟩) hnm dX10_init_65 h72 ?_
                refine g_aload_n B 0 dX10_init_68 rfl rfl ?_
                refine g_sipush (v := 20000) B dX10_init_69 (by decide) ?_
                replace h := bnA_s h
                rcases h with ⟨e9, h75, e8⟩ | ⟨x74, s76, a77, b78, a79, b80, h75, h, ea, eb⟩
                · exact absurd h75 (by simp [nwA, nwR]; try (split <;> simp))
                · subst ea; subst eb
                  have hka := bk hka
                  have hkb := bk hkb
                  refine g_newarr B (Or.inr (Or.inr (Or.inl ⟨rfl, rfl⟩))) na_byte dX10_init_72 h75 (Nat.le_trans (bm hka) hla) (Nat.le_trans (bm hkb) hlb) ?_
                  replace h := bnP_s h
                  obtain ⟨s83, h82, h⟩ := h
                  refine g_putRF B fl_RX10_38 (by decide) (Or.inr ⟨_, rfl⟩) hnm dX10_init_74 h82 ?_
                  obtain ⟨w1, w2, w3, w4⟩ := inA h
                  clear h
                  subst w1
                  subst w2
                  subst w3
                  subst w4
                  exact g_vret B hE (Nat.le_trans (Nat.le_of_eq hka) hla) (Nat.le_trans (Nat.le_of_eq hkb) hlb) dX10_init_77
set_option maxRecDepth 100000 in
set_option maxHeartbeats 4000000 in
theorem cX10_thrownc {l : Launch} {v0 : Option Nat} {σ : HpT} {r : Int32} (h : fX10_thrown v0 σ = some r) : IsK σ v0 10 ∧ Ct l yX10_thrown cX10_thrown 1 (some .int) 0 0 [va_rf v0] σ (.ok (some (.int r))) σ 0 0 := by
  unfold fX10_thrown at h
  replace h := bnP_s h
  obtain ⟨u, hk, h⟩ := h
  replace hk := isK_s hk
  refine ⟨hk, ?_⟩
  refine ct_start mi_X10_thrown.1 rfl (al_le (al_1 (rf_cat _) al_n) (Nat.le_of_ble_eq_true rfl)) (ag_1 (rf_cat _) ag_n) (fun Δ Γ B hE hnm => ?_)
  refine g_aload_n B 0 dX10_thrown_0 rfl rfl ?_
  replace h := bnP_s h
  obtain ⟨x1, h2, h⟩ := h
  refine g_getI B fl_RX10_41 (by decide) dX10_thrown_1 h2 ?_
  replace h := Option.some.inj h
  subst h
  exact g_iret B hE (Nat.zero_le _) (Nat.zero_le _) dX10_thrown_4
set_option maxRecDepth 100000 in
set_option maxHeartbeats 4000000 in
theorem cX10_inc {l : Launch} {v0 : Int32} {v1 : Int32} {v2 : Int32} {σ : HpT} {r : Bool} (h : fX10_in v0 v1 v2 σ = some r) : Ct l yX10_in cX10_in 3 (some .boolean) 0 0 [.int v0, .int v1, .int v2] σ (.ok (some (.int (bI r)))) σ 0 0 := by
  unfold fX10_in at h
  refine ct_start mi_X10_in.1 rfl (al_le (al_1 rfl (al_1 rfl (al_1 rfl al_n))) (Nat.le_of_ble_eq_true rfl)) (ag_1 rfl (ag_1 rfl (ag_1 rfl ag_n))) (fun Δ Γ B hE hnm => ?_)
  refine g_iload_n B 1 dX10_in_0 rfl rfl ?_
  refine g_iload_n B 0 dX10_in_1 rfl rfl ?_
  refine g_icmp_gt B 14 dX10_in_2 (by decide) (fun hc => ?_) (fun hc => ?_)
  · replace h := ifp hc h
    refine g_iconst (v := 0) B dX10_in_14 (by decide) ?_
    replace h := Option.some.inj h
    subst h
    exact g_zret B hE rfl (Nat.zero_le _) (Nat.zero_le _) dX10_in_15
  · replace h := ifn hc h
    refine g_iload_n B 0 dX10_in_5 rfl rfl ?_
    refine g_iload_n B 2 dX10_in_6 rfl rfl ?_
    refine g_icmp_gt B 14 dX10_in_7 (by decide) (fun hc => ?_) (fun hc => ?_)
    · replace h := ifp hc h
      refine g_iconst (v := 0) B dX10_in_14 (by decide) ?_
      replace h := Option.some.inj h
      subst h
      exact g_zret B hE rfl (Nat.zero_le _) (Nat.zero_le _) dX10_in_15
    · replace h := ifn hc h
      refine g_iconst (v := 1) B dX10_in_10 (by decide) ?_
      refine g_goto B 15 dX10_in_11 (by decide) ?_
      replace h := Option.some.inj h
      subst h
      exact g_zret B hE rfl (Nat.zero_le _) (Nat.zero_le _) dX10_in_15
set_option maxRecDepth 100000 in
set_option maxHeartbeats 4000000 in
theorem cX10_onec {l : Launch} {v0 : Int32} {σ : HpT} {r : Int32} (h : fX10_one v0 σ = some r) : Ct l yX10_one cX10_one 1 (some .int) 0 0 [.int v0] σ (.ok (some (.int r))) σ 0 0 := by
  unfold fX10_one at h
  refine ct_start mi_X10_one.1 rfl (al_le (al_1 rfl al_n) (Nat.le_of_ble_eq_true rfl)) (ag_1 rfl ag_n) (fun Δ Γ B hE hnm => ?_)
  refine g_iload_n B 0 dX10_one_0 rfl rfl ?_
  refine g_if_eq B 8 dX10_one_1 (by decide) (fun hc => ?_) (fun hc => ?_)
  · replace h := ifp hc h
    refine g_iconst (v := 0) B dX10_one_8 (by decide) ?_
    replace h := Option.some.inj h
    subst h
    exact g_iret B hE (Nat.zero_le _) (Nat.zero_le _) dX10_one_9
  · replace h := ifn hc h
    refine g_iconst (v := 1) B dX10_one_4 (by decide) ?_
    refine g_goto B 9 dX10_one_5 (by decide) ?_
    replace h := Option.some.inj h
    subst h
    exact g_iret B hE (Nat.zero_le _) (Nat.zero_le _) dX10_one_9
set_option maxRecDepth 100000 in
set_option maxHeartbeats 4000000 in
theorem cX10_mayc {l : Launch} {v0 : Option Nat} {v1 : Int32} {v2 : Int32} {v3 : Int32} {σ : HpT} {r : Bool} {σ' : HpT} (h : fX10_may v0 v1 v2 v3 σ = some (r, σ')) : IsK σ v0 10 ∧ Ct l yX10_may cX10_may 4 (some .boolean) 0 0 [va_rf v0, .int v1, .int v2, .int v3] σ (.ok (some (.int (bI r)))) σ' 0 0 := by
  unfold fX10_may at h
  replace h := bnP_s h
  obtain ⟨u, hk, h⟩ := h
  replace hk := isK_s hk
  refine ⟨hk, ?_⟩
  refine ct_start mi_X10_may.1 rfl (al_le (al_1 (rf_cat _) (al_1 rfl (al_1 rfl (al_1 rfl al_n)))) (Nat.le_of_ble_eq_true rfl)) (ag_1 (rf_cat _) (ag_1 rfl (ag_1 rfl (ag_1 rfl ag_n)))) (fun Δ Γ B hE hnm => ?_)
  refine g_aload_n B 0 dX10_may_0 rfl rfl ?_
  refine g_iload_n B 1 dX10_may_1 rfl rfl ?_
  replace h := bnP_s h
  obtain ⟨j1, h2, h⟩ := h
  have k4 : GW Δ Γ (0) (0) 26 [(0, va_rf v0)] [.int j1.2, va_rf j1.1] σ := by
    replace h := bnP_s h
    obtain ⟨s8, h7, h⟩ := h
    refine g_putI B fl_RX10_41 (by decide) dX10_may_26 h7 ?_
    refine g_aload_n B 0 dX10_may_29 rfl rfl ?_
    replace h := bnP_s h
    obtain ⟨x9, h10, h⟩ := h
    refine g_getI B fl_RX10_41 (by decide) dX10_may_30 h10 ?_
    refine g_if_ne B 40 dX10_may_33 (by decide) (fun hc => ?_) (fun hc => ?_)
    · replace h := ifn hc h
      refine g_iconst (v := 0) B dX10_may_40 (by decide) ?_
      obtain ⟨w1, w2⟩ := inS h
      clear h
      subst w1
      subst w2
      exact g_zret B hE rfl (Nat.zero_le _) (Nat.zero_le _) dX10_may_41
    · replace h := ifp hc h
      refine g_iconst (v := 1) B dX10_may_36 (by decide) ?_
      refine g_goto B 41 dX10_may_37 (by decide) ?_
      obtain ⟨w1, w2⟩ := inS h
      clear h
      subst w1
      subst w2
      exact g_zret B hE rfl (Nat.zero_le _) (Nat.zero_le _) dX10_may_41
  clear h
  have h := h2
  clear h2
  refine g_if_ne B 9 dX10_may_2 (by decide) (fun hc => ?_) (fun hc => ?_)
  · replace h := ifn hc h
    refine g_iload_n B 2 dX10_may_9 rfl rfl ?_
    refine g_if_ne B 17 dX10_may_10 (by decide) (fun hc => ?_) (fun hc => ?_)
    · replace h := ifn hc h
      refine g_iload_n B 3 dX10_may_17 rfl rfl ?_
      refine g_if_eq B 25 dX10_may_18 (by decide) (fun hc => ?_) (fun hc => ?_)
      · replace h := ifp hc h
        refine g_iconst (v := 3) B dX10_may_25 (by decide) ?_
        replace h := Option.some.inj h
        subst h
        exact g_sub [0] rfl k4
      · replace h := ifn hc h
        refine g_iconst (v := 0) B dX10_may_21 (by decide) ?_
        refine g_goto B 26 dX10_may_22 (by decide) ?_
        replace h := Option.some.inj h
        subst h
        exact g_sub [0] rfl k4
    · replace h := ifp hc h
      refine g_iconst (v := 2) B dX10_may_13 (by decide) ?_
      refine g_goto B 26 dX10_may_14 (by decide) ?_
      replace h := Option.some.inj h
      subst h
      exact g_sub [0] rfl k4
  · replace h := ifp hc h
    refine g_iconst (v := 1) B dX10_may_5 (by decide) ?_
    refine g_goto B 26 dX10_may_6 (by decide) ?_
    replace h := Option.some.inj h
    subst h
    exact g_sub [0] rfl k4
set_option maxRecDepth 100000 in
set_option maxHeartbeats 4000000 in
theorem cX10_mayTwoc {l : Launch} {v0 : Option Nat} {v1 : Int32} {v2 : Int32} {σ : HpT} {r : Bool} {σ' : HpT} (h : fX10_mayTwo v0 v1 v2 σ = some (r, σ')) : IsK σ v0 10 ∧ Ct l yX10_mayTwo cX10_mayTwo 3 (some .boolean) 1 23 [va_rf v0, .int v1, .int v2] σ (.ok (some (.int (bI r)))) σ' 0 0 := by
  unfold fX10_mayTwo at h
  replace h := bnP_s h
  obtain ⟨u, hk, h⟩ := h
  replace hk := isK_s hk
  refine ⟨hk, ?_⟩
  refine ct_start mi_X10_mayTwo.1 rfl (al_le (al_1 (rf_cat _) (al_1 rfl (al_1 rfl al_n))) (Nat.le_of_ble_eq_true rfl)) (ag_1 (rf_cat _) (ag_1 rfl (ag_1 rfl ag_n))) (fun Δ Γ B hE hnm => ?_)
  refine g_aload_n B 0 dX10_mayTwo_0 rfl rfl ?_
  refine g_iload_n B 1 dX10_mayTwo_1 rfl rfl ?_
  refine g_iload_n B 2 dX10_mayTwo_2 rfl rfl ?_
  refine g_iconst (v := 1) B dX10_mayTwo_3 (by decide) ?_
  replace h := bnS_s h
  obtain ⟨x1, s3, h2, h⟩ := h
  refine g_callVs0 (st := []) B (cX10_mayc h2) (Nat.le_of_ble_eq_true rfl) rfl rfl mi_X10_may lk_RX10_44 ⟨Nat.le_of_ble_eq_true rfl, Nat.le_of_ble_eq_true rfl⟩ rfl rfl (Nat.le_of_ble_eq_true rfl) dX10_mayTwo_4 (Nat.zero_le _) (Nat.zero_le _) ?_
  obtain ⟨w1, w2⟩ := inS h
  clear h
  subst w1
  subst w2
  exact g_zret B hE (nar_bI _) (Nat.zero_le _) (Nat.zero_le _) dX10_mayTwo_7
set_option maxRecDepth 100000 in
set_option maxHeartbeats 4000000 in
theorem cX10_mayLookc {l : Launch} {v0 : Option Nat} {σ : HpT} {r : Bool} {σ' : HpT} (h : fX10_mayLook v0 σ = some (r, σ')) : IsK σ v0 10 ∧ Ct l yX10_mayLook cX10_mayLook 1 (some .boolean) 1 23 [va_rf v0] σ (.ok (some (.int (bI r)))) σ' 0 0 := by
  unfold fX10_mayLook at h
  replace h := bnP_s h
  obtain ⟨u, hk, h⟩ := h
  replace hk := isK_s hk
  refine ⟨hk, ?_⟩
  refine ct_start mi_X10_mayLook.1 rfl (al_le (al_1 (rf_cat _) al_n) (Nat.le_of_ble_eq_true rfl)) (ag_1 (rf_cat _) ag_n) (fun Δ Γ B hE hnm => ?_)
  refine g_aload_n B 0 dX10_mayLook_0 rfl rfl ?_
  refine g_aload_n B 0 dX10_mayLook_1 rfl rfl ?_
  replace h := bnP_s h
  obtain ⟨x1, h2, h⟩ := h
  refine g_getI B fl_RX10_48 (by decide) dX10_mayLook_2 h2 ?_
  refine g_iconst (v := 1) B dX10_mayLook_5 (by decide) ?_
  refine g_iconst (v := 1) B dX10_mayLook_6 (by decide) ?_
  replace h := bnS_s h
  obtain ⟨x3, s5, h4, h⟩ := h
  refine g_callVs0 (st := []) B (cX10_mayc h4) (Nat.le_of_ble_eq_true rfl) rfl rfl mi_X10_may lk_RX10_44 ⟨Nat.le_of_ble_eq_true rfl, Nat.le_of_ble_eq_true rfl⟩ rfl rfl (Nat.le_of_ble_eq_true rfl) dX10_mayLook_7 (Nat.zero_le _) (Nat.zero_le _) ?_
  obtain ⟨w1, w2⟩ := inS h
  clear h
  subst w1
  subst w2
  exact g_zret B hE (nar_bI _) (Nat.zero_le _) (Nat.zero_le _) dX10_mayLook_10
set_option maxRecDepth 100000 in
set_option maxHeartbeats 4000000 in
theorem cX10_laysc {l : Launch} {v0 : Option Nat} {v1 : Int32} {v2 : Option Nat} {v3 : Int32} {σ : HpT} {σ' : HpT} (h : fX10_lays v0 v1 v2 v3 σ = some σ') : Ct l yX10_lays cX10_lays 5 none 0 0 [va_rf v0, .int v1, va_rf v2, .int v3] σ (.ok none) σ' 0 0 := by
  unfold fX10_lays at h
  refine ct_start mi_X10_lays.1 rfl (al_le (al_1 (rf_cat _) (al_1 rfl (al_1 (rf_cat _) (al_1 rfl al_n)))) (Nat.le_of_ble_eq_true rfl)) (ag_1 (rf_cat _) (ag_1 rfl (ag_1 (rf_cat _) (ag_1 rfl ag_n)))) (fun Δ Γ B hE hnm => ?_)
  refine g_iconst (v := 0) B dX10_lays_0 (by decide) ?_
  refine g_istore B dX10_lays_1 (Nat.le_of_ble_eq_true rfl) (s1_c (f1_k rfl (f1_k rfl (f1_k rfl (f1_1 rfl rfl f1_n))))) ?_
  replace h := bnS_s h
  obtain ⟨r2, s16, h3, h⟩ := h
  have kE4 : GW Δ Γ (0) (0) 29 [] [] s16 := by
    replace h := Option.some.inj h
    subst h
    exact g_vret B hE (Nat.zero_le _) (Nat.zero_le _) dX10_lays_29
  clear h
  refine g_sub [1, 2, 3, 4, 0] rfl ?_
  refine lpS_w (I := fun q1 s10 => GW Δ Γ (0) (0) 3 [(0, va_rf v0), (1, .int v1), (2, va_rf v2), (3, .int v3), (4, .int q1)] [] s10) (r := r2) (σr := s16) ?_ FUEL 0 σ h3
  intro q1 s10 x8 s9 h hI6 hR7
  unfold fX10_lays_l1 at h
  refine g_iload B 4 dX10_lays_3 rfl ?_
  refine g_sipush (v := 6139) B dX10_lays_5 (by decide) ?_
  refine g_icmp_ge B 29 dX10_lays_8 (by decide) (fun hc => ?_) (fun hc => ?_)
  · replace h := ifp hc h
    obtain ⟨w1, w2⟩ := inS h
    clear h
    subst w1
    subst w2
    obtain ⟨e8, e7⟩ := hR7 _ rfl
    subst e8
    subst e7
    exact g_sub [] rfl kE4
  · replace h := ifn hc h
    refine g_aload_n B 2 dX10_lays_11 rfl rfl ?_
    refine g_iload_n B 3 dX10_lays_12 rfl rfl ?_
    refine g_iload B 4 dX10_lays_13 rfl ?_
    refine g_iadd B dX10_lays_15 ?_
    refine g_aload_n B 0 dX10_lays_16 rfl rfl ?_
    refine g_iload_n B 1 dX10_lays_17 rfl rfl ?_
    refine g_iload B 4 dX10_lays_18 rfl ?_
    refine g_iadd B dX10_lays_20 ?_
    replace h := bnP_s h
    obtain ⟨x11, h12, h⟩ := h
    refine g_iald B dX10_lays_21 h12 ?_
    replace h := bnP_s h
    obtain ⟨s15, h14, h⟩ := h
    refine g_iast B dX10_lays_22 h14 ?_
    refine g_iinc (v := (q1 + 1)) B 4 dX10_lays_23 rfl (by first | rfl | (congr 1; decide)) (Nat.le_of_ble_eq_true rfl) (s1_c (f1_k rfl (f1_k rfl (f1_k rfl (f1_1 rfl rfl (f1_x f1_n)))))) ?_
    refine g_goto B 3 dX10_lays_26 (by decide) ?_
    obtain ⟨w1, w2⟩ := inS h
    clear h
    subst w1
    subst w2
    exact g_sub [1, 2, 3, 4, 0] rfl (hI6 _ rfl)
set_option maxRecDepth 100000 in
set_option maxHeartbeats 4000000 in
theorem cX10_thinksc {l : Launch} {v0 : Option Nat} {σ : HpT} {σ' : HpT} (h : fX10_thinks v0 σ = some σ') : IsK σ v0 10 ∧ Ct l yX10_thinks cX10_thinks 1 none 1 24 [va_rf v0] σ (.ok none) σ' 0 0 := by
  unfold fX10_thinks at h
  replace h := bnP_s h
  obtain ⟨u, hk, h⟩ := h
  replace hk := isK_s hk
  refine ⟨hk, ?_⟩
  refine ct_start mi_X10_thinks.1 rfl (al_le (al_1 (rf_cat _) al_n) (Nat.le_of_ble_eq_true rfl)) (ag_1 (rf_cat _) ag_n) (fun Δ Γ B hE hnm => ?_)
  refine g_aload_n B 0 dX10_thinks_0 rfl rfl ?_
  replace h := bnP_s h
  obtain ⟨x1, h2, h⟩ := h
  refine g_getR B fl_RX10_9 (by decide) dX10_thinks_1 h2 ?_
  refine g_iconst (v := 0) B dX10_thinks_4 (by decide) ?_
  refine g_aload_n B 0 dX10_thinks_5 rfl rfl ?_
  replace h := bnP_s h
  obtain ⟨x3, h4, h⟩ := h
  refine g_getR B fl_RX10_13 (by decide) dX10_thinks_6 h4 ?_
  refine g_iconst (v := 0) B dX10_thinks_9 (by decide) ?_
  replace h := bnP_s h
  obtain ⟨s7, h6, h⟩ := h
  refine g_callSv0 (st := []) B (cX10_laysc h6) mi_X10_lays lk_RX10_52 ⟨Nat.le_of_ble_eq_true rfl, Nat.le_of_ble_eq_true rfl⟩ rfl rfl (Nat.le_of_ble_eq_true rfl) dX10_thinks_10 (Nat.zero_le _) (Nat.zero_le _) ?_
  replace h := Option.some.inj h
  subst h
  exact g_vret B hE (Nat.zero_le _) (Nat.zero_le _) dX10_thinks_13
set_option maxRecDepth 100000 in
set_option maxHeartbeats 4000000 in
theorem cX10_backc {l : Launch} {v0 : Option Nat} {v1 : Int32} {σ : HpT} {r : Int32} {σ' : HpT} (h : fX10_back v0 v1 σ = some (r, σ')) : IsK σ v0 10 ∧ Ct l yX10_back cX10_back 2 (some .int) 1 24 [va_rf v0, .int v1] σ (.ok (some (.int r))) σ' 0 0 := by
  unfold fX10_back at h
  replace h := bnP_s h
  obtain ⟨u, hk, h⟩ := h
  replace hk := isK_s hk
  refine ⟨hk, ?_⟩
  refine ct_start mi_X10_back.1 rfl (al_le (al_1 (rf_cat _) (al_1 rfl al_n)) (Nat.le_of_ble_eq_true rfl)) (ag_1 (rf_cat _) (ag_1 rfl ag_n)) (fun Δ Γ B hE hnm => ?_)
  refine g_aload_n B 0 dX10_back_0 rfl rfl ?_
  replace h := bnP_s h
  obtain ⟨x1, h2, h⟩ := h
  refine g_getR B fl_RX10_13 (by decide) dX10_back_1 h2 ?_
  refine g_iconst (v := 0) B dX10_back_4 (by decide) ?_
  refine g_aload_n B 0 dX10_back_5 rfl rfl ?_
  replace h := bnP_s h
  obtain ⟨x3, h4, h⟩ := h
  refine g_getR B fl_RX10_9 (by decide) dX10_back_6 h4 ?_
  refine g_iconst (v := 0) B dX10_back_9 (by decide) ?_
  replace h := bnP_s h
  obtain ⟨s7, h6, h⟩ := h
  refine g_callSv0 (st := []) B (cX10_laysc h6) mi_X10_lays lk_RX10_52 ⟨Nat.le_of_ble_eq_true rfl, Nat.le_of_ble_eq_true rfl⟩ rfl rfl (Nat.le_of_ble_eq_true rfl) dX10_back_10 (Nat.zero_le _) (Nat.zero_le _) ?_
  refine g_iload_n B 1 dX10_back_13 rfl rfl ?_
  obtain ⟨w1, w2⟩ := inS h
  clear h
  subst w1
  subst w2
  exact g_iret B hE (Nat.zero_le _) (Nat.zero_le _) dX10_back_14
set_option maxRecDepth 100000 in
set_option maxHeartbeats 4000000 in
theorem cX10_fourc {l : Launch} {v0 : Option Nat} {v1 : Int32} {σ : HpT} {σ' : HpT} (h : fX10_four v0 v1 σ = some σ') : IsK σ v0 10 ∧ Ct l yX10_four cX10_four 3 none 0 0 [va_rf v0, .int v1] σ (.ok none) σ' 0 0 := by
  unfold fX10_four at h
  replace h := bnP_s h
  obtain ⟨u, hk, h⟩ := h
  replace hk := isK_s hk
  refine ⟨hk, ?_⟩
  refine ct_start mi_X10_four.1 rfl (al_le (al_1 (rf_cat _) (al_1 rfl al_n)) (Nat.le_of_ble_eq_true rfl)) (ag_1 (rf_cat _) (ag_1 rfl ag_n)) (fun Δ Γ B hE hnm => ?_)
  refine g_iconst (v := 3) B dX10_four_0 (by decide) ?_
  refine g_istore_n B dX10_four_1 rfl (Nat.le_of_ble_eq_true rfl) (s1_c (f1_k rfl (f1_1 rfl rfl f1_n))) ?_
  replace h := bnS_s h
  obtain ⟨r2, s23, h3, h⟩ := h
  have kE4 : GW Δ Γ (0) (0) 38 [] [] s23 := by
    replace h := Option.some.inj h
    subst h
    exact g_vret B hE (Nat.zero_le _) (Nat.zero_le _) dX10_four_38
  clear h
  refine g_sub [1, 2, 0] rfl ?_
  refine lpS_w (I := fun q1 s10 => GW Δ Γ (0) (0) 2 [(0, va_rf v0), (1, .int v1), (2, .int q1)] [] s10) (r := r2) (σr := s23) ?_ FUEL 3 σ h3
  intro q1 s10 x8 s9 h hI6 hR7
  unfold fX10_four_l1 at h
  refine g_iload_n B 2 dX10_four_2 rfl rfl ?_
  refine g_if_lt B 38 dX10_four_3 (by decide) (fun hc => ?_) (fun hc => ?_)
  · replace h := ifp hc h
    obtain ⟨w1, w2⟩ := inS h
    clear h
    subst w1
    subst w2
    obtain ⟨e8, e7⟩ := hR7 _ rfl
    subst e8
    subst e7
    exact g_sub [] rfl kE4
  · replace h := ifn hc h
    refine g_aload_n B 0 dX10_four_6 rfl rfl ?_
    replace h := bnP_s h
    obtain ⟨x11, h12, h⟩ := h
    refine g_getR B fl_RX10_27 (by decide) dX10_four_7 h12 ?_
    refine g_aload_n B 0 dX10_four_10 rfl rfl ?_
    replace h := bnP_s h
    obtain ⟨x13, h14, h⟩ := h
    refine g_getI B fl_RX10_56 (by decide) dX10_four_11 h14 ?_
    refine g_iload_n B 1 dX10_four_14 rfl rfl ?_
    refine g_bipush (v := 8) B dX10_four_15 (by decide) ?_
    refine g_iload_n B 2 dX10_four_17 rfl rfl ?_
    refine g_imul B dX10_four_18 ?_
    refine g_ishr B dX10_four_19 ?_
    refine g_i2b B dX10_four_20 ?_
    replace h := bnP_s h
    obtain ⟨s17, h16, h⟩ := h
    refine g_bast B dX10_four_21 h16 ?_
    refine g_aload_n B 0 dX10_four_22 rfl rfl ?_
    refine g_dup B dX10_four_23 (rf_cat _) ?_
    replace h := bnP_s h
    obtain ⟨x18, h19, h⟩ := h
    refine g_getI B fl_RX10_56 (by decide) dX10_four_24 h19 ?_
    refine g_iconst (v := 1) B dX10_four_27 (by decide) ?_
    refine g_iadd B dX10_four_28 ?_
    replace h := bnP_s h
    obtain ⟨s22, h21, h⟩ := h
    refine g_putI B fl_RX10_56 (by decide) dX10_four_29 h21 ?_
    refine g_iinc (v := (q1 + (-1))) B 2 dX10_four_32 rfl (by first | rfl | (congr 1; decide)) (Nat.le_of_ble_eq_true rfl) (s1_c (f1_k rfl (f1_1 rfl rfl (f1_x f1_n)))) ?_
    refine g_goto B 2 dX10_four_35 (by decide) ?_
    obtain ⟨w1, w2⟩ := inS h
    clear h
    subst w1
    subst w2
    exact g_sub [1, 2, 0] rfl (hI6 _ rfl)
set_option maxRecDepth 100000 in
set_option maxHeartbeats 4000000 in
theorem cX10_appendc {l : Launch} {v0 : Option Nat} {v1 : Int32} {v2 : Int32} {v3 : Int32} {v4 : Int32} {v5 : Int32} {σ : HpT} {r : Int32} {σ' : HpT} (h : fX10_append v0 v1 v2 v3 v4 v5 σ = some (r, σ')) : IsK σ v0 10 ∧ Ct l yX10_append cX10_append 6 (some .int) 1 22 [va_rf v0, .int v1, .int v2, .int v3, .int v4, .int v5] σ (.ok (some (.int r))) σ' 0 0 := by
  unfold fX10_append at h
  replace h := bnP_s h
  obtain ⟨u, hk, h⟩ := h
  replace hk := isK_s hk
  refine ⟨hk, ?_⟩
  refine ct_start mi_X10_append.1 rfl (al_le (al_1 (rf_cat _) (al_1 rfl (al_1 rfl (al_1 rfl (al_1 rfl (al_1 rfl al_n)))))) (Nat.le_of_ble_eq_true rfl)) (ag_1 (rf_cat _) (ag_1 rfl (ag_1 rfl (ag_1 rfl (ag_1 rfl (ag_1 rfl ag_n)))))) (fun Δ Γ B hE hnm => ?_)
  refine g_aload_n B 0 dX10_append_0 rfl rfl ?_
  refine g_iconst (v := 0) B dX10_append_1 (by decide) ?_
  replace h := bnP_s h
  obtain ⟨s3, h2, h⟩ := h
  refine g_putI B fl_RX10_41 (by decide) dX10_append_2 h2 ?_
  refine g_aload_n B 0 dX10_append_5 rfl rfl ?_
  replace h := bnP_s h
  obtain ⟨x4, h5, h⟩ := h
  refine g_getI B fl_RX10_56 (by decide) dX10_append_6 h5 ?_
  refine g_sipush (v := 580) B dX10_append_9 (by decide) ?_
  refine g_icmp_le B 17 dX10_append_12 (by decide) (fun hc => ?_) (fun hc => ?_)
  · replace h := ifp hc h
    refine g_aload_n B 0 dX10_append_17 rfl rfl ?_
    refine g_iload_n B 1 dX10_append_18 rfl rfl ?_
    replace h := bnP_s h
    obtain ⟨s8, h7, h⟩ := h
    refine g_callVv0 (st := []) B (cX10_fourc h7) (Nat.le_of_ble_eq_true rfl) rfl rfl mi_X10_four lk_RX10_59 ⟨Nat.le_of_ble_eq_true rfl, Nat.le_of_ble_eq_true rfl⟩ rfl rfl (Nat.le_of_ble_eq_true rfl) dX10_append_19 (Nat.zero_le _) (Nat.zero_le _) ?_
    refine g_aload_n B 0 dX10_append_22 rfl rfl ?_
    refine g_iload_n B 2 dX10_append_23 rfl rfl ?_
    replace h := bnP_s h
    obtain ⟨s11, h10, h⟩ := h
    refine g_callVv0 (st := []) B (cX10_fourc h10) (Nat.le_of_ble_eq_true rfl) rfl rfl mi_X10_four lk_RX10_59 ⟨Nat.le_of_ble_eq_true rfl, Nat.le_of_ble_eq_true rfl⟩ rfl rfl (Nat.le_of_ble_eq_true rfl) dX10_append_24 (Nat.zero_le _) (Nat.zero_le _) ?_
    refine g_aload_n B 0 dX10_append_27 rfl rfl ?_
    refine g_iload_n B 3 dX10_append_28 rfl rfl ?_
    replace h := bnP_s h
    obtain ⟨s14, h13, h⟩ := h
    refine g_callVv0 (st := []) B (cX10_fourc h13) (Nat.le_of_ble_eq_true rfl) rfl rfl mi_X10_four lk_RX10_59 ⟨Nat.le_of_ble_eq_true rfl, Nat.le_of_ble_eq_true rfl⟩ rfl rfl (Nat.le_of_ble_eq_true rfl) dX10_append_29 (Nat.zero_le _) (Nat.zero_le _) ?_
    refine g_aload_n B 0 dX10_append_32 rfl rfl ?_
    refine g_iload B 4 dX10_append_33 rfl ?_
    replace h := bnP_s h
    obtain ⟨s17, h16, h⟩ := h
    refine g_callVv0 (st := []) B (cX10_fourc h16) (Nat.le_of_ble_eq_true rfl) rfl rfl mi_X10_four lk_RX10_59 ⟨Nat.le_of_ble_eq_true rfl, Nat.le_of_ble_eq_true rfl⟩ rfl rfl (Nat.le_of_ble_eq_true rfl) dX10_append_35 (Nat.zero_le _) (Nat.zero_le _) ?_
    refine g_aload_n B 0 dX10_append_38 rfl rfl ?_
    refine g_iload B 5 dX10_append_39 rfl ?_
    replace h := bnP_s h
    obtain ⟨s20, h19, h⟩ := h
    refine g_callVv0 (st := []) B (cX10_fourc h19) (Nat.le_of_ble_eq_true rfl) rfl rfl mi_X10_four lk_RX10_59 ⟨Nat.le_of_ble_eq_true rfl, Nat.le_of_ble_eq_true rfl⟩ rfl rfl (Nat.le_of_ble_eq_true rfl) dX10_append_41 (Nat.zero_le _) (Nat.zero_le _) ?_
    refine g_aload_n B 0 dX10_append_44 rfl rfl ?_
    replace h := bnP_s h
    obtain ⟨x21, h22, h⟩ := h
    refine g_getI B fl_RX10_56 (by decide) dX10_append_45 h22 ?_
    obtain ⟨w1, w2⟩ := inS h
    clear h
    subst w1
    subst w2
    exact g_iret B hE (Nat.zero_le _) (Nat.zero_le _) dX10_append_48
  · replace h := ifn hc h
    refine g_iconst (v := (-1)) B dX10_append_15 (by decide) ?_
    obtain ⟨w1, w2⟩ := inS h
    clear h
    subst w1
    subst w2
    exact g_iret B hE (Nat.zero_le _) (Nat.zero_le _) dX10_append_16
set_option maxRecDepth 100000 in
set_option maxHeartbeats 4000000 in
theorem cX10_parseErrorc {l : Launch} {v0 : Option Nat} {σ : HpT} {r : Int32} {σ' : HpT} (h : fX10_parseError v0 σ = some (r, σ')) : IsK σ v0 10 ∧ Ct l yX10_parseError cX10_parseError 1 (some .int) 0 0 [va_rf v0] σ (.ok (some (.int r))) σ' 0 0 := by
  unfold fX10_parseError at h
  replace h := bnP_s h
  obtain ⟨u, hk, h⟩ := h
  replace hk := isK_s hk
  refine ⟨hk, ?_⟩
  refine ct_start mi_X10_parseError.1 rfl (al_le (al_1 (rf_cat _) al_n) (Nat.le_of_ble_eq_true rfl)) (ag_1 (rf_cat _) ag_n) (fun Δ Γ B hE hnm => ?_)
  refine g_aload_n B 0 dX10_parseError_0 rfl rfl ?_
  refine g_iconst (v := 0) B dX10_parseError_1 (by decide) ?_
  replace h := bnP_s h
  obtain ⟨s3, h2, h⟩ := h
  refine g_putI B fl_RX10_41 (by decide) dX10_parseError_2 h2 ?_
  refine g_aload_n B 0 dX10_parseError_5 rfl rfl ?_
  replace h := bnP_s h
  obtain ⟨x4, h5, h⟩ := h
  refine g_getI B fl_RX10_63 (by decide) dX10_parseError_6 h5 ?_
  obtain ⟨w1, w2⟩ := inS h
  clear h
  subst w1
  subst w2
  exact g_iret B hE (Nat.zero_le _) (Nat.zero_le _) dX10_parseError_9
set_option maxRecDepth 100000 in
set_option maxHeartbeats 4000000 in
theorem cX10_errorPositionc {l : Launch} {v0 : Option Nat} {σ : HpT} {r : Int32} {σ' : HpT} (h : fX10_errorPosition v0 σ = some (r, σ')) : IsK σ v0 10 ∧ Ct l yX10_errorPosition cX10_errorPosition 1 (some .int) 0 0 [va_rf v0] σ (.ok (some (.int r))) σ' 0 0 := by
  unfold fX10_errorPosition at h
  replace h := bnP_s h
  obtain ⟨u, hk, h⟩ := h
  replace hk := isK_s hk
  refine ⟨hk, ?_⟩
  refine ct_start mi_X10_errorPosition.1 rfl (al_le (al_1 (rf_cat _) al_n) (Nat.le_of_ble_eq_true rfl)) (ag_1 (rf_cat _) ag_n) (fun Δ Γ B hE hnm => ?_)
  refine g_aload_n B 0 dX10_errorPosition_0 rfl rfl ?_
  refine g_iconst (v := 0) B dX10_errorPosition_1 (by decide) ?_
  replace h := bnP_s h
  obtain ⟨s3, h2, h⟩ := h
  refine g_putI B fl_RX10_41 (by decide) dX10_errorPosition_2 h2 ?_
  refine g_aload_n B 0 dX10_errorPosition_5 rfl rfl ?_
  replace h := bnP_s h
  obtain ⟨x4, h5, h⟩ := h
  refine g_getI B fl_RX10_31 (by decide) dX10_errorPosition_6 h5 ?_
  obtain ⟨w1, w2⟩ := inS h
  clear h
  subst w1
  subst w2
  exact g_iret B hE (Nat.zero_le _) (Nat.zero_le _) dX10_errorPosition_9
set_option maxRecDepth 100000 in
set_option maxHeartbeats 4000000 in
theorem cX10_bufferedc {l : Launch} {v0 : Option Nat} {σ : HpT} {r : Int32} {σ' : HpT} (h : fX10_buffered v0 σ = some (r, σ')) : IsK σ v0 10 ∧ Ct l yX10_buffered cX10_buffered 1 (some .int) 0 0 [va_rf v0] σ (.ok (some (.int r))) σ' 0 0 := by
  unfold fX10_buffered at h
  replace h := bnP_s h
  obtain ⟨u, hk, h⟩ := h
  replace hk := isK_s hk
  refine ⟨hk, ?_⟩
  refine ct_start mi_X10_buffered.1 rfl (al_le (al_1 (rf_cat _) al_n) (Nat.le_of_ble_eq_true rfl)) (ag_1 (rf_cat _) ag_n) (fun Δ Γ B hE hnm => ?_)
  refine g_aload_n B 0 dX10_buffered_0 rfl rfl ?_
  refine g_iconst (v := 0) B dX10_buffered_1 (by decide) ?_
  replace h := bnP_s h
  obtain ⟨s3, h2, h⟩ := h
  refine g_putI B fl_RX10_41 (by decide) dX10_buffered_2 h2 ?_
  refine g_aload_n B 0 dX10_buffered_5 rfl rfl ?_
  replace h := bnP_s h
  obtain ⟨x4, h5, h⟩ := h
  refine g_getI B fl_RX10_56 (by decide) dX10_buffered_6 h5 ?_
  obtain ⟨w1, w2⟩ := inS h
  clear h
  subst w1
  subst w2
  exact g_iret B hE (Nat.zero_le _) (Nat.zero_le _) dX10_buffered_9
set_option maxRecDepth 100000 in
set_option maxHeartbeats 4000000 in
theorem cX10_isLetterc {l : Launch} {v0 : Option Nat} {v1 : Int32} {σ : HpT} {r : Bool} (h : fX10_isLetter v0 v1 σ = some r) : IsK σ v0 10 ∧ Ct l yX10_isLetter cX10_isLetter 2 (some .boolean) 1 22 [va_rf v0, .int v1] σ (.ok (some (.int (bI r)))) σ 0 0 := by
  unfold fX10_isLetter at h
  replace h := bnP_s h
  obtain ⟨u, hk, h⟩ := h
  replace hk := isK_s hk
  refine ⟨hk, ?_⟩
  refine ct_start mi_X10_isLetter.1 rfl (al_le (al_1 (rf_cat _) (al_1 rfl al_n)) (Nat.le_of_ble_eq_true rfl)) (ag_1 (rf_cat _) (ag_1 rfl ag_n)) (fun Δ Γ B hE hnm => ?_)
  refine g_iload_n B 1 dX10_isLetter_0 rfl rfl ?_
  refine g_aload_n B 0 dX10_isLetter_1 rfl rfl ?_
  replace h := bnP_s h
  obtain ⟨x1, h2, h⟩ := h
  refine g_getI B fl_RX10_66 (by decide) dX10_isLetter_2 h2 ?_
  refine g_icmp_ge B 28 dX10_isLetter_5 (by decide) (fun hc => ?_) (fun hc => ?_)
  · replace h := ifp hc h
    refine g_iconst (v := 0) B dX10_isLetter_28 (by decide) ?_
    replace h := Option.some.inj h
    subst h
    exact g_zret B hE rfl (Nat.zero_le _) (Nat.zero_le _) dX10_isLetter_29
  · replace h := ifn hc h
    refine g_aload_n B 0 dX10_isLetter_8 rfl rfl ?_
    replace h := bnP_s h
    obtain ⟨x3, h4, h⟩ := h
    refine g_getR B fl_RX10_27 (by decide) dX10_isLetter_9 h4 ?_
    refine g_iload_n B 1 dX10_isLetter_12 rfl rfl ?_
    replace h := bnP_s h
    obtain ⟨x5, h6, h⟩ := h
    refine g_bald B dX10_isLetter_13 h6 ?_
    refine g_bipush (v := 97) B dX10_isLetter_14 (by decide) ?_
    refine g_bipush (v := 122) B dX10_isLetter_16 (by decide) ?_
    replace h := bnP_s h
    obtain ⟨x7, h8, h⟩ := h
    refine g_callSs0 (st := []) B (cX10_inc h8) mi_X10_in lk_RX10_69 ⟨Nat.le_of_ble_eq_true rfl, Nat.le_of_ble_eq_true rfl⟩ rfl rfl (Nat.le_of_ble_eq_true rfl) dX10_isLetter_18 (Nat.zero_le _) (Nat.zero_le _) ?_
    refine g_if_eq B 28 dX10_isLetter_21 (by decide) (fun hc => ?_) (fun hc => ?_)
    · replace h := ifn (bI0 hc) h
      refine g_iconst (v := 0) B dX10_isLetter_28 (by decide) ?_
      replace h := Option.some.inj h
      subst h
      exact g_zret B hE rfl (Nat.zero_le _) (Nat.zero_le _) dX10_isLetter_29
    · replace h := ifp (bI1 hc) h
      refine g_iconst (v := 1) B dX10_isLetter_24 (by decide) ?_
      refine g_goto B 29 dX10_isLetter_25 (by decide) ?_
      replace h := Option.some.inj h
      subst h
      exact g_zret B hE rfl (Nat.zero_le _) (Nat.zero_le _) dX10_isLetter_29
set_option maxRecDepth 100000 in
set_option maxHeartbeats 4000000 in
theorem cX10_isDigitc {l : Launch} {v0 : Option Nat} {v1 : Int32} {σ : HpT} {r : Bool} (h : fX10_isDigit v0 v1 σ = some r) : IsK σ v0 10 ∧ Ct l yX10_isDigit cX10_isDigit 2 (some .boolean) 1 22 [va_rf v0, .int v1] σ (.ok (some (.int (bI r)))) σ 0 0 := by
  unfold fX10_isDigit at h
  replace h := bnP_s h
  obtain ⟨u, hk, h⟩ := h
  replace hk := isK_s hk
  refine ⟨hk, ?_⟩
  refine ct_start mi_X10_isDigit.1 rfl (al_le (al_1 (rf_cat _) (al_1 rfl al_n)) (Nat.le_of_ble_eq_true rfl)) (ag_1 (rf_cat _) (ag_1 rfl ag_n)) (fun Δ Γ B hE hnm => ?_)
  refine g_iload_n B 1 dX10_isDigit_0 rfl rfl ?_
  refine g_aload_n B 0 dX10_isDigit_1 rfl rfl ?_
  replace h := bnP_s h
  obtain ⟨x1, h2, h⟩ := h
  refine g_getI B fl_RX10_66 (by decide) dX10_isDigit_2 h2 ?_
  refine g_icmp_ge B 28 dX10_isDigit_5 (by decide) (fun hc => ?_) (fun hc => ?_)
  · replace h := ifp hc h
    refine g_iconst (v := 0) B dX10_isDigit_28 (by decide) ?_
    replace h := Option.some.inj h
    subst h
    exact g_zret B hE rfl (Nat.zero_le _) (Nat.zero_le _) dX10_isDigit_29
  · replace h := ifn hc h
    refine g_aload_n B 0 dX10_isDigit_8 rfl rfl ?_
    replace h := bnP_s h
    obtain ⟨x3, h4, h⟩ := h
    refine g_getR B fl_RX10_27 (by decide) dX10_isDigit_9 h4 ?_
    refine g_iload_n B 1 dX10_isDigit_12 rfl rfl ?_
    replace h := bnP_s h
    obtain ⟨x5, h6, h⟩ := h
    refine g_bald B dX10_isDigit_13 h6 ?_
    refine g_bipush (v := 48) B dX10_isDigit_14 (by decide) ?_
    refine g_bipush (v := 57) B dX10_isDigit_16 (by decide) ?_
    replace h := bnP_s h
    obtain ⟨x7, h8, h⟩ := h
    refine g_callSs0 (st := []) B (cX10_inc h8) mi_X10_in lk_RX10_69 ⟨Nat.le_of_ble_eq_true rfl, Nat.le_of_ble_eq_true rfl⟩ rfl rfl (Nat.le_of_ble_eq_true rfl) dX10_isDigit_18 (Nat.zero_le _) (Nat.zero_le _) ?_
    refine g_if_eq B 28 dX10_isDigit_21 (by decide) (fun hc => ?_) (fun hc => ?_)
    · replace h := ifn (bI0 hc) h
      refine g_iconst (v := 0) B dX10_isDigit_28 (by decide) ?_
      replace h := Option.some.inj h
      subst h
      exact g_zret B hE rfl (Nat.zero_le _) (Nat.zero_le _) dX10_isDigit_29
    · replace h := ifp (bI1 hc) h
      refine g_iconst (v := 1) B dX10_isDigit_24 (by decide) ?_
      refine g_goto B 29 dX10_isDigit_25 (by decide) ?_
      replace h := Option.some.inj h
      subst h
      exact g_zret B hE rfl (Nat.zero_le _) (Nat.zero_le _) dX10_isDigit_29
set_option maxRecDepth 100000 in
set_option maxHeartbeats 4000000 in
theorem cX10_signOfc {l : Launch} {v0 : Int32} {σ : HpT} {r : Int32} (h : fX10_signOf v0 σ = some r) : Ct l yX10_signOf cX10_signOf 1 (some .int) 0 0 [.int v0] σ (.ok (some (.int r))) σ 0 0 := by
  unfold fX10_signOf at h
  refine ct_start mi_X10_signOf.1 rfl (al_le (al_1 rfl al_n) (Nat.le_of_ble_eq_true rfl)) (ag_1 rfl ag_n) (fun Δ Γ B hE hnm => ?_)
  refine g_iload_n B 0 dX10_signOf_0 rfl rfl ?_
  refine g_bipush (v := 59) B dX10_signOf_1 (by decide) ?_
  refine g_icmp_ne B 10 dX10_signOf_3 (by decide) (fun hc => ?_) (fun hc => ?_)
  · replace h := ifn hc h
    refine g_iload_n B 0 dX10_signOf_10 rfl rfl ?_
    refine g_bipush (v := 40) B dX10_signOf_11 (by decide) ?_
    refine g_icmp_ne B 20 dX10_signOf_13 (by decide) (fun hc => ?_) (fun hc => ?_)
    · replace h := ifn hc h
      refine g_iload_n B 0 dX10_signOf_20 rfl rfl ?_
      refine g_bipush (v := 41) B dX10_signOf_21 (by decide) ?_
      refine g_icmp_ne B 31 dX10_signOf_23 (by decide) (fun hc => ?_) (fun hc => ?_)
      · replace h := ifn hc h
        refine g_iconst (v := 0) B dX10_signOf_31 (by decide) ?_
        replace h := Option.some.inj h
        subst h
        exact g_iret B hE (Nat.zero_le _) (Nat.zero_le _) dX10_signOf_32
      · replace h := ifp hc h
        refine g_bipush (v := 6) B dX10_signOf_26 (by decide) ?_
        refine g_goto B 32 dX10_signOf_28 (by decide) ?_
        replace h := Option.some.inj h
        subst h
        exact g_iret B hE (Nat.zero_le _) (Nat.zero_le _) dX10_signOf_32
    · replace h := ifp hc h
      refine g_iconst (v := 5) B dX10_signOf_16 (by decide) ?_
      refine g_goto B 32 dX10_signOf_17 (by decide) ?_
      replace h := Option.some.inj h
      subst h
      exact g_iret B hE (Nat.zero_le _) (Nat.zero_le _) dX10_signOf_32
  · replace h := ifp hc h
    refine g_iconst (v := 4) B dX10_signOf_6 (by decide) ?_
    refine g_goto B 32 dX10_signOf_7 (by decide) ?_
    replace h := Option.some.inj h
    subst h
    exact g_iret B hE (Nat.zero_le _) (Nat.zero_le _) dX10_signOf_32
set_option maxRecDepth 100000 in
set_option maxHeartbeats 4000000 in
theorem cX10_goesc {l : Launch} {v0 : Option Nat} {σ : HpT} {σ' : HpT} (h : fX10_goes v0 σ = some σ') : IsK σ v0 10 ∧ Ct l yX10_goes cX10_goes 1 none 2 43 [va_rf v0] σ (.ok none) σ' 0 0 := by
  unfold fX10_goes at h
  replace h := bnP_s h
  obtain ⟨u, hk, h⟩ := h
  replace hk := isK_s hk
  refine ⟨hk, ?_⟩
  refine ct_start mi_X10_goes.1 rfl (al_le (al_1 (rf_cat _) al_n) (Nat.le_of_ble_eq_true rfl)) (ag_1 (rf_cat _) ag_n) (fun Δ Γ B hE hnm => ?_)
  refine g_aload_n B 0 dX10_goes_0 rfl rfl ?_
  replace h := bnP_s h
  obtain ⟨x1, h2, h⟩ := h
  refine g_getI B fl_RX10_73 (by decide) dX10_goes_1 h2 ?_
  refine g_if_le B 8 dX10_goes_4 (by decide) (fun hc => ?_) (fun hc => ?_)
  · replace h := ifp hc h
    replace h := bnS_s h
    obtain ⟨r4, s28, h5, h⟩ := h
    have kE6 : GW Δ Γ (0) (0) 46 [(0, va_rf v0)] [] s28 := by
      refine g_aload_n B 0 dX10_goes_46 rfl rfl ?_
      refine g_aload_n B 0 dX10_goes_47 rfl rfl ?_
      replace h := bnP_s h
      obtain ⟨x29, h30, h⟩ := h
      refine g_getI B fl_RX10_76 (by decide) dX10_goes_48 h30 ?_
      replace h := bnP_s h
      obtain ⟨s33, h32, h⟩ := h
      refine g_putI B fl_RX10_79 (by decide) dX10_goes_51 h32 ?_
      refine g_aload_n B 0 dX10_goes_54 rfl rfl ?_
      refine g_aload_n B 0 dX10_goes_55 rfl rfl ?_
      replace h := bnP_s h
      obtain ⟨x34, h35, h⟩ := h
      refine g_getI B fl_RX10_76 (by decide) dX10_goes_56 h35 ?_
      refine g_aload_n B 0 dX10_goes_59 rfl rfl ?_
      replace h := bnP_s h
      obtain ⟨x36, h37, h⟩ := h
      refine g_getI B fl_RX10_66 (by decide) dX10_goes_60 h37 ?_
      replace h := bnP_s h
      obtain ⟨j38, h39, h⟩ := h
      have k41 : GW Δ Γ (0) (0) 71 [(0, va_rf v0)] [.int j38.2, va_rf j38.1] s33 := by
        replace h := bnP_s h
        obtain ⟨s45, h44, h⟩ := h
        refine g_putI B fl_RX10_82 (by decide) dX10_goes_71 h44 ?_
        refine g_aload_n B 0 dX10_goes_74 rfl rfl ?_
        replace h := bnP_s h
        obtain ⟨x46, h47, h⟩ := h
        refine g_getI B fl_RX10_82 (by decide) dX10_goes_75 h47 ?_
        refine g_iconst (v := 1) B dX10_goes_78 (by decide) ?_
        refine g_icmp_ne B 83 dX10_goes_79 (by decide) (fun hc => ?_) (fun hc => ?_)
        · replace h := ifn hc h
          refine g_aload_n B 0 dX10_goes_83 rfl rfl ?_
          refine g_aload_n B 0 dX10_goes_84 rfl rfl ?_
          replace h := bnP_s h
          obtain ⟨x48, h49, h⟩ := h
          refine g_getI B fl_RX10_76 (by decide) dX10_goes_85 h49 ?_
          replace h := bnP_s h
          obtain ⟨x50, h51, h⟩ := h
          refine g_callVs0 (st := []) B (cX10_isLetterc h51) (Nat.le_of_ble_eq_true rfl) rfl rfl mi_X10_isLetter lk_RX10_85 ⟨Nat.le_of_ble_eq_true rfl, Nat.le_of_ble_eq_true rfl⟩ rfl rfl (Nat.le_of_ble_eq_true rfl) dX10_goes_88 (Nat.zero_le _) (Nat.zero_le _) ?_
          refine g_if_eq B 142 dX10_goes_91 (by decide) (fun hc => ?_) (fun hc => ?_)
          · replace h := ifn (bI0 hc) h
            refine g_aload_n B 0 dX10_goes_142 rfl rfl ?_
            refine g_aload_n B 0 dX10_goes_143 rfl rfl ?_
            replace h := bnP_s h
            obtain ⟨x52, h53, h⟩ := h
            refine g_getI B fl_RX10_76 (by decide) dX10_goes_144 h53 ?_
            replace h := bnP_s h
            obtain ⟨x54, h55, h⟩ := h
            refine g_callVs0 (st := []) B (cX10_isDigitc h55) (Nat.le_of_ble_eq_true rfl) rfl rfl mi_X10_isDigit lk_RX10_89 ⟨Nat.le_of_ble_eq_true rfl, Nat.le_of_ble_eq_true rfl⟩ rfl rfl (Nat.le_of_ble_eq_true rfl) dX10_goes_147 (Nat.zero_le _) (Nat.zero_le _) ?_
            refine g_if_eq B 242 dX10_goes_150 (by decide) (fun hc => ?_) (fun hc => ?_)
            · replace h := ifn (bI0 hc) h
              refine g_aload_n B 0 dX10_goes_242 rfl rfl ?_
              refine g_aload_n B 0 dX10_goes_243 rfl rfl ?_
              replace h := bnP_s h
              obtain ⟨x56, h57, h⟩ := h
              refine g_getR B fl_RX10_27 (by decide) dX10_goes_244 h57 ?_
              refine g_aload_n B 0 dX10_goes_247 rfl rfl ?_
              replace h := bnP_s h
              obtain ⟨x58, h59, h⟩ := h
              refine g_getI B fl_RX10_76 (by decide) dX10_goes_248 h59 ?_
              replace h := bnP_s h
              obtain ⟨x60, h61, h⟩ := h
              refine g_bald B dX10_goes_251 h61 ?_
              replace h := bnP_s h
              obtain ⟨x62, h63, h⟩ := h
              refine g_callSs0 (st := [va_rf v0]) B (cX10_signOfc h63) mi_X10_signOf lk_RX10_95 ⟨Nat.le_of_ble_eq_true rfl, Nat.le_of_ble_eq_true rfl⟩ rfl rfl (Nat.le_of_ble_eq_true rfl) dX10_goes_252 (Nat.zero_le _) (Nat.zero_le _) ?_
              replace h := bnP_s h
              obtain ⟨s66, h65, h⟩ := h
              refine g_putI B fl_RX10_82 (by decide) dX10_goes_255 h65 ?_
              refine g_aload_n B 0 dX10_goes_258 rfl rfl ?_
              refine g_dup B dX10_goes_259 (rf_cat _) ?_
              replace h := bnP_s h
              obtain ⟨x67, h68, h⟩ := h
              refine g_getI B fl_RX10_76 (by decide) dX10_goes_260 h68 ?_
              refine g_iconst (v := 1) B dX10_goes_263 (by decide) ?_
              refine g_iadd B dX10_goes_264 ?_
              replace h := bnP_s h
              obtain ⟨s71, h70, h⟩ := h
              refine g_putI B fl_RX10_76 (by decide) dX10_goes_265 h70 ?_
              replace h := Option.some.inj h
              subst h
              exact g_vret B hE (Nat.zero_le _) (Nat.zero_le _) dX10_goes_268
            · replace h := ifp (bI1 hc) h
              refine g_aload_n B 0 dX10_goes_153 rfl rfl ?_
              refine g_iconst (v := 0) B dX10_goes_154 (by decide) ?_
              replace h := bnP_s h
              obtain ⟨s74, h73, h⟩ := h
              refine g_putI B fl_RX10_92 (by decide) dX10_goes_155 h73 ?_
              replace h := bnS_s h
              obtain ⟨r76, s115, h77, h⟩ := h
              have kE78 : GW Δ Γ (0) (0) 219 [(0, va_rf v0)] [] s115 := by
                refine g_aload_n B 0 dX10_goes_219 rfl rfl ?_
                refine g_aload_n B 0 dX10_goes_220 rfl rfl ?_
                replace h := bnP_s h
                obtain ⟨x116, h117, h⟩ := h
                refine g_getI B fl_RX10_76 (by decide) dX10_goes_221 h117 ?_
                refine g_aload_n B 0 dX10_goes_224 rfl rfl ?_
                replace h := bnP_s h
                obtain ⟨x118, h119, h⟩ := h
                refine g_getI B fl_RX10_79 (by decide) dX10_goes_225 h119 ?_
                refine g_isub B dX10_goes_228 ?_
                refine g_iconst (v := 2) B dX10_goes_229 (by decide) ?_
                replace h := bnP_s h
                obtain ⟨j120, h121, h⟩ := h
                have k123 : GW Δ Γ (0) (0) 238 [] [.int j120.2, va_rf j120.1] s115 := by
                  replace h := bnP_s h
                  obtain ⟨s127, h126, h⟩ := h
                  refine g_putI B fl_RX10_82 (by decide) dX10_goes_238 h126 ?_
                  replace h := Option.some.inj h
                  subst h
                  exact g_vret B hE (Nat.zero_le _) (Nat.zero_le _) dX10_goes_241
                clear h
                have h := h121
                clear h121
                refine g_icmp_gt B 237 dX10_goes_230 (by decide) (fun hc => ?_) (fun hc => ?_)
                · replace h := ifp hc h
                  refine g_iconst (v := 0) B dX10_goes_237 (by decide) ?_
                  replace h := Option.some.inj h
                  subst h
                  exact g_sub [] rfl k123
                · replace h := ifn hc h
                  refine g_iconst (v := 3) B dX10_goes_233 (by decide) ?_
                  refine g_goto B 238 dX10_goes_234 (by decide) ?_
                  replace h := Option.some.inj h
                  subst h
                  exact g_sub [] rfl k123
              clear h
              refine g_sub [0] rfl ?_
              refine lpS_w (I := fun q75 s84 => GW Δ Γ (0) (0) 158 [(0, va_rf v0)] [] s84) (r := r76) (σr := s115) ?_ FUEL () s74 h77
              intro q75 s84 x82 s9 h hI80 hR81
              unfold fX10_goes_l2 at h
              refine g_aload_n B 0 dX10_goes_158 rfl rfl ?_
              refine g_aload_n B 0 dX10_goes_159 rfl rfl ?_
              replace h := bnP_s h
              obtain ⟨x85, h86, h⟩ := h
              refine g_getI B fl_RX10_76 (by decide) dX10_goes_160 h86 ?_
              replace h := bnP_s h
              obtain ⟨x87, h88, h⟩ := h
              refine g_callVs0 (st := []) B (cX10_isDigitc h88) (Nat.le_of_ble_eq_true rfl) rfl rfl mi_X10_isDigit lk_RX10_89 ⟨Nat.le_of_ble_eq_true rfl, Nat.le_of_ble_eq_true rfl⟩ rfl rfl (Nat.le_of_ble_eq_true rfl) dX10_goes_163 (Nat.zero_le _) (Nat.zero_le _) ?_
              refine g_if_eq B 219 dX10_goes_166 (by decide) (fun hc => ?_) (fun hc => ?_)
              · replace h := ifn (bI0 hc) h
                obtain ⟨w1, w2⟩ := inS h
                clear h
                subst w1
                subst w2
                obtain ⟨e8, e7⟩ := hR81 _ rfl
                subst e8
                subst e7
                exact g_sub [0] rfl kE78
              · replace h := ifp (bI1 hc) h
                refine g_aload_n B 0 dX10_goes_169 rfl rfl ?_
                replace h := bnP_s h
                obtain ⟨x89, h90, h⟩ := h
                refine g_getI B fl_RX10_76 (by decide) dX10_goes_170 h90 ?_
                refine g_aload_n B 0 dX10_goes_173 rfl rfl ?_
                replace h := bnP_s h
                obtain ⟨x91, h92, h⟩ := h
                refine g_getI B fl_RX10_79 (by decide) dX10_goes_174 h92 ?_
                refine g_isub B dX10_goes_177 ?_
                refine g_iconst (v := 2) B dX10_goes_178 (by decide) ?_
                replace h := bnS_s h
                obtain ⟨j93, s109, h94, h⟩ := h
                have k96 : GW Δ Γ (0) (0) 206 [(0, va_rf v0)] [] s109 := by
                  refine g_aload_n B 0 dX10_goes_206 rfl rfl ?_
                  refine g_dup B dX10_goes_207 (rf_cat _) ?_
                  replace h := bnP_s h
                  obtain ⟨x110, h111, h⟩ := h
                  refine g_getI B fl_RX10_76 (by decide) dX10_goes_208 h111 ?_
                  refine g_iconst (v := 1) B dX10_goes_211 (by decide) ?_
                  refine g_iadd B dX10_goes_212 ?_
                  replace h := bnP_s h
                  obtain ⟨s114, h113, h⟩ := h
                  refine g_putI B fl_RX10_76 (by decide) dX10_goes_213 h113 ?_
                  refine g_goto B 158 dX10_goes_216 (by decide) ?_
                  obtain ⟨w1, w2⟩ := inS h
                  clear h
                  subst w1
                  subst w2
                  exact g_sub [0] rfl (hI80 _ rfl)
                clear h
                have h := h94
                clear h94
                refine g_icmp_ge B 206 dX10_goes_179 (by decide) (fun hc => ?_) (fun hc => ?_)
                · replace h := ifp hc h
                  obtain ⟨w1, w2⟩ := inS h
                  clear h
                  subst w1
                  subst w2
                  exact g_sub [0] rfl k96
                · replace h := ifn hc h
                  refine g_aload_n B 0 dX10_goes_182 rfl rfl ?_
                  refine g_bipush (v := 10) B dX10_goes_183 (by decide) ?_
                  refine g_aload_n B 0 dX10_goes_185 rfl rfl ?_
                  replace h := bnP_s h
                  obtain ⟨x98, h99, h⟩ := h
                  refine g_getI B fl_RX10_92 (by decide) dX10_goes_186 h99 ?_
                  refine g_imul B dX10_goes_189 ?_
                  refine g_aload_n B 0 dX10_goes_190 rfl rfl ?_
                  replace h := bnP_s h
                  obtain ⟨x100, h101, h⟩ := h
                  refine g_getR B fl_RX10_27 (by decide) dX10_goes_191 h101 ?_
                  refine g_aload_n B 0 dX10_goes_194 rfl rfl ?_
                  replace h := bnP_s h
                  obtain ⟨x102, h103, h⟩ := h
                  refine g_getI B fl_RX10_76 (by decide) dX10_goes_195 h103 ?_
                  replace h := bnP_s h
                  obtain ⟨x104, h105, h⟩ := h
                  refine g_bald B dX10_goes_198 h105 ?_
                  refine g_iadd B dX10_goes_199 ?_
                  refine g_bipush (v := 48) B dX10_goes_200 (by decide) ?_
                  refine g_isub B dX10_goes_202 ?_
                  replace h := bnP_s h
                  obtain ⟨s108, h107, h⟩ := h
                  refine g_putI B fl_RX10_92 (by decide) dX10_goes_203 h107 ?_
                  obtain ⟨w1, w2⟩ := inS h
                  clear h
                  subst w1
                  subst w2
                  exact g_sub [0] rfl k96
          · replace h := ifp (bI1 hc) h
            replace h := bnS_s h
            obtain ⟨r129, s147, h130, h⟩ := h
            have kE131 : GW Δ Γ (0) (0) 118 [(0, va_rf v0)] [] s147 := by
              refine g_aload_n B 0 dX10_goes_118 rfl rfl ?_
              refine g_aload_n B 0 dX10_goes_119 rfl rfl ?_
              replace h := bnP_s h
              obtain ⟨x148, h149, h⟩ := h
              refine g_getI B fl_RX10_76 (by decide) dX10_goes_120 h149 ?_
              refine g_aload_n B 0 dX10_goes_123 rfl rfl ?_
              replace h := bnP_s h
              obtain ⟨x150, h151, h⟩ := h
              refine g_getI B fl_RX10_79 (by decide) dX10_goes_124 h151 ?_
              refine g_isub B dX10_goes_127 ?_
              refine g_bipush (v := 8) B dX10_goes_128 (by decide) ?_
              replace h := bnP_s h
              obtain ⟨j152, h153, h⟩ := h
              have k155 : GW Δ Γ (0) (0) 138 [] [.int j152.2, va_rf j152.1] s147 := by
                replace h := bnP_s h
                obtain ⟨s159, h158, h⟩ := h
                refine g_putI B fl_RX10_82 (by decide) dX10_goes_138 h158 ?_
                replace h := Option.some.inj h
                subst h
                exact g_vret B hE (Nat.zero_le _) (Nat.zero_le _) dX10_goes_141
              clear h
              have h := h153
              clear h153
              refine g_icmp_gt B 137 dX10_goes_130 (by decide) (fun hc => ?_) (fun hc => ?_)
              · replace h := ifp hc h
                refine g_iconst (v := 0) B dX10_goes_137 (by decide) ?_
                replace h := Option.some.inj h
                subst h
                exact g_sub [] rfl k155
              · replace h := ifn hc h
                refine g_iconst (v := 2) B dX10_goes_133 (by decide) ?_
                refine g_goto B 138 dX10_goes_134 (by decide) ?_
                replace h := Option.some.inj h
                subst h
                exact g_sub [] rfl k155
            clear h
            refine g_sub [0] rfl ?_
            refine lpS_w (I := fun q128 s137 => GW Δ Γ (0) (0) 94 [(0, va_rf v0)] [] s137) (r := r129) (σr := s147) ?_ FUEL () s45 h130
            intro q128 s137 x135 s9 h hI133 hR134
            unfold fX10_goes_l3 at h
            refine g_aload_n B 0 dX10_goes_94 rfl rfl ?_
            refine g_aload_n B 0 dX10_goes_95 rfl rfl ?_
            replace h := bnP_s h
            obtain ⟨x138, h139, h⟩ := h
            refine g_getI B fl_RX10_76 (by decide) dX10_goes_96 h139 ?_
            replace h := bnP_s h
            obtain ⟨x140, h141, h⟩ := h
            refine g_callVs0 (st := []) B (cX10_isLetterc h141) (Nat.le_of_ble_eq_true rfl) rfl rfl mi_X10_isLetter lk_RX10_85 ⟨Nat.le_of_ble_eq_true rfl, Nat.le_of_ble_eq_true rfl⟩ rfl rfl (Nat.le_of_ble_eq_true rfl) dX10_goes_99 (Nat.zero_le _) (Nat.zero_le _) ?_
            refine g_if_eq B 118 dX10_goes_102 (by decide) (fun hc => ?_) (fun hc => ?_)
            · replace h := ifn (bI0 hc) h
              obtain ⟨w1, w2⟩ := inS h
              clear h
              subst w1
              subst w2
              obtain ⟨e8, e7⟩ := hR134 _ rfl
              subst e8
              subst e7
              exact g_sub [0] rfl kE131
            · replace h := ifp (bI1 hc) h
              refine g_aload_n B 0 dX10_goes_105 rfl rfl ?_
              refine g_dup B dX10_goes_106 (rf_cat _) ?_
              replace h := bnP_s h
              obtain ⟨x142, h143, h⟩ := h
              refine g_getI B fl_RX10_76 (by decide) dX10_goes_107 h143 ?_
              refine g_iconst (v := 1) B dX10_goes_110 (by decide) ?_
              refine g_iadd B dX10_goes_111 ?_
              replace h := bnP_s h
              obtain ⟨s146, h145, h⟩ := h
              refine g_putI B fl_RX10_76 (by decide) dX10_goes_112 h145 ?_
              refine g_goto B 94 dX10_goes_115 (by decide) ?_
              obtain ⟨w1, w2⟩ := inS h
              clear h
              subst w1
              subst w2
              exact g_sub [0] rfl (hI133 _ rfl)
        · replace h := ifp hc h
          replace h := Option.some.inj h
          subst h
          exact g_vret B hE (Nat.zero_le _) (Nat.zero_le _) dX10_goes_82
      clear h
      have h := h39
      clear h39
      refine g_icmp_ne B 70 dX10_goes_63 (by decide) (fun hc => ?_) (fun hc => ?_)
      · replace h := ifn hc h
        refine g_iconst (v := 0) B dX10_goes_70 (by decide) ?_
        replace h := Option.some.inj h
        subst h
        exact g_sub [0] rfl k41
      · replace h := ifp hc h
        refine g_iconst (v := 1) B dX10_goes_66 (by decide) ?_
        refine g_goto B 71 dX10_goes_67 (by decide) ?_
        replace h := Option.some.inj h
        subst h
        exact g_sub [0] rfl k41
    clear h
    refine g_sub [0] rfl ?_
    refine lpS_w (I := fun q3 s12 => GW Δ Γ (0) (0) 8 [(0, va_rf v0)] [] s12) (r := r4) (σr := s28) ?_ FUEL () σ h5
    intro q3 s12 x10 s9 h hI8 hR9
    unfold fX10_goes_l1 at h
    refine g_aload_n B 0 dX10_goes_8 rfl rfl ?_
    replace h := bnP_s h
    obtain ⟨x13, h14, h⟩ := h
    refine g_getI B fl_RX10_76 (by decide) dX10_goes_9 h14 ?_
    refine g_aload_n B 0 dX10_goes_12 rfl rfl ?_
    replace h := bnP_s h
    obtain ⟨x15, h16, h⟩ := h
    refine g_getI B fl_RX10_66 (by decide) dX10_goes_13 h16 ?_
    refine g_icmp_ge B 46 dX10_goes_16 (by decide) (fun hc => ?_) (fun hc => ?_)
    · replace h := ifp hc h
      obtain ⟨w1, w2⟩ := inS h
      clear h
      subst w1
      subst w2
      obtain ⟨e8, e7⟩ := hR9 _ rfl
      subst e8
      subst e7
      exact g_sub [0] rfl kE6
    · replace h := ifn hc h
      refine g_aload_n B 0 dX10_goes_19 rfl rfl ?_
      replace h := bnP_s h
      obtain ⟨x17, h18, h⟩ := h
      refine g_getR B fl_RX10_27 (by decide) dX10_goes_20 h18 ?_
      refine g_aload_n B 0 dX10_goes_23 rfl rfl ?_
      replace h := bnP_s h
      obtain ⟨x19, h20, h⟩ := h
      refine g_getI B fl_RX10_76 (by decide) dX10_goes_24 h20 ?_
      replace h := bnP_s h
      obtain ⟨x21, h22, h⟩ := h
      refine g_bald B dX10_goes_27 h22 ?_
      refine g_bipush (v := 32) B dX10_goes_28 (by decide) ?_
      refine g_icmp_ne B 46 dX10_goes_30 (by decide) (fun hc => ?_) (fun hc => ?_)
      · replace h := ifn hc h
        obtain ⟨w1, w2⟩ := inS h
        clear h
        subst w1
        subst w2
        obtain ⟨e8, e7⟩ := hR9 _ rfl
        subst e8
        subst e7
        exact g_sub [0] rfl kE6
      · replace h := ifp hc h
        refine g_aload_n B 0 dX10_goes_33 rfl rfl ?_
        refine g_dup B dX10_goes_34 (rf_cat _) ?_
        replace h := bnP_s h
        obtain ⟨x23, h24, h⟩ := h
        refine g_getI B fl_RX10_76 (by decide) dX10_goes_35 h24 ?_
        refine g_iconst (v := 1) B dX10_goes_38 (by decide) ?_
        refine g_iadd B dX10_goes_39 ?_
        replace h := bnP_s h
        obtain ⟨s27, h26, h⟩ := h
        refine g_putI B fl_RX10_76 (by decide) dX10_goes_40 h26 ?_
        refine g_goto B 8 dX10_goes_43 (by decide) ?_
        obtain ⟨w1, w2⟩ := inS h
        clear h
        subst w1
        subst w2
        exact g_sub [0] rfl (hI8 _ rfl)
  · replace h := ifn hc h
    replace h := Option.some.inj h
    subst h
    exact g_vret B hE (Nat.zero_le _) (Nat.zero_le _) dX10_goes_7
set_option maxRecDepth 100000 in
set_option maxHeartbeats 4000000 in
theorem cX10_faultsc {l : Launch} {v0 : Option Nat} {v1 : Int32} {σ : HpT} {σ' : HpT} (h : fX10_faults v0 v1 σ = some σ') : IsK σ v0 10 ∧ Ct l yX10_faults cX10_faults 2 none 0 0 [va_rf v0, .int v1] σ (.ok none) σ' 0 0 := by
  unfold fX10_faults at h
  replace h := bnP_s h
  obtain ⟨u, hk, h⟩ := h
  replace hk := isK_s hk
  refine ⟨hk, ?_⟩
  refine ct_start mi_X10_faults.1 rfl (al_le (al_1 (rf_cat _) (al_1 rfl al_n)) (Nat.le_of_ble_eq_true rfl)) (ag_1 (rf_cat _) (ag_1 rfl ag_n)) (fun Δ Γ B hE hnm => ?_)
  refine g_aload_n B 0 dX10_faults_0 rfl rfl ?_
  replace h := bnP_s h
  obtain ⟨x1, h2, h⟩ := h
  refine g_getI B fl_RX10_73 (by decide) dX10_faults_1 h2 ?_
  refine g_if_le B 8 dX10_faults_4 (by decide) (fun hc => ?_) (fun hc => ?_)
  · replace h := ifp hc h
    refine g_aload_n B 0 dX10_faults_8 rfl rfl ?_
    refine g_iload_n B 1 dX10_faults_9 rfl rfl ?_
    replace h := bnP_s h
    obtain ⟨s5, h4, h⟩ := h
    refine g_putI B fl_RX10_73 (by decide) dX10_faults_10 h4 ?_
    refine g_aload_n B 0 dX10_faults_13 rfl rfl ?_
    refine g_aload_n B 0 dX10_faults_14 rfl rfl ?_
    replace h := bnP_s h
    obtain ⟨x6, h7, h⟩ := h
    refine g_getI B fl_RX10_79 (by decide) dX10_faults_15 h7 ?_
    replace h := bnP_s h
    obtain ⟨s10, h9, h⟩ := h
    refine g_putI B fl_RX10_99 (by decide) dX10_faults_18 h9 ?_
    replace h := Option.some.inj h
    subst h
    exact g_vret B hE (Nat.zero_le _) (Nat.zero_le _) dX10_faults_21
  · replace h := ifn hc h
    replace h := Option.some.inj h
    subst h
    exact g_vret B hE (Nat.zero_le _) (Nat.zero_le _) dX10_faults_7
set_option maxRecDepth 100000 in
set_option maxHeartbeats 4000000 in
theorem cX10_isc {l : Launch} {v0 : Option Nat} {v1 : Int32} {σ : HpT} {r : Bool} (h : fX10_is v0 v1 σ = some r) : IsK σ v0 10 ∧ Ct l yX10_is cX10_is 2 (some .boolean) 0 0 [va_rf v0, .int v1] σ (.ok (some (.int (bI r)))) σ 0 0 := by
  unfold fX10_is at h
  replace h := bnP_s h
  obtain ⟨u, hk, h⟩ := h
  replace hk := isK_s hk
  refine ⟨hk, ?_⟩
  refine ct_start mi_X10_is.1 rfl (al_le (al_1 (rf_cat _) (al_1 rfl al_n)) (Nat.le_of_ble_eq_true rfl)) (ag_1 (rf_cat _) (ag_1 rfl ag_n)) (fun Δ Γ B hE hnm => ?_)
  refine g_aload_n B 0 dX10_is_0 rfl rfl ?_
  replace h := bnP_s h
  obtain ⟨x1, h2, h⟩ := h
  refine g_getI B fl_RX10_73 (by decide) dX10_is_1 h2 ?_
  refine g_if_ne B 19 dX10_is_4 (by decide) (fun hc => ?_) (fun hc => ?_)
  · replace h := ifn hc h
    refine g_iconst (v := 0) B dX10_is_19 (by decide) ?_
    replace h := Option.some.inj h
    subst h
    exact g_zret B hE rfl (Nat.zero_le _) (Nat.zero_le _) dX10_is_20
  · replace h := ifp hc h
    refine g_aload_n B 0 dX10_is_7 rfl rfl ?_
    replace h := bnP_s h
    obtain ⟨x3, h4, h⟩ := h
    refine g_getI B fl_RX10_82 (by decide) dX10_is_8 h4 ?_
    refine g_iload_n B 1 dX10_is_11 rfl rfl ?_
    refine g_icmp_ne B 19 dX10_is_12 (by decide) (fun hc => ?_) (fun hc => ?_)
    · replace h := ifn hc h
      refine g_iconst (v := 0) B dX10_is_19 (by decide) ?_
      replace h := Option.some.inj h
      subst h
      exact g_zret B hE rfl (Nat.zero_le _) (Nat.zero_le _) dX10_is_20
    · replace h := ifp hc h
      refine g_iconst (v := 1) B dX10_is_15 (by decide) ?_
      refine g_goto B 20 dX10_is_16 (by decide) ?_
      replace h := Option.some.inj h
      subst h
      exact g_zret B hE rfl (Nat.zero_le _) (Nat.zero_le _) dX10_is_20
set_option maxRecDepth 100000 in
set_option maxHeartbeats 4000000 in
theorem cX10_isWordc {l : Launch} {v0 : Option Nat} {v1 : Option Nat} {σ : HpT} {r : Bool} (h : fX10_isWord v0 v1 σ = some r) : IsK σ v0 10 ∧ Ct l yX10_isWord cX10_isWord 3 (some .boolean) 4 85 [va_rf v0, va_rf v1] σ (.ok (some (.int (bI r)))) σ 0 0 := by
  unfold fX10_isWord at h
  replace h := bnP_s h
  obtain ⟨u, hk, h⟩ := h
  replace hk := isK_s hk
  refine ⟨hk, ?_⟩
  refine ct_start mi_X10_isWord.1 rfl (al_le (al_1 (rf_cat _) (al_1 (rf_cat _) al_n)) (Nat.le_of_ble_eq_true rfl)) (ag_1 (rf_cat _) (ag_1 (rf_cat _) ag_n)) (fun Δ Γ B hE hnm => ?_)
  refine g_aload_n B 0 dX10_isWord_0 rfl rfl ?_
  refine g_iconst (v := 2) B dX10_isWord_1 (by decide) ?_
  replace h := bnP_s h
  obtain ⟨x1, h2, h⟩ := h
  refine g_callVs0 (st := []) B (cX10_isc h2) (Nat.le_of_ble_eq_true rfl) rfl rfl mi_X10_is lk_RX10_102 ⟨Nat.le_of_ble_eq_true rfl, Nat.le_of_ble_eq_true rfl⟩ rfl rfl (Nat.le_of_ble_eq_true rfl) dX10_isWord_2 (Nat.zero_le _) (Nat.zero_le _) ?_
  refine g_if_eq B 24 dX10_isWord_5 (by decide) (fun hc => ?_) (fun hc => ?_)
  · replace h := ifn (bI0 hc) h
    refine g_iconst (v := 0) B dX10_isWord_24 (by decide) ?_
    replace h := Option.some.inj h
    subst h
    exact g_zret B hE rfl (Nat.zero_le _) (Nat.zero_le _) dX10_isWord_25
  · replace h := ifp (bI1 hc) h
    refine g_aload_n B 0 dX10_isWord_8 rfl rfl ?_
    replace h := bnP_s h
    obtain ⟨x3, h4, h⟩ := h
    refine g_getI B fl_RX10_76 (by decide) dX10_isWord_9 h4 ?_
    refine g_aload_n B 0 dX10_isWord_12 rfl rfl ?_
    replace h := bnP_s h
    obtain ⟨x5, h6, h⟩ := h
    refine g_getI B fl_RX10_79 (by decide) dX10_isWord_13 h6 ?_
    refine g_isub B dX10_isWord_16 ?_
    refine g_aload_n B 1 dX10_isWord_17 rfl rfl ?_
    replace h := bnP_s h
    obtain ⟨x7, h8, h⟩ := h
    refine g_callQs0 (st := [.int (x3 - x5)]) B (cJ0_length_8abf5c h8) rfl mi_J0_length_8abf5 lk_RX10_105 ⟨Nat.le_of_ble_eq_true rfl, Nat.le_of_ble_eq_true rfl⟩ rfl rfl (Nat.le_of_ble_eq_true rfl) dX10_isWord_18 (Nat.zero_le _) (Nat.zero_le _) ?_
    refine g_icmp_eq B 26 dX10_isWord_21 (by decide) (fun hc => ?_) (fun hc => ?_)
    · replace h := ifp hc h
      refine g_iconst (v := 0) B dX10_isWord_26 (by decide) ?_
      refine g_istore_n B dX10_isWord_27 rfl (Nat.le_of_ble_eq_true rfl) (s1_c (f1_k rfl (f1_1 rfl (rf_cat _) f1_n))) ?_
      replace h := bnP_s h
      obtain ⟨r10, h11, h⟩ := h
      have kE12 : ∀ y28, r10 = .inl y28 → GW Δ Γ (0) (0) 63 [] [] σ := by
        intro y28 er
        subst er
        dsimp only at h
        refine g_iconst (v := 1) B dX10_isWord_63 (by decide) ?_
        replace h := Option.some.inj h
        subst h
        exact g_zret B hE rfl (Nat.zero_le _) (Nat.zero_le _) dX10_isWord_64
      have kR13 : ∀ vv, r10 = .inr vv → En Δ Γ (.ok (some (.int (bI vv)))) σ 0 0 (some .boolean) ∧ 0 ≤ 0 ∧ 0 ≤ 0 := by
        intro vv er
        subst er
        dsimp only at h
        replace h := Option.some.inj h
        subst h
        exact ⟨hE, Nat.zero_le _, Nat.zero_le _⟩
      clear h
      refine g_sub [1, 2, 0] rfl ?_
      refine lpP_w (I := fun q9 => GW Δ Γ (0) (0) 28 [(0, va_rf v0), (1, va_rf v1), (2, .int q9)] [] σ) (r := r10) ?_ FUEL 0 h11
      intro q9 x16 h hI14 hR15
      unfold fX10_isWord_l1 at h
      refine g_iload_n B 2 dX10_isWord_28 rfl rfl ?_
      refine g_aload_n B 1 dX10_isWord_29 rfl rfl ?_
      replace h := bnP_s h
      obtain ⟨x18, h19, h⟩ := h
      refine g_callQs0 (st := [.int q9]) B (cJ0_length_8abf5c h19) rfl mi_J0_length_8abf5 lk_RX10_105 ⟨Nat.le_of_ble_eq_true rfl, Nat.le_of_ble_eq_true rfl⟩ rfl rfl (Nat.le_of_ble_eq_true rfl) dX10_isWord_30 (Nat.zero_le _) (Nat.zero_le _) ?_
      refine g_icmp_ge B 63 dX10_isWord_33 (by decide) (fun hc => ?_) (fun hc => ?_)
      · replace h := ifp hc h
        replace h := Option.some.inj h
        subst h
        have e8 := hR15 _ rfl
        subst e8
        exact g_sub [] rfl (kE12 _ rfl)
      · replace h := ifn hc h
        refine g_aload_n B 0 dX10_isWord_36 rfl rfl ?_
        replace h := bnP_s h
        obtain ⟨x20, h21, h⟩ := h
        refine g_getR B fl_RX10_27 (by decide) dX10_isWord_37 h21 ?_
        refine g_aload_n B 0 dX10_isWord_40 rfl rfl ?_
        replace h := bnP_s h
        obtain ⟨x22, h23, h⟩ := h
        refine g_getI B fl_RX10_79 (by decide) dX10_isWord_41 h23 ?_
        refine g_iload_n B 2 dX10_isWord_44 rfl rfl ?_
        refine g_iadd B dX10_isWord_45 ?_
        replace h := bnP_s h
        obtain ⟨x24, h25, h⟩ := h
        refine g_bald B dX10_isWord_46 h25 ?_
        refine g_aload_n B 1 dX10_isWord_47 rfl rfl ?_
        refine g_iload_n B 2 dX10_isWord_48 rfl rfl ?_
        replace h := bnP_s h
        obtain ⟨x26, h27, h⟩ := h
        refine g_callQs0 (st := [.int x24]) B (cJ0_charAt_5068ec h27) rfl mi_J0_charAt_5068e lk_RX10_111 ⟨Nat.le_of_ble_eq_true rfl, Nat.le_of_ble_eq_true rfl⟩ rfl rfl (Nat.le_of_ble_eq_true rfl) dX10_isWord_49 (Nat.zero_le _) (Nat.zero_le _) ?_
        refine g_icmp_eq B 57 dX10_isWord_52 (by decide) (fun hc => ?_) (fun hc => ?_)
        · replace h := ifp hc h
          refine g_iinc (v := (q9 + 1)) B 2 dX10_isWord_57 rfl (by first | rfl | (congr 1; decide)) (Nat.le_of_ble_eq_true rfl) (s1_c (f1_k rfl (f1_1 rfl (rf_cat _) (f1_x f1_n)))) ?_
          refine g_goto B 28 dX10_isWord_60 (by decide) ?_
          replace h := Option.some.inj h
          subst h
          exact g_sub [1, 2, 0] rfl (hI14 _ rfl)
        · replace h := ifn hc h
          refine g_iconst (v := 0) B dX10_isWord_55 (by decide) ?_
          replace h := Option.some.inj h
          subst h
          have e8 := hR15 _ rfl
          obtain ⟨hE, hc9, hs9⟩ := kR13 _ e8.symm
          exact g_zret B hE rfl hc9 hs9 dX10_isWord_56
    · replace h := ifn hc h
      refine g_iconst (v := 0) B dX10_isWord_24 (by decide) ?_
      replace h := Option.some.inj h
      subst h
      exact g_zret B hE rfl (Nat.zero_le _) (Nat.zero_le _) dX10_isWord_25
set_option maxRecDepth 100000 in
set_option maxHeartbeats 4000000 in
theorem cX10_numberHerec {l : Launch} {v0 : Option Nat} {v1 : Int32} {v2 : Int32} {σ : HpT} {r : Int32} {σ' : HpT} (h : fX10_numberHere v0 v1 v2 σ = some (r, σ')) : IsK σ v0 10 ∧ Ct l yX10_numberHere cX10_numberHere 3 (some .int) 1 22 [va_rf v0, .int v1, .int v2] σ (.ok (some (.int r))) σ' 0 0 := by
  unfold fX10_numberHere at h
  replace h := bnP_s h
  obtain ⟨u, hk, h⟩ := h
  replace hk := isK_s hk
  refine ⟨hk, ?_⟩
  refine ct_start mi_X10_numberHere.1 rfl (al_le (al_1 (rf_cat _) (al_1 rfl (al_1 rfl al_n))) (Nat.le_of_ble_eq_true rfl)) (ag_1 (rf_cat _) (ag_1 rfl (ag_1 rfl ag_n))) (fun Δ Γ B hE hnm => ?_)
  refine g_aload_n B 0 dX10_numberHere_0 rfl rfl ?_
  refine g_iconst (v := 3) B dX10_numberHere_1 (by decide) ?_
  replace h := bnP_s h
  obtain ⟨x1, h2, h⟩ := h
  refine g_callVs0 (st := []) B (cX10_isc h2) (Nat.le_of_ble_eq_true rfl) rfl rfl mi_X10_is lk_RX10_102 ⟨Nat.le_of_ble_eq_true rfl, Nat.le_of_ble_eq_true rfl⟩ rfl rfl (Nat.le_of_ble_eq_true rfl) dX10_numberHere_2 (Nat.zero_le _) (Nat.zero_le _) ?_
  replace h := bnS_s h
  obtain ⟨j3, s18, h4, h⟩ := h
  have k6 : GW Δ Γ (0) (0) 33 [(0, va_rf v0), (1, .int v1)] [] s18 := by
    refine g_aload_n B 0 dX10_numberHere_33 rfl rfl ?_
    replace h := bnP_s h
    obtain ⟨x19, h20, h⟩ := h
    refine g_getI B fl_RX10_73 (by decide) dX10_numberHere_34 h20 ?_
    refine g_if_le B 44 dX10_numberHere_37 (by decide) (fun hc => ?_) (fun hc => ?_)
    · replace h := ifp hc h
      refine g_aload_n B 0 dX10_numberHere_44 rfl rfl ?_
      replace h := bnP_s h
      obtain ⟨x21, h22, h⟩ := h
      refine g_getI B fl_RX10_92 (by decide) dX10_numberHere_45 h22 ?_
      obtain ⟨w1, w2⟩ := inS h
      clear h
      subst w1
      subst w2
      exact g_iret B hE (Nat.zero_le _) (Nat.zero_le _) dX10_numberHere_48
    · replace h := ifn hc h
      refine g_iload_n B 1 dX10_numberHere_40 rfl rfl ?_
      refine g_goto B 48 dX10_numberHere_41 (by decide) ?_
      obtain ⟨w1, w2⟩ := inS h
      clear h
      subst w1
      subst w2
      exact g_iret B hE (Nat.zero_le _) (Nat.zero_le _) dX10_numberHere_48
  clear h
  have h := h4
  clear h4
  refine g_if_ne B 16 dX10_numberHere_5 (by decide) (fun hc => ?_) (fun hc => ?_)
  · replace h := ifp (bI1 hc) h
    refine g_aload_n B 0 dX10_numberHere_16 rfl rfl ?_
    replace h := bnP_s h
    obtain ⟨x8, h9, h⟩ := h
    refine g_getI B fl_RX10_92 (by decide) dX10_numberHere_17 h9 ?_
    refine g_iload_n B 1 dX10_numberHere_20 rfl rfl ?_
    refine g_iload_n B 2 dX10_numberHere_21 rfl rfl ?_
    replace h := bnP_s h
    obtain ⟨x10, h11, h⟩ := h
    refine g_callSs0 (st := []) B (cX10_inc h11) mi_X10_in lk_RX10_69 ⟨Nat.le_of_ble_eq_true rfl, Nat.le_of_ble_eq_true rfl⟩ rfl rfl (Nat.le_of_ble_eq_true rfl) dX10_numberHere_22 (Nat.zero_le _) (Nat.zero_le _) ?_
    refine g_if_ne B 33 dX10_numberHere_25 (by decide) (fun hc => ?_) (fun hc => ?_)
    · replace h := ifp (bI1 hc) h
      obtain ⟨w1, w2⟩ := inS h
      clear h
      subst w1
      subst w2
      exact g_sub [0, 1] rfl k6
    · replace h := ifn (bI0 hc) h
      refine g_aload_n B 0 dX10_numberHere_28 rfl rfl ?_
      refine g_iconst (v := 2) B dX10_numberHere_29 (by decide) ?_
      replace h := bnP_s h
      obtain ⟨s14, h13, h⟩ := h
      refine g_callVv0 (st := []) B (cX10_faultsc h13) (Nat.le_of_ble_eq_true rfl) rfl rfl mi_X10_faults lk_RX10_115 ⟨Nat.le_of_ble_eq_true rfl, Nat.le_of_ble_eq_true rfl⟩ rfl rfl (Nat.le_of_ble_eq_true rfl) dX10_numberHere_30 (Nat.zero_le _) (Nat.zero_le _) ?_
      obtain ⟨w1, w2⟩ := inS h
      clear h
      subst w1
      subst w2
      exact g_sub [0, 1] rfl k6
  · replace h := ifn (bI0 hc) h
    refine g_aload_n B 0 dX10_numberHere_8 rfl rfl ?_
    refine g_iconst (v := 1) B dX10_numberHere_9 (by decide) ?_
    replace h := bnP_s h
    obtain ⟨s17, h16, h⟩ := h
    refine g_callVv0 (st := []) B (cX10_faultsc h16) (Nat.le_of_ble_eq_true rfl) rfl rfl mi_X10_faults lk_RX10_115 ⟨Nat.le_of_ble_eq_true rfl, Nat.le_of_ble_eq_true rfl⟩ rfl rfl (Nat.le_of_ble_eq_true rfl) dX10_numberHere_10 (Nat.zero_le _) (Nat.zero_le _) ?_
    refine g_goto B 33 dX10_numberHere_13 (by decide) ?_
    obtain ⟨w1, w2⟩ := inS h
    clear h
    subst w1
    subst w2
    exact g_sub [0, 1] rfl k6
set_option maxRecDepth 100000 in
set_option maxHeartbeats 4000000 in
theorem cX10_numberc {l : Launch} {v0 : Option Nat} {v1 : Int32} {v2 : Int32} {σ : HpT} {r : Int32} {σ' : HpT} (h : fX10_number v0 v1 v2 σ = some (r, σ')) : IsK σ v0 10 ∧ Ct l yX10_number cX10_number 4 (some .int) 3 63 [va_rf v0, .int v1, .int v2] σ (.ok (some (.int r))) σ' 0 0 := by
  unfold fX10_number at h
  replace h := bnP_s h
  obtain ⟨u, hk, h⟩ := h
  replace hk := isK_s hk
  refine ⟨hk, ?_⟩
  refine ct_start mi_X10_number.1 rfl (al_le (al_1 (rf_cat _) (al_1 rfl (al_1 rfl al_n))) (Nat.le_of_ble_eq_true rfl)) (ag_1 (rf_cat _) (ag_1 rfl (ag_1 rfl ag_n))) (fun Δ Γ B hE hnm => ?_)
  refine g_aload_n B 0 dX10_number_0 rfl rfl ?_
  refine g_iload_n B 1 dX10_number_1 rfl rfl ?_
  refine g_iload_n B 2 dX10_number_2 rfl rfl ?_
  replace h := bnS_s h
  obtain ⟨x1, s3, h2, h⟩ := h
  refine g_callVs0 (st := []) B (cX10_numberHerec h2) (Nat.le_of_ble_eq_true rfl) rfl rfl mi_X10_numberHere lk_RX10_118 ⟨Nat.le_of_ble_eq_true rfl, Nat.le_of_ble_eq_true rfl⟩ rfl rfl (Nat.le_of_ble_eq_true rfl) dX10_number_3 (Nat.zero_le _) (Nat.zero_le _) ?_
  refine g_istore_n B dX10_number_6 rfl (Nat.le_of_ble_eq_true rfl) (s1_c (f1_k rfl (f1_k rfl (f1_1 rfl rfl f1_n)))) ?_
  refine g_aload_n B 1 dX10_number_7 rfl rfl ?_
  replace h := bnP_s h
  obtain ⟨s6, h5, h⟩ := h
  refine g_callVv0 (st := []) B (cX10_goesc h5) (Nat.le_of_ble_eq_true rfl) rfl rfl mi_X10_goes lk_RX10_122 ⟨Nat.le_of_ble_eq_true rfl, Nat.le_of_ble_eq_true rfl⟩ rfl rfl (Nat.le_of_ble_eq_true rfl) dX10_number_8 (Nat.zero_le _) (Nat.zero_le _) ?_
  refine g_iload_n B 0 dX10_number_11 rfl rfl ?_
  obtain ⟨w1, w2⟩ := inS h
  clear h
  subst w1
  subst w2
  exact g_iret B hE (Nat.zero_le _) (Nat.zero_le _) dX10_number_12
set_option maxRecDepth 100000 in
set_option maxHeartbeats 4000000 in
theorem cX10_beginsc {l : Launch} {v0 : Option Nat} {v1 : Int32} {σ : HpT} {σ' : HpT} (h : fX10_begins v0 v1 σ = some σ') : IsK σ v0 10 ∧ Ct l yX10_begins cX10_begins 2 none 0 0 [va_rf v0, .int v1] σ (.ok none) σ' 0 0 := by
  unfold fX10_begins at h
  replace h := bnP_s h
  obtain ⟨u, hk, h⟩ := h
  replace hk := isK_s hk
  refine ⟨hk, ?_⟩
  refine ct_start mi_X10_begins.1 rfl (al_le (al_1 (rf_cat _) (al_1 rfl al_n)) (Nat.le_of_ble_eq_true rfl)) (ag_1 (rf_cat _) (ag_1 rfl ag_n)) (fun Δ Γ B hE hnm => ?_)
  refine g_aload_n B 0 dX10_begins_0 rfl rfl ?_
  refine g_iload_n B 1 dX10_begins_1 rfl rfl ?_
  replace h := bnP_s h
  obtain ⟨s3, h2, h⟩ := h
  refine g_putI B fl_RX10_66 (by decide) dX10_begins_2 h2 ?_
  refine g_aload_n B 0 dX10_begins_5 rfl rfl ?_
  refine g_iconst (v := 0) B dX10_begins_6 (by decide) ?_
  replace h := bnP_s h
  obtain ⟨s6, h5, h⟩ := h
  refine g_putI B fl_RX10_76 (by decide) dX10_begins_7 h5 ?_
  refine g_aload_n B 0 dX10_begins_10 rfl rfl ?_
  refine g_iconst (v := 0) B dX10_begins_11 (by decide) ?_
  replace h := bnP_s h
  obtain ⟨s9, h8, h⟩ := h
  refine g_putI B fl_RX10_73 (by decide) dX10_begins_12 h8 ?_
  refine g_aload_n B 0 dX10_begins_15 rfl rfl ?_
  refine g_iconst (v := (-1)) B dX10_begins_16 (by decide) ?_
  replace h := bnP_s h
  obtain ⟨s12, h11, h⟩ := h
  refine g_putI B fl_RX10_99 (by decide) dX10_begins_17 h11 ?_
  replace h := Option.some.inj h
  subst h
  exact g_vret B hE (Nat.zero_le _) (Nat.zero_le _) dX10_begins_20
set_option maxRecDepth 100000 in
set_option maxHeartbeats 4000000 in
theorem cX10_valueOfc {l : Launch} {v0 : Int32} {σ : HpT} {r : Int32} (h : fX10_valueOf v0 σ = some r) : Ct l yX10_valueOf cX10_valueOf 1 (some .int) 0 0 [.int v0] σ (.ok (some (.int r))) σ 0 0 := by
  unfold fX10_valueOf at h
  refine ct_start mi_X10_valueOf.1 rfl (al_le (al_1 rfl al_n) (Nat.le_of_ble_eq_true rfl)) (ag_1 rfl ag_n) (fun Δ Γ B hE hnm => ?_)
  refine g_iload_n B 0 dX10_valueOf_0 rfl rfl ?_
  refine g_bipush (v := 97) B dX10_valueOf_1 (by decide) ?_
  refine g_isub B dX10_valueOf_3 ?_
  refine g_iconst (v := 1) B dX10_valueOf_4 (by decide) ?_
  refine g_iadd B dX10_valueOf_5 ?_
  replace h := Option.some.inj h
  subst h
  exact g_iret B hE (Nat.zero_le _) (Nat.zero_le _) dX10_valueOf_6
set_option maxRecDepth 100000 in
set_option maxHeartbeats 4000000 in
theorem cX10_partOfc {l : Launch} {v0 : Option Nat} {v1 : Int32} {v2 : Int32} {v3 : Int32} {σ : HpT} {r : Int32} (h : fX10_partOf v0 v1 v2 v3 σ = some r) : IsK σ v0 10 ∧ Ct l yX10_partOf cX10_partOf 6 (some .int) 1 20 [va_rf v0, .int v1, .int v2, .int v3] σ (.ok (some (.int r))) σ 0 0 := by
  unfold fX10_partOf at h
  replace h := bnP_s h
  obtain ⟨u, hk, h⟩ := h
  replace hk := isK_s hk
  refine ⟨hk, ?_⟩
  refine ct_start mi_X10_partOf.1 rfl (al_le (al_1 (rf_cat _) (al_1 rfl (al_1 rfl (al_1 rfl al_n)))) (Nat.le_of_ble_eq_true rfl)) (ag_1 (rf_cat _) (ag_1 rfl (ag_1 rfl (ag_1 rfl ag_n)))) (fun Δ Γ B hE hnm => ?_)
  refine g_iconst (v := 0) B dX10_partOf_0 (by decide) ?_
  refine g_istore B dX10_partOf_1 (Nat.le_of_ble_eq_true rfl) (s1_c (f1_k rfl (f1_k rfl (f1_k rfl (f1_1 rfl rfl f1_n))))) ?_
  refine g_iconst (v := 3) B dX10_partOf_3 (by decide) ?_
  refine g_istore B dX10_partOf_4 (Nat.le_of_ble_eq_true rfl) (s1_c (f1_1 rfl rfl (f1_k rfl (f1_k rfl (f1_k rfl (f1_k rfl f1_n)))))) ?_
  replace h := bnP_s h
  obtain ⟨r2, h3, h⟩ := h
  have kE4 : GW Δ Γ (0) (0) 55 [(4, .int r2)] [] σ := by
    refine g_iload B 0 dX10_partOf_55 rfl ?_
    replace h := Option.some.inj h
    subst h
    exact g_iret B hE (Nat.zero_le _) (Nat.zero_le _) dX10_partOf_57
  clear h
  refine g_sub [2, 3, 4, 5, 1, 0] rfl ?_
  refine lpP_w (I := fun q1 => GW Δ Γ (0) (0) 6 [(0, va_rf v0), (1, .int v1), (2, .int v2), (3, .int v3), (4, .int q1.1), (5, .int q1.2)] [] σ) (r := r2) ?_ FUEL (0, 3) h3
  intro q1 x8 h hI6 hR7
  unfold fX10_partOf_l1 at h
  refine g_iload B 5 dX10_partOf_6 rfl ?_
  refine g_if_lt B 55 dX10_partOf_8 (by decide) (fun hc => ?_) (fun hc => ?_)
  · replace h := ifp hc h
    replace h := Option.some.inj h
    subst h
    have e8 := hR7 _ rfl
    subst e8
    exact g_sub [4] rfl kE4
  · replace h := ifn hc h
    refine g_bipush (v := 32) B dX10_partOf_11 (by decide) ?_
    refine g_iload B 4 dX10_partOf_13 rfl ?_
    refine g_imul B dX10_partOf_15 ?_
    refine g_iconst (v := 4) B dX10_partOf_16 (by decide) ?_
    refine g_iload_n B 3 dX10_partOf_17 rfl rfl ?_
    refine g_imul B dX10_partOf_18 ?_
    refine g_iload B 5 dX10_partOf_19 rfl ?_
    refine g_iadd B dX10_partOf_21 ?_
    refine g_iload_n B 2 dX10_partOf_22 rfl rfl ?_
    refine g_icmp_ge B 45 dX10_partOf_23 (by decide) (fun hc => ?_) (fun hc => ?_)
    · replace h := ifp hc h
      refine g_iconst (v := 0) B dX10_partOf_45 (by decide) ?_
      refine g_iadd B dX10_partOf_46 ?_
      refine g_istore B dX10_partOf_47 (Nat.le_of_ble_eq_true rfl) (s1_c (f1_k rfl (f1_k rfl (f1_k rfl (f1_1 rfl rfl (f1_x (f1_k rfl f1_n))))))) ?_
      refine g_iinc (v := (q1.2 + (-1))) B 5 dX10_partOf_49 rfl (by first | rfl | (congr 1; decide)) (Nat.le_of_ble_eq_true rfl) (s1_c (f1_1 rfl rfl (f1_k rfl (f1_k rfl (f1_k rfl (f1_k rfl (f1_x f1_n))))))) ?_
      refine g_goto B 6 dX10_partOf_52 (by decide) ?_
      replace h := Option.some.inj h
      subst h
      exact g_sub [2, 3, 4, 5, 1, 0] rfl (hI6 _ rfl)
    · replace h := ifn hc h
      refine g_aload_n B 0 dX10_partOf_26 rfl rfl ?_
      replace h := bnP_s h
      obtain ⟨x10, h11, h⟩ := h
      refine g_getR B fl_RX10_27 (by decide) dX10_partOf_27 h11 ?_
      refine g_iload_n B 1 dX10_partOf_30 rfl rfl ?_
      refine g_iconst (v := 4) B dX10_partOf_31 (by decide) ?_
      refine g_iload_n B 3 dX10_partOf_32 rfl rfl ?_
      refine g_imul B dX10_partOf_33 ?_
      refine g_iadd B dX10_partOf_34 ?_
      refine g_iload B 5 dX10_partOf_35 rfl ?_
      refine g_iadd B dX10_partOf_37 ?_
      replace h := bnP_s h
      obtain ⟨x12, h13, h⟩ := h
      refine g_bald B dX10_partOf_38 h13 ?_
      replace h := bnP_s h
      obtain ⟨x14, h15, h⟩ := h
      refine g_callSs0 (st := [.int (32 * q1.1)]) B (cX10_valueOfc h15) mi_X10_valueOf lk_RX10_125 ⟨Nat.le_of_ble_eq_true rfl, Nat.le_of_ble_eq_true rfl⟩ rfl rfl (Nat.le_of_ble_eq_true rfl) dX10_partOf_39 (Nat.zero_le _) (Nat.zero_le _) ?_
      refine g_goto B 46 dX10_partOf_42 (by decide) ?_
      refine g_iadd B dX10_partOf_46 ?_
      refine g_istore B dX10_partOf_47 (Nat.le_of_ble_eq_true rfl) (s1_c (f1_k rfl (f1_k rfl (f1_k rfl (f1_1 rfl rfl (f1_x (f1_k rfl f1_n))))))) ?_
      refine g_iinc (v := (q1.2 + (-1))) B 5 dX10_partOf_49 rfl (by first | rfl | (congr 1; decide)) (Nat.le_of_ble_eq_true rfl) (s1_c (f1_1 rfl rfl (f1_k rfl (f1_k rfl (f1_k rfl (f1_k rfl (f1_x f1_n))))))) ?_
      refine g_goto B 6 dX10_partOf_52 (by decide) ?_
      replace h := Option.some.inj h
      subst h
      exact g_sub [2, 3, 4, 5, 1, 0] rfl (hI6 _ rfl)
set_option maxRecDepth 100000 in
set_option maxHeartbeats 4000000 in
theorem cX10_letterOfc {l : Launch} {v0 : Int32} {v1 : Int32} {v2 : Int32} {σ : HpT} {r : Int32} (h : fX10_letterOf v0 v1 v2 σ = some r) : Ct l yX10_letterOf cX10_letterOf 4 (some .int) 1 22 [.int v0, .int v1, .int v2] σ (.ok (some (.int r))) σ 0 0 := by
  unfold fX10_letterOf at h
  refine ct_start mi_X10_letterOf.1 rfl (al_le (al_1 rfl (al_1 rfl (al_1 rfl al_n))) (Nat.le_of_ble_eq_true rfl)) (ag_1 rfl (ag_1 rfl (ag_1 rfl ag_n))) (fun Δ Γ B hE hnm => ?_)
  refine g_iload_n B 2 dX10_letterOf_0 rfl rfl ?_
  refine g_iconst (v := 0) B dX10_letterOf_1 (by decide) ?_
  refine g_bipush (v := 7) B dX10_letterOf_2 (by decide) ?_
  replace h := bnP_s h
  obtain ⟨x1, h2, h⟩ := h
  refine g_callSs0 (st := []) B (cX10_inc h2) mi_X10_in lk_RX10_69 ⟨Nat.le_of_ble_eq_true rfl, Nat.le_of_ble_eq_true rfl⟩ rfl rfl (Nat.le_of_ble_eq_true rfl) dX10_letterOf_4 (Nat.zero_le _) (Nat.zero_le _) ?_
  refine g_if_ne B 12 dX10_letterOf_7 (by decide) (fun hc => ?_) (fun hc => ?_)
  · replace h := ifp (bI1 hc) h
    refine g_iload_n B 2 dX10_letterOf_12 rfl rfl ?_
    refine g_iconst (v := 4) B dX10_letterOf_13 (by decide) ?_
    replace h := bnP_s h
    obtain ⟨j3, h4, h⟩ := h
    have k6 : GW Δ Γ (0) (0) 32 [] [.int j3] σ := by
      refine g_bipush (v := 31) B dX10_letterOf_32 (by decide) ?_
      refine g_iand B dX10_letterOf_34 ?_
      refine g_istore_n B dX10_letterOf_35 rfl (Nat.le_of_ble_eq_true rfl) (s1_c f1_n) ?_
      refine g_iload_n B 0 dX10_letterOf_36 rfl rfl ?_
      refine g_if_ne B 44 dX10_letterOf_37 (by decide) (fun hc => ?_) (fun hc => ?_)
      · replace h := ifn hc h
        refine g_bipush (v := 97) B dX10_letterOf_44 (by decide) ?_
        refine g_iload_n B 0 dX10_letterOf_46 rfl rfl ?_
        refine g_iadd B dX10_letterOf_47 ?_
        refine g_iconst (v := 1) B dX10_letterOf_48 (by decide) ?_
        refine g_isub B dX10_letterOf_49 ?_
        replace h := Option.some.inj h
        subst h
        exact g_iret B hE (Nat.zero_le _) (Nat.zero_le _) dX10_letterOf_50
      · replace h := ifp hc h
        refine g_iconst (v := (-1)) B dX10_letterOf_40 (by decide) ?_
        refine g_goto B 50 dX10_letterOf_41 (by decide) ?_
        replace h := Option.some.inj h
        subst h
        exact g_iret B hE (Nat.zero_le _) (Nat.zero_le _) dX10_letterOf_50
    clear h
    have h := h4
    clear h4
    refine g_icmp_ge B 25 dX10_letterOf_14 (by decide) (fun hc => ?_) (fun hc => ?_)
    · replace h := ifp hc h
      refine g_iload_n B 1 dX10_letterOf_25 rfl rfl ?_
      refine g_iconst (v := 5) B dX10_letterOf_26 (by decide) ?_
      refine g_iload_n B 2 dX10_letterOf_27 rfl rfl ?_
      refine g_iconst (v := 4) B dX10_letterOf_28 (by decide) ?_
      refine g_isub B dX10_letterOf_29 ?_
      refine g_imul B dX10_letterOf_30 ?_
      refine g_ishr B dX10_letterOf_31 ?_
      replace h := Option.some.inj h
      subst h
      exact g_sub [] rfl k6
    · replace h := ifn hc h
      refine g_iload_n B 0 dX10_letterOf_17 rfl rfl ?_
      refine g_iconst (v := 5) B dX10_letterOf_18 (by decide) ?_
      refine g_iload_n B 2 dX10_letterOf_19 rfl rfl ?_
      refine g_imul B dX10_letterOf_20 ?_
      refine g_ishr B dX10_letterOf_21 ?_
      refine g_goto B 32 dX10_letterOf_22 (by decide) ?_
      replace h := Option.some.inj h
      subst h
      exact g_sub [] rfl k6
  · replace h := ifn (bI0 hc) h
    refine g_iconst (v := (-1)) B dX10_letterOf_10 (by decide) ?_
    replace h := Option.some.inj h
    subst h
    exact g_iret B hE (Nat.zero_le _) (Nat.zero_le _) dX10_letterOf_11
set_option maxRecDepth 100000 in
set_option maxHeartbeats 4000000 in
theorem cX10_lengthOfc {l : Launch} {v0 : Int32} {v1 : Int32} {σ : HpT} {r : Int32} (h : fX10_lengthOf v0 v1 σ = some r) : Ct l yX10_lengthOf cX10_lengthOf 3 (some .int) 2 45 [.int v0, .int v1] σ (.ok (some (.int r))) σ 0 0 := by
  unfold fX10_lengthOf at h
  refine ct_start mi_X10_lengthOf.1 rfl (al_le (al_1 rfl (al_1 rfl al_n)) (Nat.le_of_ble_eq_true rfl)) (ag_1 rfl (ag_1 rfl ag_n)) (fun Δ Γ B hE hnm => ?_)
  refine g_iconst (v := 0) B dX10_lengthOf_0 (by decide) ?_
  refine g_istore_n B dX10_lengthOf_1 rfl (Nat.le_of_ble_eq_true rfl) (s1_c (f1_k rfl (f1_1 rfl rfl f1_n))) ?_
  replace h := bnP_s h
  obtain ⟨r2, h3, h⟩ := h
  have kE4 : GW Δ Γ (0) (0) 18 [(2, .int r2)] [] σ := by
    refine g_iload_n B 0 dX10_lengthOf_18 rfl rfl ?_
    replace h := Option.some.inj h
    subst h
    exact g_iret B hE (Nat.zero_le _) (Nat.zero_le _) dX10_lengthOf_19
  clear h
  refine g_sub [1, 2, 0] rfl ?_
  refine lpP_w (I := fun q1 => GW Δ Γ (0) (0) 2 [(0, .int v0), (1, .int v1), (2, .int q1)] [] σ) (r := r2) ?_ FUEL 0 h3
  intro q1 x8 h hI6 hR7
  unfold fX10_lengthOf_l1 at h
  refine g_iload_n B 0 dX10_lengthOf_2 rfl rfl ?_
  refine g_iload_n B 1 dX10_lengthOf_3 rfl rfl ?_
  refine g_iload_n B 2 dX10_lengthOf_4 rfl rfl ?_
  replace h := bnP_s h
  obtain ⟨x10, h11, h⟩ := h
  refine g_callSs0 (st := []) B (cX10_letterOfc h11) mi_X10_letterOf lk_RX10_128 ⟨Nat.le_of_ble_eq_true rfl, Nat.le_of_ble_eq_true rfl⟩ rfl rfl (Nat.le_of_ble_eq_true rfl) dX10_lengthOf_5 (Nat.zero_le _) (Nat.zero_le _) ?_
  refine g_iconst (v := (-1)) B dX10_lengthOf_8 (by decide) ?_
  refine g_icmp_eq B 18 dX10_lengthOf_9 (by decide) (fun hc => ?_) (fun hc => ?_)
  · replace h := ifp hc h
    replace h := Option.some.inj h
    subst h
    have e8 := hR7 _ rfl
    subst e8
    exact g_sub [2] rfl kE4
  · replace h := ifn hc h
    refine g_iinc (v := (q1 + 1)) B 2 dX10_lengthOf_12 rfl (by first | rfl | (congr 1; decide)) (Nat.le_of_ble_eq_true rfl) (s1_c (f1_k rfl (f1_1 rfl rfl (f1_x f1_n)))) ?_
    refine g_goto B 2 dX10_lengthOf_15 (by decide) ?_
    replace h := Option.some.inj h
    subst h
    exact g_sub [1, 2, 0] rfl (hI6 _ rfl)
set_option maxRecDepth 100000 in
set_option maxHeartbeats 4000000 in
theorem cX10_ofActc {l : Launch} {v0 : Option Nat} {v1 : Int32} {v2 : Int32} {σ : HpT} {r : Int32} (h : fX10_ofAct v0 v1 v2 σ = some r) : IsK σ v0 10 ∧ Ct l yX10_ofAct cX10_ofAct 3 (some .int) 0 0 [va_rf v0, .int v1, .int v2] σ (.ok (some (.int r))) σ 0 0 := by
  unfold fX10_ofAct at h
  replace h := bnP_s h
  obtain ⟨u, hk, h⟩ := h
  replace hk := isK_s hk
  refine ⟨hk, ?_⟩
  refine ct_start mi_X10_ofAct.1 rfl (al_le (al_1 (rf_cat _) (al_1 rfl (al_1 rfl al_n))) (Nat.le_of_ble_eq_true rfl)) (ag_1 (rf_cat _) (ag_1 rfl (ag_1 rfl ag_n))) (fun Δ Γ B hE hnm => ?_)
  refine g_aload_n B 0 dX10_ofAct_0 rfl rfl ?_
  replace h := bnP_s h
  obtain ⟨x1, h2, h⟩ := h
  refine g_getR B fl_RX10_9 (by decide) dX10_ofAct_1 h2 ?_
  refine g_bipush (v := 9) B dX10_ofAct_4 (by decide) ?_
  refine g_bipush (v := 9) B dX10_ofAct_6 (by decide) ?_
  refine g_iload_n B 1 dX10_ofAct_8 rfl rfl ?_
  refine g_imul B dX10_ofAct_9 ?_
  refine g_iadd B dX10_ofAct_10 ?_
  refine g_iload_n B 2 dX10_ofAct_11 rfl rfl ?_
  refine g_iadd B dX10_ofAct_12 ?_
  replace h := bnP_s h
  obtain ⟨x3, h4, h⟩ := h
  refine g_iald B dX10_ofAct_13 h4 ?_
  replace h := Option.some.inj h
  subst h
  exact g_iret B hE (Nat.zero_le _) (Nat.zero_le _) dX10_ofAct_14
set_option maxRecDepth 100000 in
set_option maxHeartbeats 4000000 in
theorem cX10_putsActc {l : Launch} {v0 : Option Nat} {v1 : Int32} {v2 : Int32} {v3 : Int32} {σ : HpT} {σ' : HpT} (h : fX10_putsAct v0 v1 v2 v3 σ = some σ') : IsK σ v0 10 ∧ Ct l yX10_putsAct cX10_putsAct 4 none 0 0 [va_rf v0, .int v1, .int v2, .int v3] σ (.ok none) σ' 0 0 := by
  unfold fX10_putsAct at h
  replace h := bnP_s h
  obtain ⟨u, hk, h⟩ := h
  replace hk := isK_s hk
  refine ⟨hk, ?_⟩
  refine ct_start mi_X10_putsAct.1 rfl (al_le (al_1 (rf_cat _) (al_1 rfl (al_1 rfl (al_1 rfl al_n)))) (Nat.le_of_ble_eq_true rfl)) (ag_1 (rf_cat _) (ag_1 rfl (ag_1 rfl (ag_1 rfl ag_n)))) (fun Δ Γ B hE hnm => ?_)
  refine g_aload_n B 0 dX10_putsAct_0 rfl rfl ?_
  replace h := bnP_s h
  obtain ⟨x1, h2, h⟩ := h
  refine g_getR B fl_RX10_9 (by decide) dX10_putsAct_1 h2 ?_
  refine g_bipush (v := 9) B dX10_putsAct_4 (by decide) ?_
  refine g_bipush (v := 9) B dX10_putsAct_6 (by decide) ?_
  refine g_iload_n B 1 dX10_putsAct_8 rfl rfl ?_
  refine g_imul B dX10_putsAct_9 ?_
  refine g_iadd B dX10_putsAct_10 ?_
  refine g_iload_n B 2 dX10_putsAct_11 rfl rfl ?_
  refine g_iadd B dX10_putsAct_12 ?_
  refine g_iload_n B 3 dX10_putsAct_13 rfl rfl ?_
  replace h := bnP_s h
  obtain ⟨s5, h4, h⟩ := h
  refine g_iast B dX10_putsAct_14 h4 ?_
  replace h := Option.some.inj h
  subst h
  exact g_vret B hE (Nat.zero_le _) (Nat.zero_le _) dX10_putsAct_15
set_option maxRecDepth 100000 in
set_option maxHeartbeats 4000000 in
theorem cX10_opensClausec {l : Launch} {v0 : Option Nat} {v1 : Int32} {σ : HpT} {σ' : HpT} (h : fX10_opensClause v0 v1 σ = some σ') : IsK σ v0 10 ∧ Ct l yX10_opensClause cX10_opensClause 3 none 1 23 [va_rf v0, .int v1] σ (.ok none) σ' 0 0 := by
  unfold fX10_opensClause at h
  replace h := bnP_s h
  obtain ⟨u, hk, h⟩ := h
  replace hk := isK_s hk
  refine ⟨hk, ?_⟩
  refine ct_start mi_X10_opensClause.1 rfl (al_le (al_1 (rf_cat _) (al_1 rfl al_n)) (Nat.le_of_ble_eq_true rfl)) (ag_1 (rf_cat _) (ag_1 rfl ag_n)) (fun Δ Γ B hE hnm => ?_)
  refine g_aload_n B 0 dX10_opensClause_0 rfl rfl ?_
  replace h := bnP_s h
  obtain ⟨x1, h2, h⟩ := h
  refine g_getI B fl_RX10_132 (by decide) dX10_opensClause_1 h2 ?_
  refine g_iconst (v := 4) B dX10_opensClause_4 (by decide) ?_
  replace h := bnS_s h
  obtain ⟨j3, s11, h4, h⟩ := h
  have k6 : GW Δ Γ (0) (0) 13 [(0, va_rf v0), (1, .int v1)] [] s11 := by
    refine g_aload_n B 0 dX10_opensClause_13 rfl rfl ?_
    replace h := bnP_s h
    obtain ⟨x12, h13, h⟩ := h
    refine g_getI B fl_RX10_73 (by decide) dX10_opensClause_14 h13 ?_
    refine g_if_le B 21 dX10_opensClause_17 (by decide) (fun hc => ?_) (fun hc => ?_)
    · replace h := ifp hc h
      refine g_sipush (v := 3247) B dX10_opensClause_21 (by decide) ?_
      refine g_iconst (v := 3) B dX10_opensClause_24 (by decide) ?_
      refine g_aload_n B 0 dX10_opensClause_25 rfl rfl ?_
      replace h := bnP_s h
      obtain ⟨x14, h15, h⟩ := h
      refine g_getR B fl_RX10_9 (by decide) dX10_opensClause_26 h15 ?_
      refine g_iconst (v := 5) B dX10_opensClause_29 (by decide) ?_
      replace h := bnP_s h
      obtain ⟨x16, h17, h⟩ := h
      refine g_iald B dX10_opensClause_30 h17 ?_
      refine g_imul B dX10_opensClause_31 ?_
      refine g_iadd B dX10_opensClause_32 ?_
      refine g_istore_n B dX10_opensClause_33 rfl (Nat.le_of_ble_eq_true rfl) (s1_c (f1_k rfl (f1_1 rfl rfl f1_n))) ?_
      refine g_aload_n B 1 dX10_opensClause_34 rfl rfl ?_
      replace h := bnP_s h
      obtain ⟨x18, h19, h⟩ := h
      refine g_getR B fl_RX10_9 (by decide) dX10_opensClause_35 h19 ?_
      refine g_iload_n B 0 dX10_opensClause_38 rfl rfl ?_
      refine g_iconst (v := 0) B dX10_opensClause_39 (by decide) ?_
      refine g_iadd B dX10_opensClause_40 ?_
      refine g_aload_n B 1 dX10_opensClause_41 rfl rfl ?_
      replace h := bnP_s h
      obtain ⟨x20, h21, h⟩ := h
      refine g_getR B fl_RX10_9 (by decide) dX10_opensClause_42 h21 ?_
      refine g_iconst (v := 4) B dX10_opensClause_45 (by decide) ?_
      replace h := bnP_s h
      obtain ⟨x22, h23, h⟩ := h
      refine g_iald B dX10_opensClause_46 h23 ?_
      replace h := bnP_s h
      obtain ⟨s26, h25, h⟩ := h
      refine g_iast B dX10_opensClause_47 h25 ?_
      refine g_aload_n B 1 dX10_opensClause_48 rfl rfl ?_
      replace h := bnP_s h
      obtain ⟨x27, h28, h⟩ := h
      refine g_getR B fl_RX10_9 (by decide) dX10_opensClause_49 h28 ?_
      refine g_iload_n B 0 dX10_opensClause_52 rfl rfl ?_
      refine g_iconst (v := 1) B dX10_opensClause_53 (by decide) ?_
      refine g_iadd B dX10_opensClause_54 ?_
      refine g_iconst (v := (-1)) B dX10_opensClause_55 (by decide) ?_
      replace h := bnP_s h
      obtain ⟨s31, h30, h⟩ := h
      refine g_iast B dX10_opensClause_56 h30 ?_
      refine g_aload_n B 1 dX10_opensClause_57 rfl rfl ?_
      replace h := bnP_s h
      obtain ⟨x32, h33, h⟩ := h
      refine g_getR B fl_RX10_9 (by decide) dX10_opensClause_58 h33 ?_
      refine g_iload_n B 0 dX10_opensClause_61 rfl rfl ?_
      refine g_iconst (v := 2) B dX10_opensClause_62 (by decide) ?_
      refine g_iadd B dX10_opensClause_63 ?_
      refine g_aload_n B 1 dX10_opensClause_64 rfl rfl ?_
      replace h := bnP_s h
      obtain ⟨x34, h35, h⟩ := h
      refine g_getI B fl_RX10_135 (by decide) dX10_opensClause_65 h35 ?_
      replace h := bnP_s h
      obtain ⟨s38, h37, h⟩ := h
      refine g_iast B dX10_opensClause_68 h37 ?_
      refine g_aload_n B 1 dX10_opensClause_69 rfl rfl ?_
      replace h := bnP_s h
      obtain ⟨x39, h40, h⟩ := h
      refine g_getR B fl_RX10_9 (by decide) dX10_opensClause_70 h40 ?_
      refine g_iconst (v := 5) B dX10_opensClause_73 (by decide) ?_
      refine g_dup2 B dX10_opensClause_74 rfl (rf_cat _) ?_
      replace h := bnP_s h
      obtain ⟨x41, h42, h⟩ := h
      refine g_iald B dX10_opensClause_75 h42 ?_
      refine g_iconst (v := 1) B dX10_opensClause_76 (by decide) ?_
      refine g_iadd B dX10_opensClause_77 ?_
      replace h := bnP_s h
      obtain ⟨s45, h44, h⟩ := h
      refine g_iast B dX10_opensClause_78 h44 ?_
      refine g_aload_n B 1 dX10_opensClause_79 rfl rfl ?_
      refine g_iload_n B 2 dX10_opensClause_80 rfl rfl ?_
      refine g_bipush (v := 8) B dX10_opensClause_81 (by decide) ?_
      refine g_aload_n B 1 dX10_opensClause_83 rfl rfl ?_
      refine g_iload_n B 2 dX10_opensClause_84 rfl rfl ?_
      refine g_bipush (v := 8) B dX10_opensClause_85 (by decide) ?_
      replace h := bnP_s h
      obtain ⟨x46, h47, h⟩ := h
      refine g_callVs0 (st := [.int 8, .int v1, va_rf v0]) B (cX10_ofActc h47) (Nat.le_of_ble_eq_true rfl) rfl rfl mi_X10_ofAct lk_RX10_138 ⟨Nat.le_of_ble_eq_true rfl, Nat.le_of_ble_eq_true rfl⟩ rfl rfl (Nat.le_of_ble_eq_true rfl) dX10_opensClause_87 (Nat.zero_le _) (Nat.zero_le _) ?_
      refine g_iconst (v := 1) B dX10_opensClause_90 (by decide) ?_
      refine g_iadd B dX10_opensClause_91 ?_
      replace h := bnP_s h
      obtain ⟨s50, h49, h⟩ := h
      refine g_callVv0 (st := []) B (cX10_putsActc h49) (Nat.le_of_ble_eq_true rfl) rfl rfl mi_X10_putsAct lk_RX10_141 ⟨Nat.le_of_ble_eq_true rfl, Nat.le_of_ble_eq_true rfl⟩ rfl rfl (Nat.le_of_ble_eq_true rfl) dX10_opensClause_92 (Nat.zero_le _) (Nat.zero_le _) ?_
      refine g_aload_n B 1 dX10_opensClause_95 rfl rfl ?_
      refine g_aload_n B 1 dX10_opensClause_96 rfl rfl ?_
      replace h := bnP_s h
      obtain ⟨x51, h52, h⟩ := h
      refine g_getR B fl_RX10_9 (by decide) dX10_opensClause_97 h52 ?_
      refine g_iconst (v := 5) B dX10_opensClause_100 (by decide) ?_
      replace h := bnP_s h
      obtain ⟨x53, h54, h⟩ := h
      refine g_iald B dX10_opensClause_101 h54 ?_
      replace h := bnP_s h
      obtain ⟨s57, h56, h⟩ := h
      refine g_putI B fl_RX10_135 (by decide) dX10_opensClause_102 h56 ?_
      refine g_aload_n B 1 dX10_opensClause_105 rfl rfl ?_
      refine g_dup B dX10_opensClause_106 (rf_cat _) ?_
      replace h := bnP_s h
      obtain ⟨x58, h59, h⟩ := h
      refine g_getI B fl_RX10_132 (by decide) dX10_opensClause_107 h59 ?_
      refine g_iconst (v := 1) B dX10_opensClause_110 (by decide) ?_
      refine g_iadd B dX10_opensClause_111 ?_
      replace h := bnP_s h
      obtain ⟨s62, h61, h⟩ := h
      refine g_putI B fl_RX10_132 (by decide) dX10_opensClause_112 h61 ?_
      replace h := Option.some.inj h
      subst h
      exact g_vret B hE (Nat.zero_le _) (Nat.zero_le _) dX10_opensClause_115
    · replace h := ifn hc h
      replace h := Option.some.inj h
      subst h
      exact g_vret B hE (Nat.zero_le _) (Nat.zero_le _) dX10_opensClause_20
  clear h
  have h := h4
  clear h4
  refine g_icmp_ne B 13 dX10_opensClause_5 (by decide) (fun hc => ?_) (fun hc => ?_)
  · replace h := ifn hc h
    obtain ⟨w1, w2⟩ := inS h
    clear h
    subst w1
    subst w2
    exact g_sub [0, 1] rfl k6
  · replace h := ifp hc h
    refine g_aload_n B 0 dX10_opensClause_8 rfl rfl ?_
    refine g_iconst (v := 4) B dX10_opensClause_9 (by decide) ?_
    replace h := bnP_s h
    obtain ⟨s10, h9, h⟩ := h
    refine g_callVv0 (st := []) B (cX10_faultsc h9) (Nat.le_of_ble_eq_true rfl) rfl rfl mi_X10_faults lk_RX10_115 ⟨Nat.le_of_ble_eq_true rfl, Nat.le_of_ble_eq_true rfl⟩ rfl rfl (Nat.le_of_ble_eq_true rfl) dX10_opensClause_10 (Nat.zero_le _) (Nat.zero_le _) ?_
    obtain ⟨w1, w2⟩ := inS h
    clear h
    subst w1
    subst w2
    exact g_sub [0, 1] rfl k6
set_option maxRecDepth 100000 in
set_option maxHeartbeats 4000000 in
theorem cX10_ofClausec {l : Launch} {v0 : Option Nat} {v1 : Int32} {v2 : Int32} {σ : HpT} {r : Int32} (h : fX10_ofClause v0 v1 v2 σ = some r) : IsK σ v0 10 ∧ Ct l yX10_ofClause cX10_ofClause 3 (some .int) 0 0 [va_rf v0, .int v1, .int v2] σ (.ok (some (.int r))) σ 0 0 := by
  unfold fX10_ofClause at h
  replace h := bnP_s h
  obtain ⟨u, hk, h⟩ := h
  replace hk := isK_s hk
  refine ⟨hk, ?_⟩
  refine ct_start mi_X10_ofClause.1 rfl (al_le (al_1 (rf_cat _) (al_1 rfl (al_1 rfl al_n))) (Nat.le_of_ble_eq_true rfl)) (ag_1 (rf_cat _) (ag_1 rfl (ag_1 rfl ag_n))) (fun Δ Γ B hE hnm => ?_)
  refine g_aload_n B 0 dX10_ofClause_0 rfl rfl ?_
  replace h := bnP_s h
  obtain ⟨x1, h2, h⟩ := h
  refine g_getR B fl_RX10_9 (by decide) dX10_ofClause_1 h2 ?_
  refine g_sipush (v := 3247) B dX10_ofClause_4 (by decide) ?_
  refine g_iconst (v := 3) B dX10_ofClause_7 (by decide) ?_
  refine g_iload_n B 1 dX10_ofClause_8 rfl rfl ?_
  refine g_imul B dX10_ofClause_9 ?_
  refine g_iadd B dX10_ofClause_10 ?_
  refine g_iload_n B 2 dX10_ofClause_11 rfl rfl ?_
  refine g_iadd B dX10_ofClause_12 ?_
  replace h := bnP_s h
  obtain ⟨x3, h4, h⟩ := h
  refine g_iald B dX10_ofClause_13 h4 ?_
  replace h := Option.some.inj h
  subst h
  exact g_iret B hE (Nat.zero_le _) (Nat.zero_le _) dX10_ofClause_14
set_option maxRecDepth 100000 in
set_option maxHeartbeats 4000000 in
theorem cX10_closesClausec {l : Launch} {v0 : Option Nat} {σ : HpT} {σ' : HpT} (h : fX10_closesClause v0 σ = some σ') : IsK σ v0 10 ∧ Ct l yX10_closesClause cX10_closesClause 2 none 1 22 [va_rf v0] σ (.ok none) σ' 0 0 := by
  unfold fX10_closesClause at h
  replace h := bnP_s h
  obtain ⟨u, hk, h⟩ := h
  replace hk := isK_s hk
  refine ⟨hk, ?_⟩
  refine ct_start mi_X10_closesClause.1 rfl (al_le (al_1 (rf_cat _) al_n) (Nat.le_of_ble_eq_true rfl)) (ag_1 (rf_cat _) ag_n) (fun Δ Γ B hE hnm => ?_)
  refine g_aload_n B 0 dX10_closesClause_0 rfl rfl ?_
  replace h := bnP_s h
  obtain ⟨x1, h2, h⟩ := h
  refine g_getI B fl_RX10_135 (by decide) dX10_closesClause_1 h2 ?_
  refine g_iconst (v := 1) B dX10_closesClause_4 (by decide) ?_
  refine g_isub B dX10_closesClause_5 ?_
  refine g_istore_n B dX10_closesClause_6 rfl (Nat.le_of_ble_eq_true rfl) (s1_c (f1_1 rfl (rf_cat _) f1_n)) ?_
  refine g_aload_n B 1 dX10_closesClause_7 rfl rfl ?_
  replace h := bnP_s h
  obtain ⟨x3, h4, h⟩ := h
  refine g_getI B fl_RX10_132 (by decide) dX10_closesClause_8 h4 ?_
  replace h := bnS_s h
  obtain ⟨j5, s22, h6, h⟩ := h
  have k8 : GW Δ Γ (0) (0) 34 [(0, va_rf v0), (1, .int (x1 - 1))] [] s22 := by
    refine g_aload_n B 0 dX10_closesClause_34 rfl rfl ?_
    replace h := bnP_s h
    obtain ⟨x23, h24, h⟩ := h
    refine g_getI B fl_RX10_73 (by decide) dX10_closesClause_35 h24 ?_
    refine g_if_le B 42 dX10_closesClause_38 (by decide) (fun hc => ?_) (fun hc => ?_)
    · replace h := ifp hc h
      refine g_aload_n B 0 dX10_closesClause_42 rfl rfl ?_
      replace h := bnP_s h
      obtain ⟨x25, h26, h⟩ := h
      refine g_getR B fl_RX10_9 (by decide) dX10_closesClause_43 h26 ?_
      refine g_sipush (v := 3247) B dX10_closesClause_46 (by decide) ?_
      refine g_iconst (v := 3) B dX10_closesClause_49 (by decide) ?_
      refine g_iload_n B 1 dX10_closesClause_50 rfl rfl ?_
      refine g_imul B dX10_closesClause_51 ?_
      refine g_iadd B dX10_closesClause_52 ?_
      refine g_iconst (v := 1) B dX10_closesClause_53 (by decide) ?_
      refine g_iadd B dX10_closesClause_54 ?_
      refine g_aload_n B 0 dX10_closesClause_55 rfl rfl ?_
      replace h := bnP_s h
      obtain ⟨x27, h28, h⟩ := h
      refine g_getR B fl_RX10_9 (by decide) dX10_closesClause_56 h28 ?_
      refine g_iconst (v := 4) B dX10_closesClause_59 (by decide) ?_
      replace h := bnP_s h
      obtain ⟨x29, h30, h⟩ := h
      refine g_iald B dX10_closesClause_60 h30 ?_
      refine g_iconst (v := 1) B dX10_closesClause_61 (by decide) ?_
      refine g_isub B dX10_closesClause_62 ?_
      replace h := bnP_s h
      obtain ⟨s33, h32, h⟩ := h
      refine g_iast B dX10_closesClause_63 h32 ?_
      refine g_aload_n B 0 dX10_closesClause_64 rfl rfl ?_
      refine g_aload_n B 0 dX10_closesClause_65 rfl rfl ?_
      refine g_iload_n B 1 dX10_closesClause_66 rfl rfl ?_
      refine g_iconst (v := 2) B dX10_closesClause_67 (by decide) ?_
      replace h := bnP_s h
      obtain ⟨x34, h35, h⟩ := h
      refine g_callVs0 (st := [va_rf v0]) B (cX10_ofClausec h35) (Nat.le_of_ble_eq_true rfl) rfl rfl mi_X10_ofClause lk_RX10_145 ⟨Nat.le_of_ble_eq_true rfl, Nat.le_of_ble_eq_true rfl⟩ rfl rfl (Nat.le_of_ble_eq_true rfl) dX10_closesClause_68 (Nat.zero_le _) (Nat.zero_le _) ?_
      replace h := bnP_s h
      obtain ⟨s38, h37, h⟩ := h
      refine g_putI B fl_RX10_135 (by decide) dX10_closesClause_71 h37 ?_
      refine g_aload_n B 0 dX10_closesClause_74 rfl rfl ?_
      refine g_dup B dX10_closesClause_75 (rf_cat _) ?_
      replace h := bnP_s h
      obtain ⟨x39, h40, h⟩ := h
      refine g_getI B fl_RX10_132 (by decide) dX10_closesClause_76 h40 ?_
      refine g_iconst (v := 1) B dX10_closesClause_79 (by decide) ?_
      refine g_isub B dX10_closesClause_80 ?_
      replace h := bnP_s h
      obtain ⟨s43, h42, h⟩ := h
      refine g_putI B fl_RX10_132 (by decide) dX10_closesClause_81 h42 ?_
      replace h := Option.some.inj h
      subst h
      exact g_vret B hE (Nat.zero_le _) (Nat.zero_le _) dX10_closesClause_84
    · replace h := ifn hc h
      replace h := Option.some.inj h
      subst h
      exact g_vret B hE (Nat.zero_le _) (Nat.zero_le _) dX10_closesClause_41
  clear h
  have h := h6
  clear h6
  refine g_if_eq B 29 dX10_closesClause_11 (by decide) (fun hc => ?_) (fun hc => ?_)
  · replace h := ifp hc h
    refine g_aload_n B 1 dX10_closesClause_29 rfl rfl ?_
    refine g_iconst (v := 1) B dX10_closesClause_30 (by decide) ?_
    replace h := bnP_s h
    obtain ⟨s12, h11, h⟩ := h
    refine g_callVv0 (st := []) B (cX10_faultsc h11) (Nat.le_of_ble_eq_true rfl) rfl rfl mi_X10_faults lk_RX10_115 ⟨Nat.le_of_ble_eq_true rfl, Nat.le_of_ble_eq_true rfl⟩ rfl rfl (Nat.le_of_ble_eq_true rfl) dX10_closesClause_31 (Nat.zero_le _) (Nat.zero_le _) ?_
    obtain ⟨w1, w2⟩ := inS h
    clear h
    subst w1
    subst w2
    exact g_sub [1, 0] rfl k8
  · replace h := ifn hc h
    refine g_aload_n B 1 dX10_closesClause_14 rfl rfl ?_
    refine g_iload_n B 0 dX10_closesClause_15 rfl rfl ?_
    refine g_iconst (v := 0) B dX10_closesClause_16 (by decide) ?_
    replace h := bnP_s h
    obtain ⟨x13, h14, h⟩ := h
    refine g_callVs0 (st := []) B (cX10_ofClausec h14) (Nat.le_of_ble_eq_true rfl) rfl rfl mi_X10_ofClause lk_RX10_145 ⟨Nat.le_of_ble_eq_true rfl, Nat.le_of_ble_eq_true rfl⟩ rfl rfl (Nat.le_of_ble_eq_true rfl) dX10_closesClause_17 (Nat.zero_le _) (Nat.zero_le _) ?_
    refine g_aload_n B 1 dX10_closesClause_20 rfl rfl ?_
    replace h := bnP_s h
    obtain ⟨x15, h16, h⟩ := h
    refine g_getR B fl_RX10_9 (by decide) dX10_closesClause_21 h16 ?_
    refine g_iconst (v := 4) B dX10_closesClause_24 (by decide) ?_
    replace h := bnP_s h
    obtain ⟨x17, h18, h⟩ := h
    refine g_iald B dX10_closesClause_25 h18 ?_
    refine g_icmp_ne B 34 dX10_closesClause_26 (by decide) (fun hc => ?_) (fun hc => ?_)
    · replace h := ifn hc h
      obtain ⟨w1, w2⟩ := inS h
      clear h
      subst w1
      subst w2
      exact g_sub [1, 0] rfl k8
    · replace h := ifp hc h
      refine g_aload_n B 1 dX10_closesClause_29 rfl rfl ?_
      refine g_iconst (v := 1) B dX10_closesClause_30 (by decide) ?_
      replace h := bnP_s h
      obtain ⟨s21, h20, h⟩ := h
      refine g_callVv0 (st := []) B (cX10_faultsc h20) (Nat.le_of_ble_eq_true rfl) rfl rfl mi_X10_faults lk_RX10_115 ⟨Nat.le_of_ble_eq_true rfl, Nat.le_of_ble_eq_true rfl⟩ rfl rfl (Nat.le_of_ble_eq_true rfl) dX10_closesClause_31 (Nat.zero_le _) (Nat.zero_le _) ?_
      obtain ⟨w1, w2⟩ := inS h
      clear h
      subst w1
      subst w2
      exact g_sub [1, 0] rfl k8
set_option maxRecDepth 100000 in
set_option maxHeartbeats 4000000 in
theorem cX10_leavesc {l : Launch} {v0 : Option Nat} {σ : HpT} {r : Int32} (h : fX10_leaves v0 σ = some r) : IsK σ v0 10 ∧ Ct l yX10_leaves cX10_leaves 1 (some .int) 0 0 [va_rf v0] σ (.ok (some (.int r))) σ 0 0 := by
  unfold fX10_leaves at h
  replace h := bnP_s h
  obtain ⟨u, hk, h⟩ := h
  replace hk := isK_s hk
  refine ⟨hk, ?_⟩
  refine ct_start mi_X10_leaves.1 rfl (al_le (al_1 (rf_cat _) al_n) (Nat.le_of_ble_eq_true rfl)) (ag_1 (rf_cat _) ag_n) (fun Δ Γ B hE hnm => ?_)
  refine g_aload_n B 0 dX10_leaves_0 rfl rfl ?_
  replace h := bnP_s h
  obtain ⟨x1, h2, h⟩ := h
  refine g_getR B fl_RX10_9 (by decide) dX10_leaves_1 h2 ?_
  refine g_iconst (v := 4) B dX10_leaves_4 (by decide) ?_
  replace h := bnP_s h
  obtain ⟨x3, h4, h⟩ := h
  refine g_iald B dX10_leaves_5 h4 ?_
  refine g_aload_n B 0 dX10_leaves_6 rfl rfl ?_
  replace h := bnP_s h
  obtain ⟨x5, h6, h⟩ := h
  refine g_getR B fl_RX10_9 (by decide) dX10_leaves_7 h6 ?_
  refine g_iconst (v := 0) B dX10_leaves_10 (by decide) ?_
  replace h := bnP_s h
  obtain ⟨x7, h8, h⟩ := h
  refine g_iald B dX10_leaves_11 h8 ?_
  refine g_iadd B dX10_leaves_12 ?_
  refine g_iconst (v := 1) B dX10_leaves_13 (by decide) ?_
  refine g_isub B dX10_leaves_14 ?_
  refine g_aload_n B 0 dX10_leaves_15 rfl rfl ?_
  replace h := bnP_s h
  obtain ⟨x9, h10, h⟩ := h
  refine g_getR B fl_RX10_9 (by decide) dX10_leaves_16 h10 ?_
  refine g_iconst (v := 0) B dX10_leaves_19 (by decide) ?_
  replace h := bnP_s h
  obtain ⟨x11, h12, h⟩ := h
  refine g_iald B dX10_leaves_20 h12 ?_
  replace h := bnP_s h
  obtain ⟨u13, h14, h⟩ := h
  refine g_idiv B dX10_leaves_21 (nz_s h14) ?_
  replace h := Option.some.inj h
  subst h
  exact g_iret B hE (Nat.zero_le _) (Nat.zero_le _) dX10_leaves_22
set_option maxRecDepth 100000 in
set_option maxHeartbeats 4000000 in
theorem cX10_mateOfc {l : Launch} {v0 : Option Nat} {v1 : Int32} {σ : HpT} {r : Int32} (h : fX10_mateOf v0 v1 σ = some r) : IsK σ v0 10 ∧ Ct l yX10_mateOf cX10_mateOf 3 (some .int) 1 20 [va_rf v0, .int v1] σ (.ok (some (.int r))) σ 0 0 := by
  unfold fX10_mateOf at h
  replace h := bnP_s h
  obtain ⟨u, hk, h⟩ := h
  replace hk := isK_s hk
  refine ⟨hk, ?_⟩
  refine ct_start mi_X10_mateOf.1 rfl (al_le (al_1 (rf_cat _) (al_1 rfl al_n)) (Nat.le_of_ble_eq_true rfl)) (ag_1 (rf_cat _) (ag_1 rfl ag_n)) (fun Δ Γ B hE hnm => ?_)
  refine g_iload_n B 1 dX10_mateOf_0 rfl rfl ?_
  refine g_aload_n B 0 dX10_mateOf_1 rfl rfl ?_
  replace h := bnP_s h
  obtain ⟨x1, h2, h⟩ := h
  refine g_getR B fl_RX10_9 (by decide) dX10_mateOf_2 h2 ?_
  refine g_iconst (v := 2) B dX10_mateOf_5 (by decide) ?_
  replace h := bnP_s h
  obtain ⟨x3, h4, h⟩ := h
  refine g_iald B dX10_mateOf_6 h4 ?_
  replace h := bnP_s h
  obtain ⟨u5, h6, h⟩ := h
  refine g_idiv B dX10_mateOf_7 (nz_s h6) ?_
  refine g_aload_n B 0 dX10_mateOf_8 rfl rfl ?_
  replace h := bnP_s h
  obtain ⟨x7, h8, h⟩ := h
  refine g_getR B fl_RX10_9 (by decide) dX10_mateOf_9 h8 ?_
  refine g_iconst (v := 2) B dX10_mateOf_12 (by decide) ?_
  replace h := bnP_s h
  obtain ⟨x9, h10, h⟩ := h
  refine g_iald B dX10_mateOf_13 h10 ?_
  refine g_imul B dX10_mateOf_14 ?_
  refine g_aload_n B 0 dX10_mateOf_15 rfl rfl ?_
  replace h := bnP_s h
  obtain ⟨x11, h12, h⟩ := h
  refine g_getR B fl_RX10_9 (by decide) dX10_mateOf_16 h12 ?_
  refine g_iconst (v := 2) B dX10_mateOf_19 (by decide) ?_
  replace h := bnP_s h
  obtain ⟨x13, h14, h⟩ := h
  refine g_iald B dX10_mateOf_20 h14 ?_
  refine g_iadd B dX10_mateOf_21 ?_
  refine g_iconst (v := 1) B dX10_mateOf_22 (by decide) ?_
  refine g_isub B dX10_mateOf_23 ?_
  refine g_iload_n B 1 dX10_mateOf_24 rfl rfl ?_
  refine g_aload_n B 0 dX10_mateOf_25 rfl rfl ?_
  replace h := bnP_s h
  obtain ⟨x15, h16, h⟩ := h
  refine g_getR B fl_RX10_9 (by decide) dX10_mateOf_26 h16 ?_
  refine g_iconst (v := 2) B dX10_mateOf_29 (by decide) ?_
  replace h := bnP_s h
  obtain ⟨x17, h18, h⟩ := h
  refine g_iald B dX10_mateOf_30 h18 ?_
  replace h := bnP_s h
  obtain ⟨u19, h20, h⟩ := h
  refine g_irem B dX10_mateOf_31 (nz_s h20) ?_
  refine g_isub B dX10_mateOf_32 ?_
  refine g_istore_n B dX10_mateOf_33 rfl (Nat.le_of_ble_eq_true rfl) (s1_c (f1_k rfl (f1_1 rfl rfl f1_n))) ?_
  refine g_iload_n B 0 dX10_mateOf_34 rfl rfl ?_
  refine g_iload_n B 2 dX10_mateOf_35 rfl rfl ?_
  refine g_icmp_eq B 47 dX10_mateOf_36 (by decide) (fun hc => ?_) (fun hc => ?_)
  · replace h := ifp hc h
    refine g_iconst (v := (-1)) B dX10_mateOf_47 (by decide) ?_
    refine g_goto B 52 dX10_mateOf_48 (by decide) ?_
    replace h := Option.some.inj h
    subst h
    exact g_iret B hE (Nat.zero_le _) (Nat.zero_le _) dX10_mateOf_52
  · replace h := ifn hc h
    refine g_iload_n B 0 dX10_mateOf_39 rfl rfl ?_
    refine g_aload_n B 1 dX10_mateOf_40 rfl rfl ?_
    replace h := bnP_s h
    obtain ⟨x21, h22, h⟩ := h
    refine g_callVs0 (st := [.int (((((v1 / x3) * x9) + x13) - 1) - (v1 - v1 / x17 * x17))]) B (cX10_leavesc h22) (Nat.le_of_ble_eq_true rfl) rfl rfl mi_X10_leaves lk_RX10_231 ⟨Nat.le_of_ble_eq_true rfl, Nat.le_of_ble_eq_true rfl⟩ rfl rfl (Nat.le_of_ble_eq_true rfl) dX10_mateOf_41 (Nat.zero_le _) (Nat.zero_le _) ?_
    refine g_icmp_lt B 51 dX10_mateOf_44 (by decide) (fun hc => ?_) (fun hc => ?_)
    · replace h := ifp hc h
      refine g_iload_n B 0 dX10_mateOf_51 rfl rfl ?_
      replace h := Option.some.inj h
      subst h
      exact g_iret B hE (Nat.zero_le _) (Nat.zero_le _) dX10_mateOf_52
    · replace h := ifn hc h
      refine g_iconst (v := (-1)) B dX10_mateOf_47 (by decide) ?_
      refine g_goto B 52 dX10_mateOf_48 (by decide) ?_
      replace h := Option.some.inj h
      subst h
      exact g_iret B hE (Nat.zero_le _) (Nat.zero_le _) dX10_mateOf_52
